-- THE WALKS, written by program
set_option maxRecDepth 100000 in
set_option maxHeartbeats 4000000 in
theorem c_M_countsMore (l : Launch) (D : va_G) (g : Ad) : ∀ (d : Nat) {σ σr : St} {p1 p2 r : Int} (hR : R32 σ) (i_p1 : in32 p1) (i_p2 : in32 p2) (h : M_countsMore d σ p1 p2 = some (r, σr)), CtV l D g yX8_countsMore cX8_countsMore 3 none (2 + d) (wM g σ) (wM g σr) [.ref (g.2 100), .int (I p1), .int (I p2)] (R32 σr) := by
  intro d
  induction d with
  | zero => intros; rename_i h; cases h
  | succ d ih =>
    intro σ σr p1 p2 r hR i_p1 i_p2 h sz
    refine met_of (by decide) (Nat.le_of_ble_eq_true rfl) (fun p e s m args below meth c ls H locs C0 hml hr hlk hE hl => ?_)
    have C0 : CX p c cX8_countsMore m s args D g RX8 := C0
    have hl : lv_has ls 3 [(0, .ref (g.2 100)), (1, .int (I p1)), (2, .int (I p2))] := hl
    unfold M_countsMore at h
    refine lv_aload_n C0.1 C0.2.1 dX8_countsMore_0 rfl (lv_at hl 0 rfl) ?_
    refine lv_dup C0.1 C0.2.1 dX8_countsMore_1 rfl ?_
    obtain ⟨v1, e_v1, i_v1, h⟩ := gf_s hR h
    refine M_g_steps C0 hE e_v1 fk_X8_179 dX8_countsMore_2 ?_
    refine lv_iconst (v := I 1) C0.1 C0.2.1 dX8_countsMore_5 rfl ?_
    obtain ⟨v2, e_v2, i_v2, h⟩ := oadd_s h
    refine x_add C0 e_v2 dX8_countsMore_6 ?_
    obtain ⟨s3, e_s3, hR, h⟩ := pf_s hR i_v2 h
    refine M_p_steps C0 hE e_s3 fk_X8_179 dX8_countsMore_7 (fun H locs hE => ?_)
    refine lv_iload_n C0.1 C0.2.1 dX8_countsMore_10 rfl (lv_at hl 1 rfl) ?_
    refine x_if_eq C0 i_p1 dX8_countsMore_11 (tgt := 18) (by decide) (fun c9 => ?_) (fun c9 => ?_)
    · have h := ite_t c9 h
      exact ret_v (wf := wM g) C0 hr hlk hE h hR dX8_countsMore_18
    · have h := ite_f c9 h
      refine lv_iload_n C0.1 C0.2.1 dX8_countsMore_14 rfl (lv_at hl 2 rfl) ?_
      refine x_if_ne C0 i_p2 dX8_countsMore_15 (tgt := 19) (by decide) (fun c9 => ?_) (fun c9 => ?_)
      · have h := ite_f c9 h
        refine lv_iload_n C0.1 C0.2.1 dX8_countsMore_19 rfl (lv_at hl 2 rfl) ?_
        refine lv_iconst (v := I 2) C0.1 C0.2.1 dX8_countsMore_20 rfl ?_
        obtain ⟨v4, e_v4, i_v4, h⟩ := orem_s lit_2 h
        refine x_rem C0 i_p2 lit_2 e_v4 dX8_countsMore_21 ?_
        refine lv_iconst (v := I 1) C0.1 C0.2.1 dX8_countsMore_22 rfl ?_
        refine x_icmp_ne C0 i_v4 lit_1 dX8_countsMore_23 (tgt := 42) (by decide) (fun c9 => ?_) (fun c9 => ?_)
        · have h := ite_f c9 h
          refine lv_aload_n C0.1 C0.2.1 dX8_countsMore_42 rfl (lv_at hl 0 rfl) ?_
          refine lv_iload_n C0.1 C0.2.1 dX8_countsMore_43 rfl (lv_at hl 1 rfl) ?_
          obtain ⟨v5, h_v5, h⟩ := bndp_s h
          refine callS_i (rest := [.ref (g.2 100)]) C0 hml hE (c_M_rightSize l D g (σ := s3) i_p1 h_v5) kw_X8_173 (by simp only [rmk, RD]; omega) rfl hl.1 rfl (Nat.le_of_ble_eq_true rfl) dX8_countsMore_44 ⟨Nat.zero_le _, Nat.zero_le _⟩ (fun H locs hE i_v5 => ?_)
          refine lv_iload_n C0.1 C0.2.1 dX8_countsMore_47 rfl (lv_at hl 2 rfl) ?_
          refine lv_iconst (v := I 2) C0.1 C0.2.1 dX8_countsMore_48 rfl ?_
          obtain ⟨v6, e_v6, i_v6, h⟩ := osub_s h
          refine x_sub C0 e_v6 dX8_countsMore_49 ?_
          refine lv_iconst (v := I 2) C0.1 C0.2.1 dX8_countsMore_50 rfl ?_
          obtain ⟨v7, e_v7, i_v7, h⟩ := odiv_s i_v6 h
          refine x_div C0 i_v6 lit_2 e_v7 dX8_countsMore_51 ?_
          obtain ⟨v8, s9, h_v8, h⟩ := bnd_s h
          refine callV_v (rest := []) C0 hml hE (M_rec C0 hE) (ih hR i_v5 i_v7 h_v8) kw_X8_182 (by simp only [rmk, RD]; omega) rfl hl.1 rfl (Nat.le_of_ble_eq_true rfl) dX8_countsMore_52 ⟨Nat.zero_le _, Nat.zero_le _⟩ (fun H locs hE hR => ?_)
          exact ret_v (wf := wM g) C0 hr hlk hE h hR dX8_countsMore_55
        · have h := ite_t c9 h
          refine lv_aload_n C0.1 C0.2.1 dX8_countsMore_26 rfl (lv_at hl 0 rfl) ?_
          refine lv_iload_n C0.1 C0.2.1 dX8_countsMore_27 rfl (lv_at hl 1 rfl) ?_
          obtain ⟨v10, h_v10, h⟩ := bndp_s h
          refine callS_i (rest := [.ref (g.2 100)]) C0 hml hE (c_M_leftSize l D g (σ := s3) i_p1 h_v10) kw_X8_169 (by simp only [rmk, RD]; omega) rfl hl.1 rfl (Nat.le_of_ble_eq_true rfl) dX8_countsMore_28 ⟨Nat.zero_le _, Nat.zero_le _⟩ (fun H locs hE i_v10 => ?_)
          refine lv_iload_n C0.1 C0.2.1 dX8_countsMore_31 rfl (lv_at hl 2 rfl) ?_
          refine lv_iconst (v := I 1) C0.1 C0.2.1 dX8_countsMore_32 rfl ?_
          obtain ⟨v11, e_v11, i_v11, h⟩ := osub_s h
          refine x_sub C0 e_v11 dX8_countsMore_33 ?_
          refine lv_iconst (v := I 2) C0.1 C0.2.1 dX8_countsMore_34 rfl ?_
          obtain ⟨v12, e_v12, i_v12, h⟩ := odiv_s i_v11 h
          refine x_div C0 i_v11 lit_2 e_v12 dX8_countsMore_35 ?_
          obtain ⟨v13, s14, h_v13, h⟩ := bnd_s h
          refine callV_v (rest := []) C0 hml hE (M_rec C0 hE) (ih hR i_v10 i_v12 h_v13) kw_X8_182 (by simp only [rmk, RD]; omega) rfl hl.1 rfl (Nat.le_of_ble_eq_true rfl) dX8_countsMore_36 ⟨Nat.zero_le _, Nat.zero_le _⟩ (fun H locs hE hR => ?_)
          refine x_goto C0 dX8_countsMore_39 (tgt := 55) (by decide) ?_
          exact ret_v (wf := wM g) C0 hr hlk hE h hR dX8_countsMore_55
      · have h := ite_t c9 h
        exact ret_v (wf := wM g) C0 hr hlk hE h hR dX8_countsMore_18
set_option maxRecDepth 100000 in
set_option maxHeartbeats 4000000 in
theorem c_M_counts (l : Launch) (D : va_G) (g : Ad) : ∀ (d : Nat) {σ σr : St} {p1 r : Int} (hR : R32 σ) (i_p1 : in32 p1) (h : M_counts d σ p1 = some (r, σr)), CtV l D g yX8_counts cX8_counts 2 none (15 + d) (wM g σ) (wM g σr) [.ref (g.2 100), .int (I p1)] (R32 σr) := by
  intro d
  induction d with
  | zero => intros; rename_i h; cases h
  | succ d ih =>
    intro σ σr p1 r hR i_p1 h sz
    refine met_of (by decide) (Nat.le_of_ble_eq_true rfl) (fun p e s m args below meth c ls H locs C0 hml hr hlk hE hl => ?_)
    have C0 : CX p c cX8_counts m s args D g RX8 := C0
    have hl : lv_has ls 2 [(0, .ref (g.2 100)), (1, .int (I p1))] := hl
    unfold M_counts at h
    refine lv_aload_n C0.1 C0.2.1 dX8_counts_0 rfl (lv_at hl 0 rfl) ?_
    refine lv_dup C0.1 C0.2.1 dX8_counts_1 rfl ?_
    obtain ⟨v1, e_v1, i_v1, h⟩ := gf_s hR h
    refine M_g_steps C0 hE e_v1 fk_X8_179 dX8_counts_2 ?_
    refine lv_iconst (v := I 1) C0.1 C0.2.1 dX8_counts_5 rfl ?_
    obtain ⟨v2, e_v2, i_v2, h⟩ := oadd_s h
    refine x_add C0 e_v2 dX8_counts_6 ?_
    obtain ⟨s3, e_s3, hR, h⟩ := pf_s hR i_v2 h
    refine M_p_steps C0 hE e_s3 fk_X8_179 dX8_counts_7 (fun H locs hE => ?_)
    refine lv_iload_n C0.1 C0.2.1 dX8_counts_10 rfl (lv_at hl 1 rfl) ?_
    refine x_if_ne C0 i_p1 dX8_counts_11 (tgt := 15) (by decide) (fun c9 => ?_) (fun c9 => ?_)
    · have h := ite_f c9 h
      refine lv_aload_n C0.1 C0.2.1 dX8_counts_15 rfl (lv_at hl 0 rfl) ?_
      refine lv_iload_n C0.1 C0.2.1 dX8_counts_16 rfl (lv_at hl 1 rfl) ?_
      obtain ⟨v4, h_v4, h⟩ := bndp_s h
      refine callS_i (rest := [.ref (g.2 100)]) C0 hml hE (c_M_rightSize l D g (σ := s3) i_p1 h_v4) kw_X8_173 (by simp only [rmk, RD]; omega) rfl hl.1 rfl (Nat.le_of_ble_eq_true rfl) dX8_counts_17 ⟨Nat.zero_le _, Nat.zero_le _⟩ (fun H locs hE i_v4 => ?_)
      obtain ⟨v5, s6, h_v5, h⟩ := bnd_s h
      refine callV_v (rest := []) C0 hml hE (M_rec C0 hE) (ih hR i_v4 h_v5) kw_X8_185 (by simp only [rmk, RD]; omega) rfl hl.1 rfl (Nat.le_of_ble_eq_true rfl) dX8_counts_20 ⟨Nat.zero_le _, Nat.zero_le _⟩ (fun H locs hE hR => ?_)
      refine lv_aload_n C0.1 C0.2.1 dX8_counts_23 rfl (lv_at hl 0 rfl) ?_
      refine lv_iload_n C0.1 C0.2.1 dX8_counts_24 rfl (lv_at hl 1 rfl) ?_
      obtain ⟨v7, h_v7, h⟩ := bndp_s h
      refine callS_i (rest := [.ref (g.2 100)]) C0 hml hE (c_M_leftSize l D g (σ := s6) i_p1 h_v7) kw_X8_169 (by simp only [rmk, RD]; omega) rfl hl.1 rfl (Nat.le_of_ble_eq_true rfl) dX8_counts_25 ⟨Nat.zero_le _, Nat.zero_le _⟩ (fun H locs hE i_v7 => ?_)
      refine lv_iload_n C0.1 C0.2.1 dX8_counts_28 rfl (lv_at hl 1 rfl) ?_
      obtain ⟨v8, h_v8, h⟩ := bndp_s h
      refine callS_i (rest := [.int (I v7), .ref (g.2 100)]) C0 hml hE (c_M_rightSize l D g (σ := s6) i_p1 h_v8) kw_X8_173 (by simp only [rmk, RD]; omega) rfl hl.1 rfl (Nat.le_of_ble_eq_true rfl) dX8_counts_29 ⟨Nat.zero_le _, Nat.zero_le _⟩ (fun H locs hE i_v8 => ?_)
      obtain ⟨v9, s10, h_v9, h⟩ := bnd_s h
      refine callV_v (rest := []) C0 hml hE (M_rec C0 hE) (c_M_countsMore l D g RD hR i_v7 i_v8 h_v9) kw_X8_182 (by simp only [rmk, RD]; omega) rfl hl.1 rfl (Nat.le_of_ble_eq_true rfl) dX8_counts_32 ⟨Nat.zero_le _, Nat.zero_le _⟩ (fun H locs hE hR => ?_)
      exact ret_v (wf := wM g) C0 hr hlk hE h hR dX8_counts_35
    · have h := ite_t c9 h
      exact ret_v (wf := wM g) C0 hr hlk hE h hR dX8_counts_14
set_option maxRecDepth 100000 in
set_option maxHeartbeats 4000000 in
theorem c_M_deepest (l : Launch) (D : va_G) (g : Ad) {σ : St} {p1 r : Int} (i_p1 : in32 p1) (h : M_deepest p1 = some r) : CtI l D g yX8_deepest cX8_deepest 3 (some .int) 2 (wM g σ) (wM g σ) [.int (I p1)] r (in32 r) := by
  intro sz
  refine met_of (by decide) (Nat.le_of_ble_eq_true rfl) (fun p e s m args below meth c ls H locs C0 hml hr hlk hE hl => ?_)
  have C0 : CX p c cX8_deepest m s args D g RX8 := C0
  have hl : lv_has ls 3 [(0, .int (I p1))] := hl
  unfold M_deepest at h
  refine lv_iconst (v := I (-1)) C0.1 C0.2.1 dX8_deepest_0 rfl ?_
  refine lv_istore_n (lv' := [(1, .int (I (-1))), (0, .int (I p1))]) C0.1 C0.2.1 dX8_deepest_1 rfl hl (by decide) rfl (fun ls hl => ?_)
  refine lv_iload_n C0.1 C0.2.1 dX8_deepest_2 rfl (lv_at hl 1 rfl) ?_
  refine lv_istore_n (lv' := [(2, .int (I p1)), (1, .int (I (-1))), (0, .int (I p1))]) C0.1 C0.2.1 dX8_deepest_3 rfl hl (by decide) rfl (fun ls hl => ?_)
  have hL4 : ∀ (n : Nat) (x1 : Int) (i_x1 : in32 x1) (x2 : Int) (i_x2 : in32 x2) (H : Heap) (locs : List Loc) (ls : Array Slot), EW D (va_A (wM g σ) sz) s.heap (wM g σ) H locs → lv_has ls 3 [(1, .int (I x1)), (2, .int (I x2))] → M_deepest_L4 n x1 x2 = some r → W p l e (rmk 2) s m args below meth c H locs 0 0 (MQ below (QCi D (wM g σ) r (in32 r) (va_A (wM g σ) sz)) args s 0 0 (va_A (wM g σ) sz)) (F0 m 4 ls []) := by
    intro n
    induction n with
    | zero => intros; rename_i h; cases h
    | succ n ih3 =>
      intro x1 i_x1 x2 i_x2 H locs ls hE hl h
      unfold M_deepest_L4 at h
      refine lv_iload_n C0.1 C0.2.1 dX8_deepest_4 rfl (lv_at hl 1 rfl) ?_
      refine x_if_le C0 i_x2 dX8_deepest_5 (tgt := 19) (by decide) (fun c9 => ?_) (fun c9 => ?_)
      · have h := ite_f c9 h
        refine lv_iload_n C0.1 C0.2.1 dX8_deepest_19 rfl (lv_at hl 0 rfl) ?_
        exact pret_i C0 hr hlk hE h i_x1 dX8_deepest_20
      · have h := ite_t c9 h
        obtain ⟨v4, e_v4, i_v4, h⟩ := oadd_s h
        refine x_iinc (lv' := [(1, .int (I v4)), (2, .int (I x2))]) C0 dX8_deepest_8 hl (k := 0) rfl e_v4 (by decide) rfl (fun ls hl => ?_)
        refine lv_iload_n C0.1 C0.2.1 dX8_deepest_11 rfl (lv_at hl 1 rfl) ?_
        obtain ⟨v5, h_v5, h⟩ := bndp_s h
        refine callS_i (rest := []) C0 hml hE (c_M_leftSize l D g (σ := σ) i_x2 h_v5) kw_X8_169 ⟨Nat.le_of_ble_eq_true rfl, Nat.le_of_ble_eq_true rfl⟩ rfl hl.1 rfl (Nat.le_of_ble_eq_true rfl) dX8_deepest_12 ⟨Nat.zero_le _, Nat.zero_le _⟩ (fun H locs hE i_v5 => ?_)
        refine lv_istore_n (lv' := [(2, .int (I v5)), (1, .int (I v4))]) C0.1 C0.2.1 dX8_deepest_15 rfl hl (by decide) rfl (fun ls hl => ?_)
        refine x_goto C0 dX8_deepest_16 (tgt := 4) (by decide) ?_
        exact ih3 v4 i_v4 v5 i_v5 _ _ _ hE (lv_sub hl [1, 0] rfl) h
  exact hL4 FU (-1) lit_m1 p1 i_p1 _ _ _ hE (lv_sub hl [1, 0] rfl) h
set_option maxRecDepth 100000 in
set_option maxHeartbeats 4000000 in
theorem c_M_size (l : Launch) (D : va_G) (g : Ad) {σ σr : St} {p1 r : Int} (hR : R32 σ) (i_p1 : in32 p1) (h : M_size σ p1 = some (r, σr)) : CtI l D g yX8_size cX8_size 2 (some .int) 28 (wM g σ) (wM g σr) [.ref (g.2 100), .int (I p1)] r (in32 r ∧ R32 σr) := by
  intro sz
  refine met_of (by decide) (Nat.le_of_ble_eq_true rfl) (fun p e s m args below meth c ls H locs C0 hml hr hlk hE hl => ?_)
  have C0 : CX p c cX8_size m s args D g RX8 := C0
  have hl : lv_has ls 2 [(0, .ref (g.2 100)), (1, .int (I p1))] := hl
  unfold M_size at h
  refine lv_aload_n C0.1 C0.2.1 dX8_size_0 rfl (lv_at hl 0 rfl) ?_
  refine lv_iconst (v := I 0) C0.1 C0.2.1 dX8_size_1 rfl ?_
  obtain ⟨s1, e_s1, hR, h⟩ := pf_s hR lit_0 h
  refine M_p_thrown C0 hE e_s1 fk_X8_55 dX8_size_2 (fun H locs hE => ?_)
  refine lv_iload_n C0.1 C0.2.1 dX8_size_5 rfl (lv_at hl 1 rfl) ?_
  obtain ⟨v2, h_v2, h⟩ := bndp_s h
  refine callS_i (rest := []) C0 hml hE (c_M_isPlace l D g (σ := s1) i_p1 h_v2) kw_X8_134 ⟨Nat.le_of_ble_eq_true rfl, Nat.le_of_ble_eq_true rfl⟩ rfl hl.1 rfl (Nat.le_of_ble_eq_true rfl) dX8_size_6 ⟨Nat.zero_le _, Nat.zero_le _⟩ (fun H locs hE i_v2 => ?_)
  refine x_if_ne C0 i_v2 dX8_size_9 (tgt := 14) (by decide) (fun c9 => ?_) (fun c9 => ?_)
  · have h := ite_f c9 h
    refine lv_aload_n C0.1 C0.2.1 dX8_size_14 rfl (lv_at hl 0 rfl) ?_
    refine lv_iconst (v := I 0) C0.1 C0.2.1 dX8_size_15 rfl ?_
    obtain ⟨s3, e_s3, hR, h⟩ := pf_s hR lit_0 h
    refine M_p_steps C0 hE e_s3 fk_X8_179 dX8_size_16 (fun H locs hE => ?_)
    refine lv_aload_n C0.1 C0.2.1 dX8_size_19 rfl (lv_at hl 0 rfl) ?_
    refine lv_aload_n C0.1 C0.2.1 dX8_size_20 rfl (lv_at hl 0 rfl) ?_
    refine M_g_sizes C0 hE fk_X8_16 dX8_size_21 ?_
    refine lv_iload_n C0.1 C0.2.1 dX8_size_24 rfl (lv_at hl 1 rfl) ?_
    obtain ⟨v4, e_v4, i_v4, h⟩ := rd_s hR h
    refine M_sizes_l C0 hE i_p1 e_v4 dX8_size_25 ?_
    obtain ⟨v5, s6, h_v5, h⟩ := bnd_s h
    refine callV_v (rest := []) C0 hml hE (M_rec C0 hE) (c_M_counts l D g RD hR i_v4 h_v5) kw_X8_185 ⟨Nat.le_of_ble_eq_true rfl, Nat.le_of_ble_eq_true rfl⟩ rfl hl.1 rfl (Nat.le_of_ble_eq_true rfl) dX8_size_26 ⟨Nat.zero_le _, Nat.zero_le _⟩ (fun H locs hE hR => ?_)
    refine lv_aload_n C0.1 C0.2.1 dX8_size_29 rfl (lv_at hl 0 rfl) ?_
    refine lv_iconst (v := I 0) C0.1 C0.2.1 dX8_size_30 rfl ?_
    obtain ⟨s7, e_s7, hR, h⟩ := pf_s hR lit_0 h
    refine M_p_rowMany C0 hE e_s7 fk_X8_59 dX8_size_31 (fun H locs hE => ?_)
    refine lv_aload_n C0.1 C0.2.1 dX8_size_34 rfl (lv_at hl 0 rfl) ?_
    refine lv_aload_n C0.1 C0.2.1 dX8_size_35 rfl (lv_at hl 0 rfl) ?_
    obtain ⟨v8, e_v8, i_v8, h⟩ := gf_s hR h
    refine M_g_steps C0 hE e_v8 fk_X8_179 dX8_size_36 ?_
    refine x_i2l C0 i_v8 dX8_size_39 ?_
    obtain ⟨v9, s10, h_v9, h⟩ := bnd_s h
    refine callV_v (rest := []) C0 hml hE (M_rec C0 hE) (c_M_tell l D g hR (in64_of i_v8) h_v9) kw_X8_150 ⟨Nat.le_of_ble_eq_true rfl, Nat.le_of_ble_eq_true rfl⟩ rfl hl.1 rfl (Nat.le_of_ble_eq_true rfl) dX8_size_40 ⟨Nat.zero_le _, Nat.zero_le _⟩ (fun H locs hE hR => ?_)
    refine lv_aload_n C0.1 C0.2.1 dX8_size_43 rfl (lv_at hl 0 rfl) ?_
    refine lv_aload_n C0.1 C0.2.1 dX8_size_44 rfl (lv_at hl 0 rfl) ?_
    refine M_g_sizes C0 hE fk_X8_16 dX8_size_45 ?_
    refine lv_iload_n C0.1 C0.2.1 dX8_size_48 rfl (lv_at hl 1 rfl) ?_
    obtain ⟨v11, e_v11, i_v11, h⟩ := rd_s hR h
    refine M_sizes_l C0 hE i_p1 e_v11 dX8_size_49 ?_
    obtain ⟨v12, h_v12, h⟩ := bndp_s h
    refine callS_i (rest := [.ref (g.2 100)]) C0 hml hE (c_M_deepest l D g (σ := s10) i_v11 h_v12) kw_X8_188 ⟨Nat.le_of_ble_eq_true rfl, Nat.le_of_ble_eq_true rfl⟩ rfl hl.1 rfl (Nat.le_of_ble_eq_true rfl) dX8_size_50 ⟨Nat.zero_le _, Nat.zero_le _⟩ (fun H locs hE i_v12 => ?_)
    refine x_i2l C0 i_v12 dX8_size_53 ?_
    obtain ⟨v13, s14, h_v13, h⟩ := bnd_s h
    refine callV_v (rest := []) C0 hml hE (M_rec C0 hE) (c_M_tell l D g hR (in64_of i_v12) h_v13) kw_X8_150 ⟨Nat.le_of_ble_eq_true rfl, Nat.le_of_ble_eq_true rfl⟩ rfl hl.1 rfl (Nat.le_of_ble_eq_true rfl) dX8_size_54 ⟨Nat.zero_le _, Nat.zero_le _⟩ (fun H locs hE hR => ?_)
    refine lv_aload_n C0.1 C0.2.1 dX8_size_57 rfl (lv_at hl 0 rfl) ?_
    refine M_g_sizes C0 hE fk_X8_16 dX8_size_58 ?_
    refine lv_iload_n C0.1 C0.2.1 dX8_size_61 rfl (lv_at hl 1 rfl) ?_
    obtain ⟨v15, e_v15, i_v15, h⟩ := rd_s hR h
    refine M_sizes_l C0 hE i_p1 e_v15 dX8_size_62 ?_
    exact ret_i (wf := wM g) C0 hr hlk hE h i_v15 hR dX8_size_63
  · have h := ite_t c9 h
    refine lv_iconst (v := I (-1)) C0.1 C0.2.1 dX8_size_12 rfl ?_
    exact ret_i (wf := wM g) C0 hr hlk hE h lit_m1 hR dX8_size_13
set_option maxRecDepth 100000 in
set_option maxHeartbeats 4000000 in
theorem c_M_isIndex (l : Launch) (D : va_G) (g : Ad) {σ : St} {p1 p2 r : Int} (hR : R32 σ) (i_p1 : in32 p1) (i_p2 : in32 p2) (h : M_isIndex σ p1 p2 = some r) : CtI l D g yX8_isIndex cX8_isIndex 3 (some .boolean) 2 (wM g σ) (wM g σ) [.ref (g.2 100), .int (I p1), .int (I p2)] r (in32 r) := by
  intro sz
  refine met_of (by decide) (Nat.le_of_ble_eq_true rfl) (fun p e s m args below meth c ls H locs C0 hml hr hlk hE hl => ?_)
  have C0 : CX p c cX8_isIndex m s args D g RX8 := C0
  have hl : lv_has ls 3 [(0, .ref (g.2 100)), (1, .int (I p1)), (2, .int (I p2))] := hl
  unfold M_isIndex at h
  refine lv_iload_n C0.1 C0.2.1 dX8_isIndex_0 rfl (lv_at hl 2 rfl) ?_
  refine x_i2l C0 i_p2 dX8_isIndex_1 ?_
  refine lv_lconst (v := J 0) C0.1 C0.2.1 dX8_isIndex_2 (by decide +kernel) ?_
  refine lv_aload_n C0.1 C0.2.1 dX8_isIndex_3 rfl (lv_at hl 0 rfl) ?_
  refine M_g_sizes C0 hE fk_X8_16 dX8_isIndex_4 ?_
  refine lv_iload_n C0.1 C0.2.1 dX8_isIndex_7 rfl (lv_at hl 1 rfl) ?_
  obtain ⟨v1, e_v1, i_v1, h⟩ := rd_s hR h
  refine M_sizes_l C0 hE i_p1 e_v1 dX8_isIndex_8 ?_
  refine lv_iconst (v := I 1) C0.1 C0.2.1 dX8_isIndex_9 rfl ?_
  obtain ⟨v2, e_v2, i_v2, h⟩ := osub_s h
  refine x_sub C0 e_v2 dX8_isIndex_10 ?_
  refine x_i2l C0 i_v2 dX8_isIndex_11 ?_
  obtain ⟨v3, h_v3, h⟩ := bndp_s h
  refine callS_i (rest := []) C0 hml hE (c_M_in l D g (σ := σ) (in64_of i_p2) (by decide) (in64_of i_v2) h_v3) kw_X8_65 ⟨Nat.le_of_ble_eq_true rfl, Nat.le_of_ble_eq_true rfl⟩ rfl hl.1 rfl (Nat.le_of_ble_eq_true rfl) dX8_isIndex_12 ⟨Nat.zero_le _, Nat.zero_le _⟩ (fun H locs hE i_v3 => ?_)
  obtain ⟨z9, h⟩ := retZp_s h
  exact pret_z C0 hr hlk hE z9 h dX8_isIndex_15
set_option maxRecDepth 100000 in
set_option maxHeartbeats 4000000 in
theorem c_M_get (l : Launch) (D : va_G) (g : Ad) {σ σr : St} {p1 p2 r : Int} (hR : R32 σ) (i_p1 : in32 p1) (i_p2 : in32 p2) (h : M_get σ p1 p2 = some (r, σr)) : CtI l D g yX8_get cX8_get 3 (some .int) 3 (wM g σ) (wM g σr) [.ref (g.2 100), .int (I p1), .int (I p2)] r (in32 r ∧ R32 σr) := by
  intro sz
  refine met_of (by decide) (Nat.le_of_ble_eq_true rfl) (fun p e s m args below meth c ls H locs C0 hml hr hlk hE hl => ?_)
  have C0 : CX p c cX8_get m s args D g RX8 := C0
  have hl : lv_has ls 3 [(0, .ref (g.2 100)), (1, .int (I p1)), (2, .int (I p2))] := hl
  unfold M_get at h
  refine lv_aload_n C0.1 C0.2.1 dX8_get_0 rfl (lv_at hl 0 rfl) ?_
  refine lv_iconst (v := I 0) C0.1 C0.2.1 dX8_get_1 rfl ?_
  obtain ⟨s1, e_s1, hR, h⟩ := pf_s hR lit_0 h
  refine M_p_thrown C0 hE e_s1 fk_X8_55 dX8_get_2 (fun H locs hE => ?_)
  refine lv_iload_n C0.1 C0.2.1 dX8_get_5 rfl (lv_at hl 1 rfl) ?_
  obtain ⟨v2, h_v2, h⟩ := bndp_s h
  refine callS_i (rest := []) C0 hml hE (c_M_isPlace l D g (σ := s1) i_p1 h_v2) kw_X8_134 ⟨Nat.le_of_ble_eq_true rfl, Nat.le_of_ble_eq_true rfl⟩ rfl hl.1 rfl (Nat.le_of_ble_eq_true rfl) dX8_get_6 ⟨Nat.zero_le _, Nat.zero_le _⟩ (fun H locs hE i_v2 => ?_)
  refine x_if_eq C0 i_v2 dX8_get_9 (tgt := 30) (by decide) (fun c9 => ?_) (fun c9 => ?_)
  · have h := ite_t c9 h
    refine lv_sipush (v := I (-1000)) C0.1 C0.2.1 dX8_get_30 (by decide +kernel) ?_
    exact ret_i (wf := wM g) C0 hr hlk hE h lit_m1000 hR dX8_get_33
  · have h := ite_f c9 h
    refine lv_aload_n C0.1 C0.2.1 dX8_get_12 rfl (lv_at hl 0 rfl) ?_
    refine lv_iload_n C0.1 C0.2.1 dX8_get_13 rfl (lv_at hl 1 rfl) ?_
    refine lv_iload_n C0.1 C0.2.1 dX8_get_14 rfl (lv_at hl 2 rfl) ?_
    obtain ⟨v3, h_v3, h⟩ := bndp_s h
    refine callV_i (rest := []) C0 hml hE (M_rec C0 hE) (c_M_isIndex l D g hR i_p1 i_p2 h_v3) kw_X8_191 ⟨Nat.le_of_ble_eq_true rfl, Nat.le_of_ble_eq_true rfl⟩ rfl hl.1 rfl (Nat.le_of_ble_eq_true rfl) dX8_get_15 ⟨Nat.zero_le _, Nat.zero_le _⟩ (fun H locs hE i_v3 => ?_)
    refine x_if_eq C0 i_v3 dX8_get_18 (tgt := 30) (by decide) (fun c9 => ?_) (fun c9 => ?_)
    · have h := ite_t c9 h
      refine lv_sipush (v := I (-1000)) C0.1 C0.2.1 dX8_get_30 (by decide +kernel) ?_
      exact ret_i (wf := wM g) C0 hr hlk hE h lit_m1000 hR dX8_get_33
    · have h := ite_f c9 h
      refine lv_aload_n C0.1 C0.2.1 dX8_get_21 rfl (lv_at hl 0 rfl) ?_
      refine lv_iload_n C0.1 C0.2.1 dX8_get_22 rfl (lv_at hl 1 rfl) ?_
      refine lv_iload_n C0.1 C0.2.1 dX8_get_23 rfl (lv_at hl 2 rfl) ?_
      obtain ⟨v4, h_v4, h⟩ := bndp_s h
      refine callV_i (rest := []) C0 hml hE (M_rec C0 hE) (c_M_number l D g hR i_p1 i_p2 h_v4) kw_X8_99 ⟨Nat.le_of_ble_eq_true rfl, Nat.le_of_ble_eq_true rfl⟩ rfl hl.1 rfl (Nat.le_of_ble_eq_true rfl) dX8_get_24 ⟨Nat.zero_le _, Nat.zero_le _⟩ (fun H locs hE i_v4 => ?_)
      refine x_goto C0 dX8_get_27 (tgt := 33) (by decide) ?_
      exact ret_i (wf := wM g) C0 hr hlk hE h i_v4 hR dX8_get_33
set_option maxRecDepth 100000 in
set_option maxHeartbeats 4000000 in
theorem c_M_laysWay (l : Launch) (D : va_G) (g : Ad) {σ σr : St} {p1 r : Int} (hR : R32 σ) (i_p1 : in32 p1) (h : M_laysWay σ p1 = some (r, σr)) : CtV l D g yX8_laysWay cX8_laysWay 6 none 1 (wM g σ) (wM g σr) [.ref (g.2 100), .int (I p1)] (R32 σr) := by
  intro sz
  refine met_of (by decide) (Nat.le_of_ble_eq_true rfl) (fun p e s m args below meth c ls H locs C0 hml hr hlk hE hl => ?_)
  have C0 : CX p c cX8_laysWay m s args D g RX8 := C0
  have hl : lv_has ls 6 [(0, .ref (g.2 100)), (1, .int (I p1))] := hl
  unfold M_laysWay at h
  refine lv_iconst (v := I 0) C0.1 C0.2.1 dX8_laysWay_0 rfl ?_
  refine lv_istore_n (lv' := [(2, .int (I 0)), (0, .ref (g.2 100)), (1, .int (I p1))]) C0.1 C0.2.1 dX8_laysWay_1 rfl hl (by decide) rfl (fun ls hl => ?_)
  refine lv_iconst (v := I 1) C0.1 C0.2.1 dX8_laysWay_2 rfl ?_
  refine lv_istore_n (lv' := [(3, .int (I 1)), (2, .int (I 0)), (0, .ref (g.2 100)), (1, .int (I p1))]) C0.1 C0.2.1 dX8_laysWay_3 rfl hl (by decide) rfl (fun ls hl => ?_)
  refine lv_iload_n C0.1 C0.2.1 dX8_laysWay_4 rfl (lv_at hl 3 rfl) ?_
  refine lv_istore (lv' := [(4, .int (I p1)), (3, .int (I 1)), (2, .int (I 0)), (0, .ref (g.2 100)), (1, .int (I p1))]) C0.1 C0.2.1 dX8_laysWay_5 hl (by decide) rfl (fun ls hl => ?_)
  refine lv_aload_n C0.1 C0.2.1 dX8_laysWay_7 rfl (lv_at hl 3 rfl) ?_
  refine lv_iconst (v := I 0) C0.1 C0.2.1 dX8_laysWay_8 rfl ?_
  obtain ⟨s1, e_s1, hR, h⟩ := pf_s hR lit_0 h
  refine M_p_wayMany C0 hE e_s1 fk_X8_89 dX8_laysWay_9 (fun H locs hE => ?_)
  refine lv_aload_n C0.1 C0.2.1 dX8_laysWay_12 rfl (lv_at hl 3 rfl) ?_
  refine lv_iconst (v := I 0) C0.1 C0.2.1 dX8_laysWay_13 rfl ?_
  obtain ⟨s2, e_s2, hR, h⟩ := pf_s hR lit_0 h
  refine M_p_wayBits C0 hE e_s2 fk_X8_92 dX8_laysWay_14 (fun H locs hE => ?_)
  obtain ⟨k5, e_k5, h⟩ := jn_s h
  have h_k5 : ∀ (s3 : St) (hR : R32 s3) (x4 : Int) (i_x4 : in32 x4) (H : Heap) (locs : List Loc) (ls : Array Slot), EW D (va_A (wM g σ) sz) s.heap (wM g s3) H locs → lv_has ls 6 [(0, .ref (g.2 100)), (2, .int (I x4))] → k5 s3 x4 = some (r, σr) → W p l e (rmk 1) s m args below meth c H locs 0 0 (MQ below (QCv D (wM g σr) (R32 σr) (va_A (wM g σ) sz)) args s 0 0 (va_A (wM g σ) sz)) (F0 m 121 ls []) := by
    intro s3 hR x4 i_x4 H locs ls hE hl h
    have h := (congrFun (congrFun e_k5 s3) x4).symm.trans h
    refine lv_aload_n C0.1 C0.2.1 dX8_laysWay_121 rfl (lv_at hl 0 rfl) ?_
    refine M_g_way C0 hE fk_X8_27 dX8_laysWay_122 ?_
    refine lv_aload_n C0.1 C0.2.1 dX8_laysWay_125 rfl (lv_at hl 0 rfl) ?_
    obtain ⟨v6, e_v6, i_v6, h⟩ := gf_s hR h
    refine M_g_wayMany C0 hE e_v6 fk_X8_89 dX8_laysWay_126 ?_
    refine lv_iload_n C0.1 C0.2.1 dX8_laysWay_129 rfl (lv_at hl 1 rfl) ?_
    obtain ⟨s7, e_s7, hR, h⟩ := wr_s hR i_x4 h
    refine M_way_st C0 hE i_v6 e_s7 dX8_laysWay_130 (fun H locs hE => ?_)
    refine lv_aload_n C0.1 C0.2.1 dX8_laysWay_131 rfl (lv_at hl 0 rfl) ?_
    refine lv_dup C0.1 C0.2.1 dX8_laysWay_132 rfl ?_
    obtain ⟨v8, e_v8, i_v8, h⟩ := gf_s hR h
    refine M_g_wayMany C0 hE e_v8 fk_X8_89 dX8_laysWay_133 ?_
    refine lv_iconst (v := I 1) C0.1 C0.2.1 dX8_laysWay_136 rfl ?_
    obtain ⟨v9, e_v9, i_v9, h⟩ := oadd_s h
    refine x_add C0 e_v9 dX8_laysWay_137 ?_
    obtain ⟨s10, e_s10, hR, h⟩ := pf_s hR i_v9 h
    refine M_p_wayMany C0 hE e_s10 fk_X8_89 dX8_laysWay_138 (fun H locs hE => ?_)
    exact ret_v (wf := wM g) C0 hr hlk hE h hR dX8_laysWay_141
  have hL17 : ∀ (n : Nat) (s14 : St) (hR : R32 s14) (x11 : Int) (i_x11 : in32 x11) (x12 : Int) (i_x12 : in32 x12) (x13 : Int) (i_x13 : in32 x13) (H : Heap) (locs : List Loc) (ls : Array Slot), EW D (va_A (wM g σ) sz) s.heap (wM g s14) H locs → lv_has ls 6 [(0, .ref (g.2 100)), (2, .int (I x11)), (3, .int (I x12)), (4, .int (I x13))] → M_laysWay_L17 k5 n s14 x11 x12 x13 = some (r, σr) → W p l e (rmk 1) s m args below meth c H locs 0 0 (MQ below (QCv D (wM g σr) (R32 σr) (va_A (wM g σ) sz)) args s 0 0 (va_A (wM g σ) sz)) (F0 m 17 ls []) := by
    intro n
    induction n with
    | zero => intros; rename_i h; cases h
    | succ n ih15 =>
      intro s14 hR x11 i_x11 x12 i_x12 x13 i_x13 H locs ls hE hl h
      unfold M_laysWay_L17 at h
      refine lv_iload C0.1 C0.2.1 dX8_laysWay_17 (lv_at hl 3 rfl) ?_
      refine x_if_le C0 i_x13 dX8_laysWay_19 (tgt := 121) (by decide) (fun c9 => ?_) (fun c9 => ?_)
      · have h := ite_f c9 h
        exact h_k5 s14 hR x11 i_x11 _ _ _ hE (lv_sub hl [0, 1] rfl) h
      · have h := ite_t c9 h
        refine lv_aload_n C0.1 C0.2.1 dX8_laysWay_22 rfl (lv_at hl 0 rfl) ?_
        refine M_g_way C0 hE fk_X8_27 dX8_laysWay_23 ?_
        refine lv_aload_n C0.1 C0.2.1 dX8_laysWay_26 rfl (lv_at hl 0 rfl) ?_
        obtain ⟨v16, e_v16, i_v16, h⟩ := gf_s hR h
        refine M_g_wayMany C0 hE e_v16 fk_X8_89 dX8_laysWay_27 ?_
        refine lv_iload_n C0.1 C0.2.1 dX8_laysWay_30 rfl (lv_at hl 1 rfl) ?_
        obtain ⟨s17, e_s17, hR, h⟩ := wr_s hR i_x11 h
        refine M_way_st C0 hE i_v16 e_s17 dX8_laysWay_31 (fun H locs hE => ?_)
        refine lv_aload_n C0.1 C0.2.1 dX8_laysWay_32 rfl (lv_at hl 0 rfl) ?_
        refine lv_dup C0.1 C0.2.1 dX8_laysWay_33 rfl ?_
        obtain ⟨v18, e_v18, i_v18, h⟩ := gf_s hR h
        refine M_g_wayMany C0 hE e_v18 fk_X8_89 dX8_laysWay_34 ?_
        refine lv_iconst (v := I 1) C0.1 C0.2.1 dX8_laysWay_37 rfl ?_
        obtain ⟨v19, e_v19, i_v19, h⟩ := oadd_s h
        refine x_add C0 e_v19 dX8_laysWay_38 ?_
        obtain ⟨s20, e_s20, hR, h⟩ := pf_s hR i_v19 h
        refine M_p_wayMany C0 hE e_s20 fk_X8_89 dX8_laysWay_39 (fun H locs hE => ?_)
        refine lv_iload C0.1 C0.2.1 dX8_laysWay_42 (lv_at hl 3 rfl) ?_
        refine lv_iconst (v := I 2) C0.1 C0.2.1 dX8_laysWay_44 rfl ?_
        obtain ⟨v21, e_v21, i_v21, h⟩ := orem_s lit_2 h
        refine x_rem C0 i_x13 lit_2 e_v21 dX8_laysWay_45 ?_
        obtain ⟨v22, e_v22, i_v22, h⟩ := oif_s h
        have kk_v22 : W p l e (rmk 1) s m args below meth c H locs 0 0 (MQ below (QCv D (wM g σr) (R32 σr) (va_A (wM g σ) sz)) args s 0 0 (va_A (wM g σ) sz)) (F0 m 54 ls [.int (I v22)]) := by
          refine lv_istore (lv' := [(5, .int (I v22)), (0, .ref (g.2 100)), (2, .int (I x11)), (3, .int (I x12)), (4, .int (I x13))]) C0.1 C0.2.1 dX8_laysWay_54 hl (by decide) rfl (fun ls hl => ?_)
          refine lv_iload_n C0.1 C0.2.1 dX8_laysWay_56 rfl (lv_at hl 2 rfl) ?_
          refine lv_iload C0.1 C0.2.1 dX8_laysWay_57 (lv_at hl 0 rfl) ?_
          obtain ⟨v23, e_v23, i_v23, h⟩ := oif_s h
          have kk_v23 : W p l e (rmk 1) s m args below meth c H locs 0 0 (MQ below (QCv D (wM g σr) (R32 σr) (va_A (wM g σ) sz)) args s 0 0 (va_A (wM g σ) sz)) (F0 m 69 ls [.int (I v23), .int (I x11)]) := by
            obtain ⟨v24, e_v24, i_v24, h⟩ := oadd_s h
            refine x_add C0 e_v24 dX8_laysWay_69 ?_
            refine lv_istore_n (lv' := [(2, .int (I v24)), (5, .int (I v22)), (0, .ref (g.2 100)), (3, .int (I x12)), (4, .int (I x13))]) C0.1 C0.2.1 dX8_laysWay_70 rfl hl (by decide) rfl (fun ls hl => ?_)
            refine lv_iload C0.1 C0.2.1 dX8_laysWay_71 (lv_at hl 1 rfl) ?_
            obtain ⟨k26, e_k26, h⟩ := jn_s h
            have h_k26 : ∀ (x25 : Int) (i_x25 : in32 x25) (H : Heap) (locs : List Loc) (ls : Array Slot), EW D (va_A (wM g σ) sz) s.heap (wM g s20) H locs → lv_has ls 6 [(0, .ref (g.2 100)), (2, .int (I v24)), (3, .int (I x12)), (5, .int (I v22))] → k26 x25 = some (r, σr) → W p l e (rmk 1) s m args below meth c H locs 0 0 (MQ below (QCv D (wM g σr) (R32 σr) (va_A (wM g σ) sz)) args s 0 0 (va_A (wM g σ) sz)) (F0 m 91 ls [.int (I x25)]) := by
              intro x25 i_x25 H locs ls hE hl h
              have h := (congrFun e_k26 x25).symm.trans h
              refine lv_istore (lv' := [(4, .int (I x25)), (0, .ref (g.2 100)), (2, .int (I v24)), (3, .int (I x12)), (5, .int (I v22))]) C0.1 C0.2.1 dX8_laysWay_91 hl (by decide) rfl (fun ls hl => ?_)
              refine lv_iload_n C0.1 C0.2.1 dX8_laysWay_93 rfl (lv_at hl 3 rfl) ?_
              refine lv_iconst (v := I 2) C0.1 C0.2.1 dX8_laysWay_94 rfl ?_
              obtain ⟨v27, e_v27, i_v27, h⟩ := omul_s h
              refine x_mul C0 e_v27 dX8_laysWay_95 ?_
              refine lv_istore_n (lv' := [(3, .int (I v27)), (4, .int (I x25)), (0, .ref (g.2 100)), (2, .int (I v24)), (5, .int (I v22))]) C0.1 C0.2.1 dX8_laysWay_96 rfl hl (by decide) rfl (fun ls hl => ?_)
              refine lv_aload_n C0.1 C0.2.1 dX8_laysWay_97 rfl (lv_at hl 2 rfl) ?_
              refine lv_iconst (v := I 2) C0.1 C0.2.1 dX8_laysWay_98 rfl ?_
              refine lv_aload_n C0.1 C0.2.1 dX8_laysWay_99 rfl (lv_at hl 2 rfl) ?_
              obtain ⟨v28, e_v28, i_v28, h⟩ := gf_s hR h
              refine M_g_wayBits C0 hE e_v28 fk_X8_92 dX8_laysWay_100 ?_
              obtain ⟨v29, e_v29, i_v29, h⟩ := omul_s h
              refine x_mul C0 e_v29 dX8_laysWay_103 ?_
              refine lv_iload C0.1 C0.2.1 dX8_laysWay_104 (lv_at hl 4 rfl) ?_
              obtain ⟨v30, e_v30, i_v30, h⟩ := oif_s h
              have kk_v30 : W p l e (rmk 1) s m args below meth c H locs 0 0 (MQ below (QCv D (wM g σr) (R32 σr) (va_A (wM g σ) sz)) args s 0 0 (va_A (wM g σ) sz)) (F0 m 114 ls [.int (I v30), .int (I v29), .ref (g.2 100)]) := by
                obtain ⟨v31, e_v31, i_v31, h⟩ := oadd_s h
                refine x_add C0 e_v31 dX8_laysWay_114 ?_
                obtain ⟨s32, e_s32, hR, h⟩ := pf_s hR i_v31 h
                refine M_p_wayBits C0 hE e_s32 fk_X8_92 dX8_laysWay_115 (fun H locs hE => ?_)
                refine x_goto C0 dX8_laysWay_118 (tgt := 17) (by decide) ?_
                exact ih15 s32 hR v24 i_v24 v27 i_v27 x25 i_x25 _ _ _ hE (lv_sub hl [2, 3, 0, 1] rfl) h
              refine x_if_eq C0 i_v22 dX8_laysWay_106 (tgt := 113) (by decide) (fun c9 => ?_) (fun c9 => ?_)
              · have e9 := e_v30.trans (if_pos c9)
                refine lv_iconst (v := I 0) C0.1 C0.2.1 dX8_laysWay_113 rfl ?_
                rw [e9] at kk_v30; exact kk_v30
              · have e9 := e_v30.trans (if_neg c9)
                refine lv_iconst (v := I 1) C0.1 C0.2.1 dX8_laysWay_109 rfl ?_
                refine x_goto C0 dX8_laysWay_110 (tgt := 114) (by decide) ?_
                rw [e9] at kk_v30; exact kk_v30
            refine x_if_eq C0 i_v22 dX8_laysWay_73 (tgt := 85) (by decide) (fun c9 => ?_) (fun c9 => ?_)
            · have h := ite_t c9 h
              refine lv_iload C0.1 C0.2.1 dX8_laysWay_85 (lv_at hl 4 rfl) ?_
              refine lv_iconst (v := I 1) C0.1 C0.2.1 dX8_laysWay_87 rfl ?_
              obtain ⟨v33, e_v33, i_v33, h⟩ := osub_s h
              refine x_sub C0 e_v33 dX8_laysWay_88 ?_
              refine lv_iconst (v := I 2) C0.1 C0.2.1 dX8_laysWay_89 rfl ?_
              obtain ⟨v34, e_v34, i_v34, h⟩ := odiv_s i_v33 h
              refine x_div C0 i_v33 lit_2 e_v34 dX8_laysWay_90 ?_
              exact h_k26 v34 i_v34 _ _ _ hE (lv_sub hl [2, 0, 3, 1] rfl) h
            · have h := ite_f c9 h
              refine lv_iload C0.1 C0.2.1 dX8_laysWay_76 (lv_at hl 4 rfl) ?_
              refine lv_iconst (v := I 2) C0.1 C0.2.1 dX8_laysWay_78 rfl ?_
              obtain ⟨v35, e_v35, i_v35, h⟩ := osub_s h
              refine x_sub C0 e_v35 dX8_laysWay_79 ?_
              refine lv_iconst (v := I 2) C0.1 C0.2.1 dX8_laysWay_80 rfl ?_
              obtain ⟨v36, e_v36, i_v36, h⟩ := odiv_s i_v35 h
              refine x_div C0 i_v35 lit_2 e_v36 dX8_laysWay_81 ?_
              refine x_goto C0 dX8_laysWay_82 (tgt := 91) (by decide) ?_
              exact h_k26 v36 i_v36 _ _ _ hE (lv_sub hl [2, 0, 3, 1] rfl) h
          refine x_if_eq C0 i_v22 dX8_laysWay_59 (tgt := 68) (by decide) (fun c9 => ?_) (fun c9 => ?_)
          · have e9 := e_v23.trans (if_pos c9)
            refine lv_iload_n C0.1 C0.2.1 dX8_laysWay_68 rfl (lv_at hl 3 rfl) ?_
            rw [e9] at kk_v23; exact kk_v23
          · have e9 := e_v23.trans (if_neg c9)
            refine lv_iconst (v := I 2) C0.1 C0.2.1 dX8_laysWay_62 rfl ?_
            refine lv_iload_n C0.1 C0.2.1 dX8_laysWay_63 rfl (lv_at hl 3 rfl) ?_
            refine x_mul (v := 2 * x12) C0 rfl dX8_laysWay_64 ?_
            refine x_goto C0 dX8_laysWay_65 (tgt := 69) (by decide) ?_
            rw [e9] at kk_v23; exact kk_v23
        refine x_if_ne C0 i_v21 dX8_laysWay_46 (tgt := 53) (by decide) (fun c9 => ?_) (fun c9 => ?_)
        · have e9 := e_v22.trans (if_neg c9)
          refine lv_iconst (v := I 0) C0.1 C0.2.1 dX8_laysWay_53 rfl ?_
          rw [e9] at kk_v22; exact kk_v22
        · have e9 := e_v22.trans (if_pos c9)
          refine lv_iconst (v := I 1) C0.1 C0.2.1 dX8_laysWay_49 rfl ?_
          refine x_goto C0 dX8_laysWay_50 (tgt := 54) (by decide) ?_
          rw [e9] at kk_v22; exact kk_v22
  exact hL17 FU s2 hR 0 lit_0 1 lit_1 p1 i_p1 _ _ _ hE (lv_sub hl [3, 2, 1, 0] rfl) h
set_option maxRecDepth 100000 in
set_option maxHeartbeats 4000000 in
theorem c_M_path (l : Launch) (D : va_G) (g : Ad) {σ σr : St} {p1 p2 r : Int} (hR : R32 σ) (i_p1 : in32 p1) (i_p2 : in32 p2) (h : M_path σ p1 p2 = some (r, σr)) : CtI l D g yX8_path cX8_path 3 (some .int) 3 (wM g σ) (wM g σr) [.ref (g.2 100), .int (I p1), .int (I p2)] r (in32 r ∧ R32 σr) := by
  intro sz
  refine met_of (by decide) (Nat.le_of_ble_eq_true rfl) (fun p e s m args below meth c ls H locs C0 hml hr hlk hE hl => ?_)
  have C0 : CX p c cX8_path m s args D g RX8 := C0
  have hl : lv_has ls 3 [(0, .ref (g.2 100)), (1, .int (I p1)), (2, .int (I p2))] := hl
  unfold M_path at h
  refine lv_aload_n C0.1 C0.2.1 dX8_path_0 rfl (lv_at hl 0 rfl) ?_
  refine lv_iconst (v := I 0) C0.1 C0.2.1 dX8_path_1 rfl ?_
  obtain ⟨s1, e_s1, hR, h⟩ := pf_s hR lit_0 h
  refine M_p_thrown C0 hE e_s1 fk_X8_55 dX8_path_2 (fun H locs hE => ?_)
  refine lv_iload_n C0.1 C0.2.1 dX8_path_5 rfl (lv_at hl 1 rfl) ?_
  obtain ⟨v2, h_v2, h⟩ := bndp_s h
  refine callS_i (rest := []) C0 hml hE (c_M_isPlace l D g (σ := s1) i_p1 h_v2) kw_X8_134 ⟨Nat.le_of_ble_eq_true rfl, Nat.le_of_ble_eq_true rfl⟩ rfl hl.1 rfl (Nat.le_of_ble_eq_true rfl) dX8_path_6 ⟨Nat.zero_le _, Nat.zero_le _⟩ (fun H locs hE i_v2 => ?_)
  refine x_if_eq C0 i_v2 dX8_path_9 (tgt := 21) (by decide) (fun c9 => ?_) (fun c9 => ?_)
  · have h := ite_t c9 h
    refine lv_iconst (v := I (-1)) C0.1 C0.2.1 dX8_path_21 rfl ?_
    exact ret_i (wf := wM g) C0 hr hlk hE h lit_m1 hR dX8_path_22
  · have h := ite_f c9 h
    refine lv_aload_n C0.1 C0.2.1 dX8_path_12 rfl (lv_at hl 0 rfl) ?_
    refine lv_iload_n C0.1 C0.2.1 dX8_path_13 rfl (lv_at hl 1 rfl) ?_
    refine lv_iload_n C0.1 C0.2.1 dX8_path_14 rfl (lv_at hl 2 rfl) ?_
    obtain ⟨v3, h_v3, h⟩ := bndp_s h
    refine callV_i (rest := []) C0 hml hE (M_rec C0 hE) (c_M_isIndex l D g hR i_p1 i_p2 h_v3) kw_X8_191 ⟨Nat.le_of_ble_eq_true rfl, Nat.le_of_ble_eq_true rfl⟩ rfl hl.1 rfl (Nat.le_of_ble_eq_true rfl) dX8_path_15 ⟨Nat.zero_le _, Nat.zero_le _⟩ (fun H locs hE i_v3 => ?_)
    refine x_if_ne C0 i_v3 dX8_path_18 (tgt := 23) (by decide) (fun c9 => ?_) (fun c9 => ?_)
    · have h := ite_f c9 h
      refine lv_aload_n C0.1 C0.2.1 dX8_path_23 rfl (lv_at hl 0 rfl) ?_
      refine lv_iload_n C0.1 C0.2.1 dX8_path_24 rfl (lv_at hl 2 rfl) ?_
      obtain ⟨v4, s5, h_v4, h⟩ := bnd_s h
      refine callV_v (rest := []) C0 hml hE (M_rec C0 hE) (c_M_laysWay l D g hR i_p2 h_v4) kw_X8_95 ⟨Nat.le_of_ble_eq_true rfl, Nat.le_of_ble_eq_true rfl⟩ rfl hl.1 rfl (Nat.le_of_ble_eq_true rfl) dX8_path_25 ⟨Nat.zero_le _, Nat.zero_le _⟩ (fun H locs hE hR => ?_)
      refine lv_aload_n C0.1 C0.2.1 dX8_path_28 rfl (lv_at hl 0 rfl) ?_
      refine lv_iconst (v := I 0) C0.1 C0.2.1 dX8_path_29 rfl ?_
      obtain ⟨s6, e_s6, hR, h⟩ := pf_s hR lit_0 h
      refine M_p_rowMany C0 hE e_s6 fk_X8_59 dX8_path_30 (fun H locs hE => ?_)
      refine lv_aload_n C0.1 C0.2.1 dX8_path_33 rfl (lv_at hl 0 rfl) ?_
      refine lv_aload_n C0.1 C0.2.1 dX8_path_34 rfl (lv_at hl 0 rfl) ?_
      obtain ⟨v7, e_v7, i_v7, h⟩ := gf_s hR h
      refine M_g_wayMany C0 hE e_v7 fk_X8_89 dX8_path_35 ?_
      refine lv_iconst (v := I 1) C0.1 C0.2.1 dX8_path_38 rfl ?_
      obtain ⟨v8, e_v8, i_v8, h⟩ := osub_s h
      refine x_sub C0 e_v8 dX8_path_39 ?_
      refine x_i2l C0 i_v8 dX8_path_40 ?_
      obtain ⟨v9, s10, h_v9, h⟩ := bnd_s h
      refine callV_v (rest := []) C0 hml hE (M_rec C0 hE) (c_M_tell l D g hR (in64_of i_v8) h_v9) kw_X8_150 ⟨Nat.le_of_ble_eq_true rfl, Nat.le_of_ble_eq_true rfl⟩ rfl hl.1 rfl (Nat.le_of_ble_eq_true rfl) dX8_path_41 ⟨Nat.zero_le _, Nat.zero_le _⟩ (fun H locs hE hR => ?_)
      refine lv_aload_n C0.1 C0.2.1 dX8_path_44 rfl (lv_at hl 0 rfl) ?_
      obtain ⟨v11, e_v11, i_v11, h⟩ := gf_s hR h
      refine M_g_wayBits C0 hE e_v11 fk_X8_92 dX8_path_45 ?_
      exact ret_i (wf := wM g) C0 hr hlk hE h i_v11 hR dX8_path_48
    · have h := ite_t c9 h
      refine lv_iconst (v := I (-1)) C0.1 C0.2.1 dX8_path_21 rfl ?_
      exact ret_i (wf := wM g) C0 hr hlk hE h lit_m1 hR dX8_path_22
set_option maxRecDepth 100000 in
set_option maxHeartbeats 4000000 in
theorem c_M_clearsNew (l : Launch) (D : va_G) (g : Ad) {σ σr : St} {r : Int} (hR : R32 σ) (h : M_clearsNew σ = some (r, σr)) : CtV l D g yX8_clearsNew cX8_clearsNew 2 none 1 (wM g σ) (wM g σr) [.ref (g.2 100)] (R32 σr) := by
  intro sz
  refine met_of (by decide) (Nat.le_of_ble_eq_true rfl) (fun p e s m args below meth c ls H locs C0 hml hr hlk hE hl => ?_)
  have C0 : CX p c cX8_clearsNew m s args D g RX8 := C0
  have hl : lv_has ls 2 [(0, .ref (g.2 100))] := hl
  unfold M_clearsNew at h
  refine lv_iconst (v := I 0) C0.1 C0.2.1 dX8_clearsNew_0 rfl ?_
  refine lv_istore_n (lv' := [(1, .int (I 0)), (0, .ref (g.2 100))]) C0.1 C0.2.1 dX8_clearsNew_1 rfl hl (by decide) rfl (fun ls hl => ?_)
  have hL2 : ∀ (n : Nat) (s2 : St) (hR : R32 s2) (x1 : Int) (i_x1 : in32 x1) (H : Heap) (locs : List Loc) (ls : Array Slot), EW D (va_A (wM g σ) sz) s.heap (wM g s2) H locs → lv_has ls 2 [(0, .ref (g.2 100)), (1, .int (I x1))] → M_clearsNew_L2 n s2 x1 = some (r, σr) → W p l e (rmk 1) s m args below meth c H locs 0 0 (MQ below (QCv D (wM g σr) (R32 σr) (va_A (wM g σ) sz)) args s 0 0 (va_A (wM g σ) sz)) (F0 m 2 ls []) := by
    intro n
    induction n with
    | zero => intros; rename_i h; cases h
    | succ n ih3 =>
      intro s2 hR x1 i_x1 H locs ls hE hl h
      unfold M_clearsNew_L2 at h
      refine lv_iload_n C0.1 C0.2.1 dX8_clearsNew_2 rfl (lv_at hl 1 rfl) ?_
      refine lv_sipush (v := I 255) C0.1 C0.2.1 dX8_clearsNew_3 (by decide +kernel) ?_
      refine x_icmp_gt C0 i_x1 lit_255 dX8_clearsNew_6 (tgt := 22) (by decide) (fun c9 => ?_) (fun c9 => ?_)
      · have h := ite_t c9 h
        exact ret_v (wf := wM g) C0 hr hlk hE h hR dX8_clearsNew_22
      · have h := ite_f c9 h
        refine lv_aload_n C0.1 C0.2.1 dX8_clearsNew_9 rfl (lv_at hl 0 rfl) ?_
        refine M_g_isNew C0 hE fk_X8_30 dX8_clearsNew_10 ?_
        refine lv_iload_n C0.1 C0.2.1 dX8_clearsNew_13 rfl (lv_at hl 1 rfl) ?_
        refine lv_iconst (v := I 0) C0.1 C0.2.1 dX8_clearsNew_14 rfl ?_
        obtain ⟨s4, e_s4, hR, h⟩ := wrZ_s hR h
        refine M_isNew_st C0 hE i_x1 e_s4 dX8_clearsNew_15 (fun H locs hE => ?_)
        obtain ⟨v5, e_v5, i_v5, h⟩ := oadd_s h
        refine x_iinc (lv' := [(1, .int (I v5)), (0, .ref (g.2 100))]) C0 dX8_clearsNew_16 hl (k := 1) rfl e_v5 (by decide) rfl (fun ls hl => ?_)
        refine x_goto C0 dX8_clearsNew_19 (tgt := 2) (by decide) ?_
        exact ih3 s4 hR v5 i_v5 _ _ _ hE (lv_sub hl [1, 0] rfl) h
  exact hL2 FU σ hR 0 lit_0 _ _ _ hE (lv_sub hl [1, 0] rfl) h
set_option maxRecDepth 100000 in
set_option maxHeartbeats 4000000 in
theorem c_M_ends (l : Launch) (D : va_G) (g : Ad) {σ σr : St} {p1 r : Int} (hR : R32 σ) (i_p1 : in32 p1) (h : M_ends σ p1 = some (r, σr)) : CtI l D g yX8_ends cX8_ends 2 (some .int) 3 (wM g σ) (wM g σr) [.ref (g.2 100), .int (I p1)] r (in32 r ∧ R32 σr) := by
  intro sz
  refine met_of (by decide) (Nat.le_of_ble_eq_true rfl) (fun p e s m args below meth c ls H locs C0 hml hr hlk hE hl => ?_)
  have C0 : CX p c cX8_ends m s args D g RX8 := C0
  have hl : lv_has ls 2 [(0, .ref (g.2 100)), (1, .int (I p1))] := hl
  unfold M_ends at h
  refine lv_aload_n C0.1 C0.2.1 dX8_ends_0 rfl (lv_at hl 0 rfl) ?_
  refine lv_bipush (v := I 7) C0.1 C0.2.1 dX8_ends_1 (by decide +kernel) ?_
  refine lv_iload_n C0.1 C0.2.1 dX8_ends_3 rfl (lv_at hl 1 rfl) ?_
  obtain ⟨v1, s2, h_v1, h⟩ := bnd_s h
  refine callV_v (rest := []) C0 hml hE (M_rec C0 hE) (c_M_takes l D g hR lit_7 i_p1 h_v1) kw_X8_82 ⟨Nat.le_of_ble_eq_true rfl, Nat.le_of_ble_eq_true rfl⟩ rfl hl.1 rfl (Nat.le_of_ble_eq_true rfl) dX8_ends_4 ⟨Nat.zero_le _, Nat.zero_le _⟩ (fun H locs hE hR => ?_)
  refine lv_aload_n C0.1 C0.2.1 dX8_ends_7 rfl (lv_at hl 0 rfl) ?_
  obtain ⟨v3, e_v3, i_v3, h⟩ := gf_s hR h
  refine M_g_made C0 hE e_v3 fk_X8_75 dX8_ends_8 ?_
  refine lv_aload_n C0.1 C0.2.1 dX8_ends_11 rfl (lv_at hl 0 rfl) ?_
  obtain ⟨v4, e_v4, i_v4, h⟩ := gf_s hR h
  refine M_g_madeBefore C0 hE e_v4 fk_X8_86 dX8_ends_12 ?_
  obtain ⟨v5, e_v5, i_v5, h⟩ := osub_s h
  refine x_sub C0 e_v5 dX8_ends_15 ?_
  exact ret_i (wf := wM g) C0 hr hlk hE h i_v5 hR dX8_ends_16
set_option maxRecDepth 100000 in
set_option maxHeartbeats 4000000 in
theorem c_M_marks (l : Launch) (D : va_G) (g : Ad) {σ σr : St} {p1 p2 r : Int} (hR : R32 σ) (i_p1 : in32 p1) (i_p2 : in32 p2) (h : M_marks σ p1 p2 = some (r, σr)) : CtV l D g yX8_marks cX8_marks 4 none 2 (wM g σ) (wM g σr) [.ref (g.2 100), .int (I p1), .int (I p2)] (R32 σr) := by
  intro sz
  refine met_of (by decide) (Nat.le_of_ble_eq_true rfl) (fun p e s m args below meth c ls H locs C0 hml hr hlk hE hl => ?_)
  have C0 : CX p c cX8_marks m s args D g RX8 := C0
  have hl : lv_has ls 4 [(0, .ref (g.2 100)), (1, .int (I p1)), (2, .int (I p2))] := hl
  unfold M_marks at h
  refine lv_aload_n C0.1 C0.2.1 dX8_marks_0 rfl (lv_at hl 0 rfl) ?_
  refine lv_iload_n C0.1 C0.2.1 dX8_marks_1 rfl (lv_at hl 1 rfl) ?_
  obtain ⟨v1, s2, h_v1, h⟩ := bnd_s h
  refine callV_v (rest := []) C0 hml hE (M_rec C0 hE) (c_M_laysWay l D g hR i_p1 h_v1) kw_X8_95 ⟨Nat.le_of_ble_eq_true rfl, Nat.le_of_ble_eq_true rfl⟩ rfl hl.1 rfl (Nat.le_of_ble_eq_true rfl) dX8_marks_2 ⟨Nat.zero_le _, Nat.zero_le _⟩ (fun H locs hE hR => ?_)
  refine lv_iconst (v := I 0) C0.1 C0.2.1 dX8_marks_5 rfl ?_
  refine lv_istore_n (lv' := [(3, .int (I 0)), (0, .ref (g.2 100)), (1, .int (I p1)), (2, .int (I p2))]) C0.1 C0.2.1 dX8_marks_6 rfl hl (by decide) rfl (fun ls hl => ?_)
  have hL7 : ∀ (n : Nat) (s4 : St) (hR : R32 s4) (x3 : Int) (i_x3 : in32 x3) (H : Heap) (locs : List Loc) (ls : Array Slot), EW D (va_A (wM g σ) sz) s.heap (wM g s4) H locs → lv_has ls 4 [(0, .ref (g.2 100)), (2, .int (I p2)), (3, .int (I x3))] → M_marks_L7 p2 n s4 x3 = some (r, σr) → W p l e (rmk 2) s m args below meth c H locs 0 0 (MQ below (QCv D (wM g σr) (R32 σr) (va_A (wM g σ) sz)) args s 0 0 (va_A (wM g σ) sz)) (F0 m 7 ls []) := by
    intro n
    induction n with
    | zero => intros; rename_i h; cases h
    | succ n ih5 =>
      intro s4 hR x3 i_x3 H locs ls hE hl h
      unfold M_marks_L7 at h
      refine lv_iload_n C0.1 C0.2.1 dX8_marks_7 rfl (lv_at hl 2 rfl) ?_
      refine lv_aload_n C0.1 C0.2.1 dX8_marks_8 rfl (lv_at hl 0 rfl) ?_
      obtain ⟨v6, e_v6, i_v6, h⟩ := gf_s hR h
      refine M_g_wayMany C0 hE e_v6 fk_X8_89 dX8_marks_9 ?_
      refine x_icmp_ge C0 i_x3 i_v6 dX8_marks_12 (tgt := 65) (by decide) (fun c9 => ?_) (fun c9 => ?_)
      · have h := ite_f c9 h
        exact ret_v (wf := wM g) C0 hr hlk hE h hR dX8_marks_65
      · have h := ite_t c9 h
        refine lv_aload_n C0.1 C0.2.1 dX8_marks_15 rfl (lv_at hl 0 rfl) ?_
        refine M_g_isNew C0 hE fk_X8_30 dX8_marks_16 ?_
        refine lv_aload_n C0.1 C0.2.1 dX8_marks_19 rfl (lv_at hl 0 rfl) ?_
        refine M_g_way C0 hE fk_X8_27 dX8_marks_20 ?_
        refine lv_iload_n C0.1 C0.2.1 dX8_marks_23 rfl (lv_at hl 2 rfl) ?_
        obtain ⟨v7, e_v7, i_v7, h⟩ := rd_s hR h
        refine M_way_l C0 hE i_x3 e_v7 dX8_marks_24 ?_
        refine lv_aload_n C0.1 C0.2.1 dX8_marks_25 rfl (lv_at hl 0 rfl) ?_
        refine M_g_isNew C0 hE fk_X8_30 dX8_marks_26 ?_
        refine lv_aload_n C0.1 C0.2.1 dX8_marks_29 rfl (lv_at hl 0 rfl) ?_
        refine M_g_way C0 hE fk_X8_27 dX8_marks_30 ?_
        refine lv_iload_n C0.1 C0.2.1 dX8_marks_33 rfl (lv_at hl 2 rfl) ?_
        obtain ⟨v8, e_v8, i_v8, h⟩ := rd_s hR h
        refine M_way_l C0 hE i_x3 e_v8 dX8_marks_34 ?_
        obtain ⟨v9, e_v9, i_v9, h⟩ := rd_s hR h
        refine M_isNew_l C0 hE i_v8 e_v9 dX8_marks_35 ?_
        obtain ⟨k11, e_k11, h⟩ := jn_s h
        have h_k11 : ∀ (x10 : Int) (i_x10 : in32 x10) (H : Heap) (locs : List Loc) (ls : Array Slot), EW D (va_A (wM g σ) sz) s.heap (wM g s4) H locs → lv_has ls 4 [(0, .ref (g.2 100)), (2, .int (I p2)), (3, .int (I x3))] → k11 x10 = some (r, σr) → W p l e (rmk 2) s m args below meth c H locs 0 0 (MQ below (QCv D (wM g σr) (R32 σr) (va_A (wM g σ) sz)) args s 0 0 (va_A (wM g σ) sz)) (F0 m 58 ls [.int (I x10), .int (I v7), .ref (g.2 107)]) := by
          intro x10 i_x10 H locs ls hE hl h
          have h := (congrFun e_k11 x10).symm.trans h
          obtain ⟨s12, e_s12, hR, h⟩ := wrZ_s hR h
          refine M_isNew_st C0 hE i_v7 e_s12 dX8_marks_58 (fun H locs hE => ?_)
          obtain ⟨v13, e_v13, i_v13, h⟩ := oadd_s h
          refine x_iinc (lv' := [(3, .int (I v13)), (0, .ref (g.2 100)), (2, .int (I p2))]) C0 dX8_marks_59 hl (k := 2) rfl e_v13 (by decide) rfl (fun ls hl => ?_)
          refine x_goto C0 dX8_marks_62 (tgt := 7) (by decide) ?_
          exact ih5 s12 hR v13 i_v13 _ _ _ hE (lv_sub hl [1, 2, 0] rfl) h
        obtain ⟨k14, e_k14, h⟩ := jn_s h
        have h_k14 : ∀ (H : Heap) (locs : List Loc) (ls : Array Slot), EW D (va_A (wM g σ) sz) s.heap (wM g s4) H locs → lv_has ls 4 [(0, .ref (g.2 100)), (2, .int (I p2)), (3, .int (I x3))] → k14 = some (r, σr) → W p l e (rmk 2) s m args below meth c H locs 0 0 (MQ below (QCv D (wM g σr) (R32 σr) (va_A (wM g σ) sz)) args s 0 0 (va_A (wM g σ) sz)) (F0 m 53 ls [.int (I v7), .ref (g.2 107)]) := by
          intro H locs ls hE hl h
          have h := e_k14.symm.trans h
          refine lv_iconst (v := I 1) C0.1 C0.2.1 dX8_marks_53 rfl ?_
          refine x_goto C0 dX8_marks_54 (tgt := 58) (by decide) ?_
          exact h_k11 1 lit_1 _ _ _ hE (lv_sub hl [0, 1, 2] rfl) h
        refine x_if_ne C0 i_v9 dX8_marks_36 (tgt := 53) (by decide) (fun c9 => ?_) (fun c9 => ?_)
        · have h := ite_f c9 h
          exact h_k14 _ _ _ hE (lv_sub hl [0, 1, 2] rfl) h
        · have h := ite_t c9 h
          refine lv_iload_n C0.1 C0.2.1 dX8_marks_39 rfl (lv_at hl 1 rfl) ?_
          refine x_if_ne C0 i_p2 dX8_marks_40 (tgt := 53) (by decide) (fun c9 => ?_) (fun c9 => ?_)
          · have h := ite_f c9 h
            exact h_k14 _ _ _ hE (lv_sub hl [0, 1, 2] rfl) h
          · have h := ite_t c9 h
            refine lv_iload_n C0.1 C0.2.1 dX8_marks_43 rfl (lv_at hl 2 rfl) ?_
            refine lv_iconst (v := I 1) C0.1 C0.2.1 dX8_marks_44 rfl ?_
            obtain ⟨v15, e_v15, i_v15, h⟩ := oadd_s h
            refine x_add C0 e_v15 dX8_marks_45 ?_
            refine lv_aload_n C0.1 C0.2.1 dX8_marks_46 rfl (lv_at hl 0 rfl) ?_
            obtain ⟨v16, e_v16, i_v16, h⟩ := gf_s hR h
            refine M_g_wayMany C0 hE e_v16 fk_X8_89 dX8_marks_47 ?_
            refine x_icmp_ge C0 i_v15 i_v16 dX8_marks_50 (tgt := 57) (by decide) (fun c9 => ?_) (fun c9 => ?_)
            · have h := ite_f c9 h
              refine lv_iconst (v := I 0) C0.1 C0.2.1 dX8_marks_57 rfl ?_
              exact h_k11 0 lit_0 _ _ _ hE (lv_sub hl [0, 1, 2] rfl) h
            · have h := ite_t c9 h
              exact h_k14 _ _ _ hE (lv_sub hl [0, 1, 2] rfl) h
  exact hL7 FU s2 hR 0 lit_0 _ _ _ hE (lv_sub hl [1, 3, 0] rfl) h
set_option maxRecDepth 100000 in
set_option maxHeartbeats 4000000 in
theorem c_M_renews (l : Launch) (D : va_G) (g : Ad) {σ σr : St} {r : Int} (hR : R32 σ) (h : M_renews σ = some (r, σr)) : CtV l D g yX8_renews cX8_renews 2 none 2 (wM g σ) (wM g σr) [.ref (g.2 100)] (R32 σr) := by
  intro sz
  refine met_of (by decide) (Nat.le_of_ble_eq_true rfl) (fun p e s m args below meth c ls H locs C0 hml hr hlk hE hl => ?_)
  have C0 : CX p c cX8_renews m s args D g RX8 := C0
  have hl : lv_has ls 2 [(0, .ref (g.2 100))] := hl
  unfold M_renews at h
  refine lv_iconst (v := I 0) C0.1 C0.2.1 dX8_renews_0 rfl ?_
  refine lv_istore_n (lv' := [(1, .int (I 0)), (0, .ref (g.2 100))]) C0.1 C0.2.1 dX8_renews_1 rfl hl (by decide) rfl (fun ls hl => ?_)
  have hL2 : ∀ (n : Nat) (s2 : St) (hR : R32 s2) (x1 : Int) (i_x1 : in32 x1) (H : Heap) (locs : List Loc) (ls : Array Slot), EW D (va_A (wM g σ) sz) s.heap (wM g s2) H locs → lv_has ls 2 [(0, .ref (g.2 100)), (1, .int (I x1))] → M_renews_L2 n s2 x1 = some (r, σr) → W p l e (rmk 2) s m args below meth c H locs 0 0 (MQ below (QCv D (wM g σr) (R32 σr) (va_A (wM g σ) sz)) args s 0 0 (va_A (wM g σ) sz)) (F0 m 2 ls []) := by
    intro n
    induction n with
    | zero => intros; rename_i h; cases h
    | succ n ih3 =>
      intro s2 hR x1 i_x1 H locs ls hE hl h
      unfold M_renews_L2 at h
      refine lv_iload_n C0.1 C0.2.1 dX8_renews_2 rfl (lv_at hl 1 rfl) ?_
      refine lv_aload_n C0.1 C0.2.1 dX8_renews_3 rfl (lv_at hl 0 rfl) ?_
      refine M_g_sizes C0 hE fk_X8_16 dX8_renews_4 ?_
      refine lv_bipush (v := I 7) C0.1 C0.2.1 dX8_renews_7 (by decide +kernel) ?_
      obtain ⟨v4, e_v4, i_v4, h⟩ := rd_s hR h
      refine M_sizes_l C0 hE lit_7 e_v4 dX8_renews_9 ?_
      refine x_icmp_ge C0 i_x1 i_v4 dX8_renews_10 (tgt := 42) (by decide) (fun c9 => ?_) (fun c9 => ?_)
      · have h := ite_f c9 h
        exact ret_v (wf := wM g) C0 hr hlk hE h hR dX8_renews_42
      · have h := ite_t c9 h
        refine lv_aload_n C0.1 C0.2.1 dX8_renews_13 rfl (lv_at hl 0 rfl) ?_
        refine M_g_isNew C0 hE fk_X8_30 dX8_renews_14 ?_
        refine lv_iload_n C0.1 C0.2.1 dX8_renews_17 rfl (lv_at hl 1 rfl) ?_
        obtain ⟨v5, e_v5, i_v5, h⟩ := rd_s hR h
        refine M_isNew_l C0 hE i_x1 e_v5 dX8_renews_18 ?_
        obtain ⟨k7, e_k7, h⟩ := jn_s h
        have h_k7 : ∀ (s6 : St) (hR : R32 s6) (H : Heap) (locs : List Loc) (ls : Array Slot), EW D (va_A (wM g σ) sz) s.heap (wM g s6) H locs → lv_has ls 2 [(0, .ref (g.2 100)), (1, .int (I x1))] → k7 s6 = some (r, σr) → W p l e (rmk 2) s m args below meth c H locs 0 0 (MQ below (QCv D (wM g σr) (R32 σr) (va_A (wM g σ) sz)) args s 0 0 (va_A (wM g σ) sz)) (F0 m 36 ls []) := by
          intro s6 hR H locs ls hE hl h
          have h := (congrFun e_k7 s6).symm.trans h
          obtain ⟨v8, e_v8, i_v8, h⟩ := oadd_s h
          refine x_iinc (lv' := [(1, .int (I v8)), (0, .ref (g.2 100))]) C0 dX8_renews_36 hl (k := 1) rfl e_v8 (by decide) rfl (fun ls hl => ?_)
          refine x_goto C0 dX8_renews_39 (tgt := 2) (by decide) ?_
          exact ih3 s6 hR v8 i_v8 _ _ _ hE (lv_sub hl [1, 0] rfl) h
        refine x_if_eq C0 i_v5 dX8_renews_19 (tgt := 36) (by decide) (fun c9 => ?_) (fun c9 => ?_)
        · have h := ite_t c9 h
          exact h_k7 s2 hR _ _ _ hE (lv_sub hl [0, 1] rfl) h
        · have h := ite_f c9 h
          refine lv_aload_n C0.1 C0.2.1 dX8_renews_22 rfl (lv_at hl 0 rfl) ?_
          refine lv_bipush (v := I 7) C0.1 C0.2.1 dX8_renews_23 (by decide +kernel) ?_
          refine lv_iload_n C0.1 C0.2.1 dX8_renews_25 rfl (lv_at hl 1 rfl) ?_
          refine lv_aload_n C0.1 C0.2.1 dX8_renews_26 rfl (lv_at hl 0 rfl) ?_
          refine lv_bipush (v := I 7) C0.1 C0.2.1 dX8_renews_27 (by decide +kernel) ?_
          refine lv_iload_n C0.1 C0.2.1 dX8_renews_29 rfl (lv_at hl 1 rfl) ?_
          obtain ⟨v9, h_v9, h⟩ := bndp_s h
          refine callV_i (rest := [.int (I x1), .int (I 7), .ref (g.2 100)]) C0 hml hE (M_rec C0 hE) (c_M_number l D g hR lit_7 i_x1 h_v9) kw_X8_99 ⟨Nat.le_of_ble_eq_true rfl, Nat.le_of_ble_eq_true rfl⟩ rfl hl.1 rfl (Nat.le_of_ble_eq_true rfl) dX8_renews_30 ⟨Nat.zero_le _, Nat.zero_le _⟩ (fun H locs hE i_v9 => ?_)
          obtain ⟨v10, s11, h_v10, h⟩ := bnd_s h
          refine callV_v (rest := []) C0 hml hE (M_rec C0 hE) (c_M_makes l D g hR lit_7 i_x1 i_v9 h_v10) kw_X8_103 ⟨Nat.le_of_ble_eq_true rfl, Nat.le_of_ble_eq_true rfl⟩ rfl hl.1 rfl (Nat.le_of_ble_eq_true rfl) dX8_renews_33 ⟨Nat.zero_le _, Nat.zero_le _⟩ (fun H locs hE hR => ?_)
          exact h_k7 s11 hR _ _ _ hE (lv_sub hl [0, 1] rfl) h
  exact hL2 FU σ hR 0 lit_0 _ _ _ hE (lv_sub hl [1, 0] rfl) h
set_option maxRecDepth 100000 in
set_option maxHeartbeats 4000000 in
theorem c_M_sets (l : Launch) (D : va_G) (g : Ad) {σ σr : St} {p1 p2 p3 p4 r : Int} (hR : R32 σ) (i_p1 : in32 p1) (i_p2 : in32 p2) (i_p3 : in32 p3) (i_p4 : in32 p4) (h : M_sets σ p1 p2 p3 p4 = some (r, σr)) : CtI l D g yX8_sets cX8_sets 5 (some .int) 4 (wM g σ) (wM g σr) [.ref (g.2 100), .int (I p1), .int (I p2), .int (I p3), .int (I p4)] r (in32 r ∧ R32 σr) := by
  intro sz
  refine met_of (by decide) (Nat.le_of_ble_eq_true rfl) (fun p e s m args below meth c ls H locs C0 hml hr hlk hE hl => ?_)
  have C0 : CX p c cX8_sets m s args D g RX8 := C0
  have hl : lv_has ls 5 [(0, .ref (g.2 100)), (1, .int (I p1)), (2, .int (I p2)), (3, .int (I p3)), (4, .int (I p4))] := hl
  unfold M_sets at h
  refine lv_aload_n C0.1 C0.2.1 dX8_sets_0 rfl (lv_at hl 0 rfl) ?_
  refine lv_iconst (v := I 0) C0.1 C0.2.1 dX8_sets_1 rfl ?_
  obtain ⟨s1, e_s1, hR, h⟩ := pf_s hR lit_0 h
  refine M_p_thrown C0 hE e_s1 fk_X8_55 dX8_sets_2 (fun H locs hE => ?_)
  refine lv_iload_n C0.1 C0.2.1 dX8_sets_5 rfl (lv_at hl 1 rfl) ?_
  obtain ⟨v2, h_v2, h⟩ := bndp_s h
  refine callS_i (rest := []) C0 hml hE (c_M_isPlace l D g (σ := s1) i_p1 h_v2) kw_X8_134 ⟨Nat.le_of_ble_eq_true rfl, Nat.le_of_ble_eq_true rfl⟩ rfl hl.1 rfl (Nat.le_of_ble_eq_true rfl) dX8_sets_6 ⟨Nat.zero_le _, Nat.zero_le _⟩ (fun H locs hE i_v2 => ?_)
  refine x_if_eq C0 i_v2 dX8_sets_9 (tgt := 36) (by decide) (fun c9 => ?_) (fun c9 => ?_)
  · have h := ite_t c9 h
    refine lv_iconst (v := I (-1)) C0.1 C0.2.1 dX8_sets_36 rfl ?_
    exact ret_i (wf := wM g) C0 hr hlk hE h lit_m1 hR dX8_sets_37
  · have h := ite_f c9 h
    refine lv_aload_n C0.1 C0.2.1 dX8_sets_12 rfl (lv_at hl 0 rfl) ?_
    refine lv_iload_n C0.1 C0.2.1 dX8_sets_13 rfl (lv_at hl 1 rfl) ?_
    refine lv_iload_n C0.1 C0.2.1 dX8_sets_14 rfl (lv_at hl 2 rfl) ?_
    obtain ⟨v3, h_v3, h⟩ := bndp_s h
    refine callV_i (rest := []) C0 hml hE (M_rec C0 hE) (c_M_isIndex l D g hR i_p1 i_p2 h_v3) kw_X8_191 ⟨Nat.le_of_ble_eq_true rfl, Nat.le_of_ble_eq_true rfl⟩ rfl hl.1 rfl (Nat.le_of_ble_eq_true rfl) dX8_sets_15 ⟨Nat.zero_le _, Nat.zero_le _⟩ (fun H locs hE i_v3 => ?_)
    refine x_if_eq C0 i_v3 dX8_sets_18 (tgt := 36) (by decide) (fun c9 => ?_) (fun c9 => ?_)
    · have h := ite_t c9 h
      refine lv_iconst (v := I (-1)) C0.1 C0.2.1 dX8_sets_36 rfl ?_
      exact ret_i (wf := wM g) C0 hr hlk hE h lit_m1 hR dX8_sets_37
    · have h := ite_f c9 h
      refine lv_iload_n C0.1 C0.2.1 dX8_sets_21 rfl (lv_at hl 3 rfl) ?_
      obtain ⟨v4, h_v4, h⟩ := bndp_s h
      refine callS_i (rest := []) C0 hml hE (c_M_isNumber l D g (σ := s1) i_p3 h_v4) kw_X8_163 ⟨Nat.le_of_ble_eq_true rfl, Nat.le_of_ble_eq_true rfl⟩ rfl hl.1 rfl (Nat.le_of_ble_eq_true rfl) dX8_sets_22 ⟨Nat.zero_le _, Nat.zero_le _⟩ (fun H locs hE i_v4 => ?_)
      refine x_if_eq C0 i_v4 dX8_sets_25 (tgt := 36) (by decide) (fun c9 => ?_) (fun c9 => ?_)
      · have h := ite_t c9 h
        refine lv_iconst (v := I (-1)) C0.1 C0.2.1 dX8_sets_36 rfl ?_
        exact ret_i (wf := wM g) C0 hr hlk hE h lit_m1 hR dX8_sets_37
      · have h := ite_f c9 h
        refine lv_iload C0.1 C0.2.1 dX8_sets_28 (lv_at hl 4 rfl) ?_
        obtain ⟨v5, h_v5, h⟩ := bndp_s h
        refine callS_i (rest := []) C0 hml hE (c_M_isPlace l D g (σ := s1) i_p4 h_v5) kw_X8_134 ⟨Nat.le_of_ble_eq_true rfl, Nat.le_of_ble_eq_true rfl⟩ rfl hl.1 rfl (Nat.le_of_ble_eq_true rfl) dX8_sets_30 ⟨Nat.zero_le _, Nat.zero_le _⟩ (fun H locs hE i_v5 => ?_)
        refine x_if_ne C0 i_v5 dX8_sets_33 (tgt := 38) (by decide) (fun c9 => ?_) (fun c9 => ?_)
        · have h := ite_f c9 h
          refine lv_aload_n C0.1 C0.2.1 dX8_sets_38 rfl (lv_at hl 0 rfl) ?_
          refine lv_iload_n C0.1 C0.2.1 dX8_sets_39 rfl (lv_at hl 1 rfl) ?_
          obtain ⟨v6, s7, h_v6, h⟩ := bnd_s h
          refine callV_v (rest := []) C0 hml hE (M_rec C0 hE) (c_M_asks l D g hR i_p1 h_v6) kw_X8_176 ⟨Nat.le_of_ble_eq_true rfl, Nat.le_of_ble_eq_true rfl⟩ rfl hl.1 rfl (Nat.le_of_ble_eq_true rfl) dX8_sets_40 ⟨Nat.zero_le _, Nat.zero_le _⟩ (fun H locs hE hR => ?_)
          refine lv_aload_n C0.1 C0.2.1 dX8_sets_43 rfl (lv_at hl 0 rfl) ?_
          obtain ⟨v8, s9, h_v8, h⟩ := bnd_s h
          refine callV_v (rest := []) C0 hml hE (M_rec C0 hE) (c_M_begins l D g hR h_v8) kw_X8_166 ⟨Nat.le_of_ble_eq_true rfl, Nat.le_of_ble_eq_true rfl⟩ rfl hl.1 rfl (Nat.le_of_ble_eq_true rfl) dX8_sets_44 ⟨Nat.zero_le _, Nat.zero_le _⟩ (fun H locs hE hR => ?_)
          refine lv_aload_n C0.1 C0.2.1 dX8_sets_47 rfl (lv_at hl 0 rfl) ?_
          refine lv_iload_n C0.1 C0.2.1 dX8_sets_48 rfl (lv_at hl 1 rfl) ?_
          refine lv_iload_n C0.1 C0.2.1 dX8_sets_49 rfl (lv_at hl 2 rfl) ?_
          obtain ⟨v10, h_v10, h⟩ := bndp_s h
          refine callV_i (rest := []) C0 hml hE (M_rec C0 hE) (c_M_number l D g hR i_p1 i_p2 h_v10) kw_X8_99 ⟨Nat.le_of_ble_eq_true rfl, Nat.le_of_ble_eq_true rfl⟩ rfl hl.1 rfl (Nat.le_of_ble_eq_true rfl) dX8_sets_50 ⟨Nat.zero_le _, Nat.zero_le _⟩ (fun H locs hE i_v10 => ?_)
          refine lv_iload_n C0.1 C0.2.1 dX8_sets_53 rfl (lv_at hl 3 rfl) ?_
          obtain ⟨k12, e_k12, h⟩ := jn_s h
          have h_k12 : ∀ (s11 : St) (hR : R32 s11) (H : Heap) (locs : List Loc) (ls : Array Slot), EW D (va_A (wM g σ) sz) s.heap (wM g s11) H locs → lv_has ls 5 [(0, .ref (g.2 100)), (4, .int (I p4))] → k12 s11 = some (r, σr) → W p l e (rmk 4) s m args below meth c H locs 0 0 (MQ below (QCi D (wM g σr) r (in32 r ∧ R32 σr) (va_A (wM g σ) sz)) args s 0 0 (va_A (wM g σ) sz)) (F0 m 82 ls []) := by
            intro s11 hR H locs ls hE hl h
            have h := (congrFun e_k12 s11).symm.trans h
            refine lv_aload_n C0.1 C0.2.1 dX8_sets_82 rfl (lv_at hl 0 rfl) ?_
            refine lv_iload C0.1 C0.2.1 dX8_sets_83 (lv_at hl 1 rfl) ?_
            obtain ⟨v13, s14, h_v13, h⟩ := bnd_s h
            refine callV_i (rest := []) C0 hml hE (M_rec C0 hE) (c_M_ends l D g hR i_p4 h_v13) kw_X8_205 ⟨Nat.le_of_ble_eq_true rfl, Nat.le_of_ble_eq_true rfl⟩ rfl hl.1 rfl (Nat.le_of_ble_eq_true rfl) dX8_sets_85 ⟨Nat.zero_le _, Nat.zero_le _⟩ (fun H locs hE ⟨i_v13, hR⟩ => ?_)
            exact ret_i (wf := wM g) C0 hr hlk hE h i_v13 hR dX8_sets_88
          refine x_icmp_eq C0 i_v10 i_p3 dX8_sets_54 (tgt := 82) (by decide) (fun c9 => ?_) (fun c9 => ?_)
          · have h := ite_t c9 h
            exact h_k12 s9 hR _ _ _ hE (lv_sub hl [0, 4] rfl) h
          · have h := ite_f c9 h
            refine lv_aload_n C0.1 C0.2.1 dX8_sets_57 rfl (lv_at hl 0 rfl) ?_
            obtain ⟨v15, s16, h_v15, h⟩ := bnd_s h
            refine callV_v (rest := []) C0 hml hE (M_rec C0 hE) (c_M_clearsNew l D g hR h_v15) kw_X8_195 ⟨Nat.le_of_ble_eq_true rfl, Nat.le_of_ble_eq_true rfl⟩ rfl hl.1 rfl (Nat.le_of_ble_eq_true rfl) dX8_sets_58 ⟨Nat.zero_le _, Nat.zero_le _⟩ (fun H locs hE hR => ?_)
            refine lv_aload_n C0.1 C0.2.1 dX8_sets_61 rfl (lv_at hl 0 rfl) ?_
            refine lv_iload_n C0.1 C0.2.1 dX8_sets_62 rfl (lv_at hl 2 rfl) ?_
            refine lv_iconst (v := I 1) C0.1 C0.2.1 dX8_sets_63 rfl ?_
            obtain ⟨v17, s18, h_v17, h⟩ := bnd_s h
            refine callV_v (rest := []) C0 hml hE (M_rec C0 hE) (c_M_marks l D g hR i_p2 lit_1 h_v17) kw_X8_198 ⟨Nat.le_of_ble_eq_true rfl, Nat.le_of_ble_eq_true rfl⟩ rfl hl.1 rfl (Nat.le_of_ble_eq_true rfl) dX8_sets_64 ⟨Nat.zero_le _, Nat.zero_le _⟩ (fun H locs hE hR => ?_)
            refine lv_aload_n C0.1 C0.2.1 dX8_sets_67 rfl (lv_at hl 0 rfl) ?_
            refine M_g_numbers C0 hE fk_X8_7 dX8_sets_68 ?_
            refine lv_sipush (v := I 1792) C0.1 C0.2.1 dX8_sets_71 (by decide +kernel) ?_
            refine lv_iload_n C0.1 C0.2.1 dX8_sets_74 rfl (lv_at hl 2 rfl) ?_
            obtain ⟨v19, e_v19, i_v19, h⟩ := oadd_s h
            refine x_add C0 e_v19 dX8_sets_75 ?_
            refine lv_iload_n C0.1 C0.2.1 dX8_sets_76 rfl (lv_at hl 3 rfl) ?_
            obtain ⟨s20, e_s20, hR, h⟩ := wr_s hR i_p3 h
            refine M_numbers_st C0 hE i_v19 e_s20 dX8_sets_77 (fun H locs hE => ?_)
            refine lv_aload_n C0.1 C0.2.1 dX8_sets_78 rfl (lv_at hl 0 rfl) ?_
            obtain ⟨v21, s22, h_v21, h⟩ := bnd_s h
            refine callV_v (rest := []) C0 hml hE (M_rec C0 hE) (c_M_renews l D g hR h_v21) kw_X8_202 ⟨Nat.le_of_ble_eq_true rfl, Nat.le_of_ble_eq_true rfl⟩ rfl hl.1 rfl (Nat.le_of_ble_eq_true rfl) dX8_sets_79 ⟨Nat.zero_le _, Nat.zero_le _⟩ (fun H locs hE hR => ?_)
            exact h_k12 s22 hR _ _ _ hE (lv_sub hl [0, 4] rfl) h
        · have h := ite_t c9 h
          refine lv_iconst (v := I (-1)) C0.1 C0.2.1 dX8_sets_36 rfl ?_
          exact ret_i (wf := wM g) C0 hr hlk hE h lit_m1 hR dX8_sets_37
set_option maxRecDepth 100000 in
set_option maxHeartbeats 4000000 in
theorem c_M_fronts (l : Launch) (D : va_G) (g : Ad) : ∀ (d : Nat) {σ σr : St} {p1 p2 p3 p4 p5 p6 r : Int} (hR : R32 σ) (i_p1 : in32 p1) (i_p2 : in32 p2) (i_p3 : in32 p3) (i_p4 : in32 p4) (i_p5 : in32 p5) (i_p6 : in32 p6) (h : M_fronts d σ p1 p2 p3 p4 p5 p6 = some (r, σr)), CtV l D g yX8_fronts cX8_fronts 7 none (2 + d) (wM g σ) (wM g σr) [.ref (g.2 100), .int (I p1), .int (I p2), .int (I p3), .int (I p4), .int (I p5), .int (I p6)] (R32 σr) := by
  intro d
  induction d with
  | zero => intros; rename_i h; cases h
  | succ d ih =>
    intro σ σr p1 p2 p3 p4 p5 p6 r hR i_p1 i_p2 i_p3 i_p4 i_p5 i_p6 h sz
    refine met_of (by decide) (Nat.le_of_ble_eq_true rfl) (fun p e s m args below meth c ls H locs C0 hml hr hlk hE hl => ?_)
    have C0 : CX p c cX8_fronts m s args D g RX8 := C0
    have hl : lv_has ls 7 [(0, .ref (g.2 100)), (1, .int (I p1)), (2, .int (I p2)), (3, .int (I p3)), (4, .int (I p4)), (5, .int (I p5)), (6, .int (I p6))] := hl
    unfold M_fronts at h
    refine lv_aload_n C0.1 C0.2.1 dX8_fronts_0 rfl (lv_at hl 0 rfl) ?_
    refine lv_bipush (v := I 7) C0.1 C0.2.1 dX8_fronts_1 (by decide +kernel) ?_
    refine lv_iload C0.1 C0.2.1 dX8_fronts_3 (lv_at hl 4 rfl) ?_
    refine lv_iload C0.1 C0.2.1 dX8_fronts_5 (lv_at hl 6 rfl) ?_
    obtain ⟨v1, s2, h_v1, h⟩ := bnd_s h
    refine callV_v (rest := []) C0 hml hE (M_rec C0 hE) (c_M_makes l D g hR lit_7 i_p4 i_p6 h_v1) kw_X8_103 (by simp only [rmk, RD]; omega) rfl hl.1 rfl (Nat.le_of_ble_eq_true rfl) dX8_fronts_7 ⟨Nat.zero_le _, Nat.zero_le _⟩ (fun H locs hE hR => ?_)
    refine lv_iload_n C0.1 C0.2.1 dX8_fronts_10 rfl (lv_at hl 3 rfl) ?_
    refine x_if_ne C0 i_p3 dX8_fronts_11 (tgt := 15) (by decide) (fun c9 => ?_) (fun c9 => ?_)
    · have h := ite_f c9 h
      refine lv_aload_n C0.1 C0.2.1 dX8_fronts_15 rfl (lv_at hl 0 rfl) ?_
      refine lv_bipush (v := I 6) C0.1 C0.2.1 dX8_fronts_16 (by decide +kernel) ?_
      refine lv_iload_n C0.1 C0.2.1 dX8_fronts_18 rfl (lv_at hl 1 rfl) ?_
      refine lv_iload_n C0.1 C0.2.1 dX8_fronts_19 rfl (lv_at hl 2 rfl) ?_
      obtain ⟨v3, e_v3, i_v3, h⟩ := oadd_s h
      refine x_add C0 e_v3 dX8_fronts_20 ?_
      refine lv_iconst (v := I 2) C0.1 C0.2.1 dX8_fronts_21 rfl ?_
      refine lv_iload_n C0.1 C0.2.1 dX8_fronts_22 rfl (lv_at hl 2 rfl) ?_
      obtain ⟨v4, e_v4, i_v4, h⟩ := omul_s h
      refine x_mul C0 e_v4 dX8_fronts_23 ?_
      refine lv_iload_n C0.1 C0.2.1 dX8_fronts_24 rfl (lv_at hl 3 rfl) ?_
      obtain ⟨v5, h_v5, h⟩ := bndp_s h
      refine callS_i (rest := [.int (I v4), .int (I v3), .int (I 6), .ref (g.2 100)]) C0 hml hE (c_M_leftSize l D g (σ := s2) i_p3 h_v5) kw_X8_169 (by simp only [rmk, RD]; omega) rfl hl.1 rfl (Nat.le_of_ble_eq_true rfl) dX8_fronts_25 ⟨Nat.zero_le _, Nat.zero_le _⟩ (fun H locs hE i_v5 => ?_)
      refine lv_bipush (v := I 7) C0.1 C0.2.1 dX8_fronts_28 (by decide +kernel) ?_
      refine lv_iload C0.1 C0.2.1 dX8_fronts_30 (lv_at hl 4 rfl) ?_
      refine lv_iconst (v := I 2) C0.1 C0.2.1 dX8_fronts_32 rfl ?_
      refine lv_iload C0.1 C0.2.1 dX8_fronts_33 (lv_at hl 5 rfl) ?_
      obtain ⟨v6, e_v6, i_v6, h⟩ := omul_s h
      refine x_mul C0 e_v6 dX8_fronts_35 ?_
      obtain ⟨v7, e_v7, i_v7, h⟩ := oadd_s h
      refine x_add C0 e_v7 dX8_fronts_36 ?_
      refine lv_iconst (v := I 2) C0.1 C0.2.1 dX8_fronts_37 rfl ?_
      refine lv_iload C0.1 C0.2.1 dX8_fronts_38 (lv_at hl 5 rfl) ?_
      obtain ⟨v8, e_v8, i_v8, h⟩ := omul_s h
      refine x_mul C0 e_v8 dX8_fronts_40 ?_
      obtain ⟨v9, s10, h_v9, h⟩ := bnd_s h
      refine callV_v (rest := []) C0 hml hE (M_rec C0 hE) (c_M_shares l D g hR lit_6 i_v3 i_v4 i_v5 lit_7 i_v7 i_v8 h_v9) kw_X8_78 (by simp only [rmk, RD]; omega) rfl hl.1 rfl (Nat.le_of_ble_eq_true rfl) dX8_fronts_41 ⟨Nat.zero_le _, Nat.zero_le _⟩ (fun H locs hE hR => ?_)
      refine lv_aload_n C0.1 C0.2.1 dX8_fronts_44 rfl (lv_at hl 0 rfl) ?_
      refine lv_iload_n C0.1 C0.2.1 dX8_fronts_45 rfl (lv_at hl 1 rfl) ?_
      refine lv_iconst (v := I 2) C0.1 C0.2.1 dX8_fronts_46 rfl ?_
      refine lv_iload_n C0.1 C0.2.1 dX8_fronts_47 rfl (lv_at hl 2 rfl) ?_
      obtain ⟨v11, e_v11, i_v11, h⟩ := omul_s h
      refine x_mul C0 e_v11 dX8_fronts_48 ?_
      obtain ⟨v12, e_v12, i_v12, h⟩ := oadd_s h
      refine x_add C0 e_v12 dX8_fronts_49 ?_
      refine lv_iconst (v := I 2) C0.1 C0.2.1 dX8_fronts_50 rfl ?_
      refine lv_iload_n C0.1 C0.2.1 dX8_fronts_51 rfl (lv_at hl 2 rfl) ?_
      obtain ⟨v13, e_v13, i_v13, h⟩ := omul_s h
      refine x_mul C0 e_v13 dX8_fronts_52 ?_
      refine lv_iload_n C0.1 C0.2.1 dX8_fronts_53 rfl (lv_at hl 3 rfl) ?_
      obtain ⟨v14, h_v14, h⟩ := bndp_s h
      refine callS_i (rest := [.int (I v13), .int (I v12), .ref (g.2 100)]) C0 hml hE (c_M_rightSize l D g (σ := s10) i_p3 h_v14) kw_X8_173 (by simp only [rmk, RD]; omega) rfl hl.1 rfl (Nat.le_of_ble_eq_true rfl) dX8_fronts_54 ⟨Nat.zero_le _, Nat.zero_le _⟩ (fun H locs hE i_v14 => ?_)
      refine lv_iload C0.1 C0.2.1 dX8_fronts_57 (lv_at hl 4 rfl) ?_
      refine lv_iload C0.1 C0.2.1 dX8_fronts_59 (lv_at hl 5 rfl) ?_
      obtain ⟨v15, e_v15, i_v15, h⟩ := oadd_s h
      refine x_add C0 e_v15 dX8_fronts_61 ?_
      refine lv_iconst (v := I 2) C0.1 C0.2.1 dX8_fronts_62 rfl ?_
      refine lv_iload C0.1 C0.2.1 dX8_fronts_63 (lv_at hl 5 rfl) ?_
      obtain ⟨v16, e_v16, i_v16, h⟩ := omul_s h
      refine x_mul C0 e_v16 dX8_fronts_65 ?_
      refine lv_aload_n C0.1 C0.2.1 dX8_fronts_66 rfl (lv_at hl 0 rfl) ?_
      refine lv_bipush (v := I 6) C0.1 C0.2.1 dX8_fronts_67 (by decide +kernel) ?_
      refine lv_iload_n C0.1 C0.2.1 dX8_fronts_69 rfl (lv_at hl 1 rfl) ?_
      obtain ⟨v17, h_v17, h⟩ := bndp_s h
      refine callV_i (rest := [.int (I v16), .int (I v15), .int (I v14), .int (I v13), .int (I v12), .ref (g.2 100)]) C0 hml hE (M_rec C0 hE) (c_M_number l D g hR lit_6 i_p1 h_v17) kw_X8_99 (by simp only [rmk, RD]; omega) rfl hl.1 rfl (Nat.le_of_ble_eq_true rfl) dX8_fronts_70 ⟨Nat.zero_le _, Nat.zero_le _⟩ (fun H locs hE i_v17 => ?_)
      obtain ⟨v18, s19, h_v18, h⟩ := bnd_s h
      refine callV_v (rest := []) C0 hml hE (M_rec C0 hE) (ih hR i_v12 i_v13 i_v14 i_v15 i_v16 i_v17 h_v18) kw_X8_208 (by simp only [rmk, RD]; omega) rfl hl.1 rfl (Nat.le_of_ble_eq_true rfl) dX8_fronts_73 ⟨Nat.zero_le _, Nat.zero_le _⟩ (fun H locs hE hR => ?_)
      exact ret_v (wf := wM g) C0 hr hlk hE h hR dX8_fronts_76
    · have h := ite_t c9 h
      exact ret_v (wf := wM g) C0 hr hlk hE h hR dX8_fronts_14
set_option maxRecDepth 100000 in
set_option maxHeartbeats 4000000 in
theorem c_M_front (l : Launch) (D : va_G) (g : Ad) {σ σr : St} {p1 p2 p3 r : Int} (hR : R32 σ) (i_p1 : in32 p1) (i_p2 : in32 p2) (i_p3 : in32 p3) (h : M_front σ p1 p2 p3 = some (r, σr)) : CtI l D g yX8_front cX8_front 4 (some .int) 15 (wM g σ) (wM g σr) [.ref (g.2 100), .int (I p1), .int (I p2), .int (I p3)] r (in32 r ∧ R32 σr) := by
  intro sz
  refine met_of (by decide) (Nat.le_of_ble_eq_true rfl) (fun p e s m args below meth c ls H locs C0 hml hr hlk hE hl => ?_)
  have C0 : CX p c cX8_front m s args D g RX8 := C0
  have hl : lv_has ls 4 [(0, .ref (g.2 100)), (1, .int (I p1)), (2, .int (I p2)), (3, .int (I p3))] := hl
  unfold M_front at h
  refine lv_aload_n C0.1 C0.2.1 dX8_front_0 rfl (lv_at hl 0 rfl) ?_
  refine lv_iconst (v := I 0) C0.1 C0.2.1 dX8_front_1 rfl ?_
  obtain ⟨s1, e_s1, hR, h⟩ := pf_s hR lit_0 h
  refine M_p_thrown C0 hE e_s1 fk_X8_55 dX8_front_2 (fun H locs hE => ?_)
  refine lv_iload_n C0.1 C0.2.1 dX8_front_5 rfl (lv_at hl 1 rfl) ?_
  obtain ⟨v2, h_v2, h⟩ := bndp_s h
  refine callS_i (rest := []) C0 hml hE (c_M_isPlace l D g (σ := s1) i_p1 h_v2) kw_X8_134 ⟨Nat.le_of_ble_eq_true rfl, Nat.le_of_ble_eq_true rfl⟩ rfl hl.1 rfl (Nat.le_of_ble_eq_true rfl) dX8_front_6 ⟨Nat.zero_le _, Nat.zero_le _⟩ (fun H locs hE i_v2 => ?_)
  refine x_if_eq C0 i_v2 dX8_front_9 (tgt := 26) (by decide) (fun c9 => ?_) (fun c9 => ?_)
  · have h := ite_t c9 h
    refine lv_iconst (v := I (-1)) C0.1 C0.2.1 dX8_front_26 rfl ?_
    exact ret_i (wf := wM g) C0 hr hlk hE h lit_m1 hR dX8_front_27
  · have h := ite_f c9 h
    refine lv_iload_n C0.1 C0.2.1 dX8_front_12 rfl (lv_at hl 2 rfl) ?_
    obtain ⟨v3, h_v3, h⟩ := bndp_s h
    refine callS_i (rest := []) C0 hml hE (c_M_isNumber l D g (σ := s1) i_p2 h_v3) kw_X8_163 ⟨Nat.le_of_ble_eq_true rfl, Nat.le_of_ble_eq_true rfl⟩ rfl hl.1 rfl (Nat.le_of_ble_eq_true rfl) dX8_front_13 ⟨Nat.zero_le _, Nat.zero_le _⟩ (fun H locs hE i_v3 => ?_)
    refine x_if_eq C0 i_v3 dX8_front_16 (tgt := 26) (by decide) (fun c9 => ?_) (fun c9 => ?_)
    · have h := ite_t c9 h
      refine lv_iconst (v := I (-1)) C0.1 C0.2.1 dX8_front_26 rfl ?_
      exact ret_i (wf := wM g) C0 hr hlk hE h lit_m1 hR dX8_front_27
    · have h := ite_f c9 h
      refine lv_iload_n C0.1 C0.2.1 dX8_front_19 rfl (lv_at hl 3 rfl) ?_
      obtain ⟨v4, h_v4, h⟩ := bndp_s h
      refine callS_i (rest := []) C0 hml hE (c_M_isPlace l D g (σ := s1) i_p3 h_v4) kw_X8_134 ⟨Nat.le_of_ble_eq_true rfl, Nat.le_of_ble_eq_true rfl⟩ rfl hl.1 rfl (Nat.le_of_ble_eq_true rfl) dX8_front_20 ⟨Nat.zero_le _, Nat.zero_le _⟩ (fun H locs hE i_v4 => ?_)
      refine x_if_ne C0 i_v4 dX8_front_23 (tgt := 28) (by decide) (fun c9 => ?_) (fun c9 => ?_)
      · have h := ite_f c9 h
        refine lv_aload_n C0.1 C0.2.1 dX8_front_28 rfl (lv_at hl 0 rfl) ?_
        refine M_g_sizes C0 hE fk_X8_16 dX8_front_29 ?_
        refine lv_iload_n C0.1 C0.2.1 dX8_front_32 rfl (lv_at hl 1 rfl) ?_
        obtain ⟨v5, e_v5, i_v5, h⟩ := rd_s hR h
        refine M_sizes_l C0 hE i_p1 e_v5 dX8_front_33 ?_
        refine lv_sipush (v := I 255) C0.1 C0.2.1 dX8_front_34 (by decide +kernel) ?_
        refine x_icmp_ne C0 i_v5 lit_255 dX8_front_37 (tgt := 43) (by decide) (fun c9 => ?_) (fun c9 => ?_)
        · have h := ite_f c9 h
          refine lv_aload_n C0.1 C0.2.1 dX8_front_43 rfl (lv_at hl 0 rfl) ?_
          refine lv_iload_n C0.1 C0.2.1 dX8_front_44 rfl (lv_at hl 1 rfl) ?_
          obtain ⟨v6, s7, h_v6, h⟩ := bnd_s h
          refine callV_v (rest := []) C0 hml hE (M_rec C0 hE) (c_M_asks l D g hR i_p1 h_v6) kw_X8_176 ⟨Nat.le_of_ble_eq_true rfl, Nat.le_of_ble_eq_true rfl⟩ rfl hl.1 rfl (Nat.le_of_ble_eq_true rfl) dX8_front_45 ⟨Nat.zero_le _, Nat.zero_le _⟩ (fun H locs hE hR => ?_)
          refine lv_aload_n C0.1 C0.2.1 dX8_front_48 rfl (lv_at hl 0 rfl) ?_
          obtain ⟨v8, s9, h_v8, h⟩ := bnd_s h
          refine callV_v (rest := []) C0 hml hE (M_rec C0 hE) (c_M_begins l D g hR h_v8) kw_X8_166 ⟨Nat.le_of_ble_eq_true rfl, Nat.le_of_ble_eq_true rfl⟩ rfl hl.1 rfl (Nat.le_of_ble_eq_true rfl) dX8_front_49 ⟨Nat.zero_le _, Nat.zero_le _⟩ (fun H locs hE hR => ?_)
          refine lv_aload_n C0.1 C0.2.1 dX8_front_52 rfl (lv_at hl 0 rfl) ?_
          refine lv_iconst (v := I 0) C0.1 C0.2.1 dX8_front_53 rfl ?_
          refine lv_iconst (v := I 1) C0.1 C0.2.1 dX8_front_54 rfl ?_
          refine lv_aload_n C0.1 C0.2.1 dX8_front_55 rfl (lv_at hl 0 rfl) ?_
          refine M_g_sizes C0 hE fk_X8_16 dX8_front_56 ?_
          refine lv_iload_n C0.1 C0.2.1 dX8_front_59 rfl (lv_at hl 1 rfl) ?_
          obtain ⟨v10, e_v10, i_v10, h⟩ := rd_s hR h
          refine M_sizes_l C0 hE i_p1 e_v10 dX8_front_60 ?_
          refine lv_iconst (v := I 0) C0.1 C0.2.1 dX8_front_61 rfl ?_
          refine lv_iconst (v := I 1) C0.1 C0.2.1 dX8_front_62 rfl ?_
          refine lv_iload_n C0.1 C0.2.1 dX8_front_63 rfl (lv_at hl 2 rfl) ?_
          obtain ⟨v11, s12, h_v11, h⟩ := bnd_s h
          refine callV_v (rest := []) C0 hml hE (M_rec C0 hE) (c_M_fronts l D g RD hR lit_0 lit_1 i_v10 lit_0 lit_1 i_p2 h_v11) kw_X8_208 ⟨Nat.le_of_ble_eq_true rfl, Nat.le_of_ble_eq_true rfl⟩ rfl hl.1 rfl (Nat.le_of_ble_eq_true rfl) dX8_front_64 ⟨Nat.zero_le _, Nat.zero_le _⟩ (fun H locs hE hR => ?_)
          refine lv_aload_n C0.1 C0.2.1 dX8_front_67 rfl (lv_at hl 0 rfl) ?_
          refine M_g_sizes C0 hE fk_X8_16 dX8_front_68 ?_
          refine lv_bipush (v := I 7) C0.1 C0.2.1 dX8_front_71 (by decide +kernel) ?_
          refine lv_aload_n C0.1 C0.2.1 dX8_front_73 rfl (lv_at hl 0 rfl) ?_
          refine M_g_sizes C0 hE fk_X8_16 dX8_front_74 ?_
          refine lv_bipush (v := I 6) C0.1 C0.2.1 dX8_front_77 (by decide +kernel) ?_
          obtain ⟨v13, e_v13, i_v13, h⟩ := rd_s hR h
          refine M_sizes_l C0 hE lit_6 e_v13 dX8_front_79 ?_
          refine lv_iconst (v := I 1) C0.1 C0.2.1 dX8_front_80 rfl ?_
          obtain ⟨v14, e_v14, i_v14, h⟩ := oadd_s h
          refine x_add C0 e_v14 dX8_front_81 ?_
          obtain ⟨s15, e_s15, hR, h⟩ := wr_s hR i_v14 h
          refine M_sizes_st C0 hE lit_7 e_s15 dX8_front_82 (fun H locs hE => ?_)
          refine lv_aload_n C0.1 C0.2.1 dX8_front_83 rfl (lv_at hl 0 rfl) ?_
          refine lv_iload_n C0.1 C0.2.1 dX8_front_84 rfl (lv_at hl 3 rfl) ?_
          obtain ⟨v16, s17, h_v16, h⟩ := bnd_s h
          refine callV_i (rest := []) C0 hml hE (M_rec C0 hE) (c_M_ends l D g hR i_p3 h_v16) kw_X8_205 ⟨Nat.le_of_ble_eq_true rfl, Nat.le_of_ble_eq_true rfl⟩ rfl hl.1 rfl (Nat.le_of_ble_eq_true rfl) dX8_front_85 ⟨Nat.zero_le _, Nat.zero_le _⟩ (fun H locs hE ⟨i_v16, hR⟩ => ?_)
          exact ret_i (wf := wM g) C0 hr hlk hE h i_v16 hR dX8_front_88
        · have h := ite_t c9 h
          refine lv_bipush (v := I (-2)) C0.1 C0.2.1 dX8_front_40 (by decide +kernel) ?_
          exact ret_i (wf := wM g) C0 hr hlk hE h lit_m2 hR dX8_front_42
      · have h := ite_t c9 h
        refine lv_iconst (v := I (-1)) C0.1 C0.2.1 dX8_front_26 rfl ?_
        exact ret_i (wf := wM g) C0 hr hlk hE h lit_m1 hR dX8_front_27
set_option maxRecDepth 100000 in
set_option maxHeartbeats 4000000 in
theorem c_M_backs (l : Launch) (D : va_G) (g : Ad) {σ σr : St} {p1 r : Int} (hR : R32 σ) (i_p1 : in32 p1) (h : M_backs σ p1 = some (r, σr)) : CtV l D g yX8_backs cX8_backs 2 none 3 (wM g σ) (wM g σr) [.ref (g.2 100), .int (I p1)] (R32 σr) := by
  intro sz
  refine met_of (by decide) (Nat.le_of_ble_eq_true rfl) (fun p e s m args below meth c ls H locs C0 hml hr hlk hE hl => ?_)
  have C0 : CX p c cX8_backs m s args D g RX8 := C0
  have hl : lv_has ls 2 [(0, .ref (g.2 100)), (1, .int (I p1))] := hl
  unfold M_backs at h
  refine lv_aload_n C0.1 C0.2.1 dX8_backs_0 rfl (lv_at hl 0 rfl) ?_
  obtain ⟨v1, s2, h_v1, h⟩ := bnd_s h
  refine callV_v (rest := []) C0 hml hE (M_rec C0 hE) (c_M_clearsNew l D g hR h_v1) kw_X8_195 ⟨Nat.le_of_ble_eq_true rfl, Nat.le_of_ble_eq_true rfl⟩ rfl hl.1 rfl (Nat.le_of_ble_eq_true rfl) dX8_backs_1 ⟨Nat.zero_le _, Nat.zero_le _⟩ (fun H locs hE hR => ?_)
  refine lv_aload_n C0.1 C0.2.1 dX8_backs_4 rfl (lv_at hl 0 rfl) ?_
  refine lv_aload_n C0.1 C0.2.1 dX8_backs_5 rfl (lv_at hl 0 rfl) ?_
  refine M_g_sizes C0 hE fk_X8_16 dX8_backs_6 ?_
  refine lv_bipush (v := I 7) C0.1 C0.2.1 dX8_backs_9 (by decide +kernel) ?_
  obtain ⟨v3, e_v3, i_v3, h⟩ := rd_s hR h
  refine M_sizes_l C0 hE lit_7 e_v3 dX8_backs_11 ?_
  refine lv_iconst (v := I 1) C0.1 C0.2.1 dX8_backs_12 rfl ?_
  obtain ⟨v4, s5, h_v4, h⟩ := bnd_s h
  refine callV_v (rest := []) C0 hml hE (M_rec C0 hE) (c_M_marks l D g hR i_v3 lit_1 h_v4) kw_X8_198 ⟨Nat.le_of_ble_eq_true rfl, Nat.le_of_ble_eq_true rfl⟩ rfl hl.1 rfl (Nat.le_of_ble_eq_true rfl) dX8_backs_13 ⟨Nat.zero_le _, Nat.zero_le _⟩ (fun H locs hE hR => ?_)
  refine lv_aload_n C0.1 C0.2.1 dX8_backs_16 rfl (lv_at hl 0 rfl) ?_
  refine M_g_numbers C0 hE fk_X8_7 dX8_backs_17 ?_
  refine lv_sipush (v := I 1792) C0.1 C0.2.1 dX8_backs_20 (by decide +kernel) ?_
  refine lv_aload_n C0.1 C0.2.1 dX8_backs_23 rfl (lv_at hl 0 rfl) ?_
  refine M_g_sizes C0 hE fk_X8_16 dX8_backs_24 ?_
  refine lv_bipush (v := I 7) C0.1 C0.2.1 dX8_backs_27 (by decide +kernel) ?_
  obtain ⟨v6, e_v6, i_v6, h⟩ := rd_s hR h
  refine M_sizes_l C0 hE lit_7 e_v6 dX8_backs_29 ?_
  obtain ⟨v7, e_v7, i_v7, h⟩ := oadd_s h
  refine x_add C0 e_v7 dX8_backs_30 ?_
  refine lv_iload_n C0.1 C0.2.1 dX8_backs_31 rfl (lv_at hl 1 rfl) ?_
  obtain ⟨s8, e_s8, hR, h⟩ := wr_s hR i_p1 h
  refine M_numbers_st C0 hE i_v7 e_s8 dX8_backs_32 (fun H locs hE => ?_)
  refine lv_aload_n C0.1 C0.2.1 dX8_backs_33 rfl (lv_at hl 0 rfl) ?_
  refine M_g_sizes C0 hE fk_X8_16 dX8_backs_34 ?_
  refine lv_bipush (v := I 7) C0.1 C0.2.1 dX8_backs_37 (by decide +kernel) ?_
  refine lv_dup2_11 C0.1 C0.2.1 dX8_backs_39 rfl rfl ?_
  obtain ⟨v9, e_v9, i_v9, h⟩ := rd_s hR h
  refine M_sizes_l C0 hE lit_7 e_v9 dX8_backs_40 ?_
  refine lv_iconst (v := I 1) C0.1 C0.2.1 dX8_backs_41 rfl ?_
  obtain ⟨v10, e_v10, i_v10, h⟩ := oadd_s h
  refine x_add C0 e_v10 dX8_backs_42 ?_
  obtain ⟨s11, e_s11, hR, h⟩ := wr_s hR i_v10 h
  refine M_sizes_st C0 hE lit_7 e_s11 dX8_backs_43 (fun H locs hE => ?_)
  refine lv_aload_n C0.1 C0.2.1 dX8_backs_44 rfl (lv_at hl 0 rfl) ?_
  obtain ⟨v12, s13, h_v12, h⟩ := bnd_s h
  refine callV_v (rest := []) C0 hml hE (M_rec C0 hE) (c_M_renews l D g hR h_v12) kw_X8_202 ⟨Nat.le_of_ble_eq_true rfl, Nat.le_of_ble_eq_true rfl⟩ rfl hl.1 rfl (Nat.le_of_ble_eq_true rfl) dX8_backs_45 ⟨Nat.zero_le _, Nat.zero_le _⟩ (fun H locs hE hR => ?_)
  exact ret_v (wf := wM g) C0 hr hlk hE h hR dX8_backs_48
set_option maxRecDepth 100000 in
set_option maxHeartbeats 4000000 in
theorem c_M_back (l : Launch) (D : va_G) (g : Ad) {σ σr : St} {p1 p2 p3 r : Int} (hR : R32 σ) (i_p1 : in32 p1) (i_p2 : in32 p2) (i_p3 : in32 p3) (h : M_back σ p1 p2 p3 = some (r, σr)) : CtI l D g yX8_back cX8_back 4 (some .int) 4 (wM g σ) (wM g σr) [.ref (g.2 100), .int (I p1), .int (I p2), .int (I p3)] r (in32 r ∧ R32 σr) := by
  intro sz
  refine met_of (by decide) (Nat.le_of_ble_eq_true rfl) (fun p e s m args below meth c ls H locs C0 hml hr hlk hE hl => ?_)
  have C0 : CX p c cX8_back m s args D g RX8 := C0
  have hl : lv_has ls 4 [(0, .ref (g.2 100)), (1, .int (I p1)), (2, .int (I p2)), (3, .int (I p3))] := hl
  unfold M_back at h
  refine lv_aload_n C0.1 C0.2.1 dX8_back_0 rfl (lv_at hl 0 rfl) ?_
  refine lv_iconst (v := I 0) C0.1 C0.2.1 dX8_back_1 rfl ?_
  obtain ⟨s1, e_s1, hR, h⟩ := pf_s hR lit_0 h
  refine M_p_thrown C0 hE e_s1 fk_X8_55 dX8_back_2 (fun H locs hE => ?_)
  refine lv_iload_n C0.1 C0.2.1 dX8_back_5 rfl (lv_at hl 1 rfl) ?_
  obtain ⟨v2, h_v2, h⟩ := bndp_s h
  refine callS_i (rest := []) C0 hml hE (c_M_isPlace l D g (σ := s1) i_p1 h_v2) kw_X8_134 ⟨Nat.le_of_ble_eq_true rfl, Nat.le_of_ble_eq_true rfl⟩ rfl hl.1 rfl (Nat.le_of_ble_eq_true rfl) dX8_back_6 ⟨Nat.zero_le _, Nat.zero_le _⟩ (fun H locs hE i_v2 => ?_)
  refine x_if_eq C0 i_v2 dX8_back_9 (tgt := 26) (by decide) (fun c9 => ?_) (fun c9 => ?_)
  · have h := ite_t c9 h
    refine lv_iconst (v := I (-1)) C0.1 C0.2.1 dX8_back_26 rfl ?_
    exact ret_i (wf := wM g) C0 hr hlk hE h lit_m1 hR dX8_back_27
  · have h := ite_f c9 h
    refine lv_iload_n C0.1 C0.2.1 dX8_back_12 rfl (lv_at hl 2 rfl) ?_
    obtain ⟨v3, h_v3, h⟩ := bndp_s h
    refine callS_i (rest := []) C0 hml hE (c_M_isNumber l D g (σ := s1) i_p2 h_v3) kw_X8_163 ⟨Nat.le_of_ble_eq_true rfl, Nat.le_of_ble_eq_true rfl⟩ rfl hl.1 rfl (Nat.le_of_ble_eq_true rfl) dX8_back_13 ⟨Nat.zero_le _, Nat.zero_le _⟩ (fun H locs hE i_v3 => ?_)
    refine x_if_eq C0 i_v3 dX8_back_16 (tgt := 26) (by decide) (fun c9 => ?_) (fun c9 => ?_)
    · have h := ite_t c9 h
      refine lv_iconst (v := I (-1)) C0.1 C0.2.1 dX8_back_26 rfl ?_
      exact ret_i (wf := wM g) C0 hr hlk hE h lit_m1 hR dX8_back_27
    · have h := ite_f c9 h
      refine lv_iload_n C0.1 C0.2.1 dX8_back_19 rfl (lv_at hl 3 rfl) ?_
      obtain ⟨v4, h_v4, h⟩ := bndp_s h
      refine callS_i (rest := []) C0 hml hE (c_M_isPlace l D g (σ := s1) i_p3 h_v4) kw_X8_134 ⟨Nat.le_of_ble_eq_true rfl, Nat.le_of_ble_eq_true rfl⟩ rfl hl.1 rfl (Nat.le_of_ble_eq_true rfl) dX8_back_20 ⟨Nat.zero_le _, Nat.zero_le _⟩ (fun H locs hE i_v4 => ?_)
      refine x_if_ne C0 i_v4 dX8_back_23 (tgt := 28) (by decide) (fun c9 => ?_) (fun c9 => ?_)
      · have h := ite_f c9 h
        refine lv_aload_n C0.1 C0.2.1 dX8_back_28 rfl (lv_at hl 0 rfl) ?_
        refine M_g_sizes C0 hE fk_X8_16 dX8_back_29 ?_
        refine lv_iload_n C0.1 C0.2.1 dX8_back_32 rfl (lv_at hl 1 rfl) ?_
        obtain ⟨v5, e_v5, i_v5, h⟩ := rd_s hR h
        refine M_sizes_l C0 hE i_p1 e_v5 dX8_back_33 ?_
        refine lv_sipush (v := I 255) C0.1 C0.2.1 dX8_back_34 (by decide +kernel) ?_
        refine x_icmp_ne C0 i_v5 lit_255 dX8_back_37 (tgt := 43) (by decide) (fun c9 => ?_) (fun c9 => ?_)
        · have h := ite_f c9 h
          refine lv_aload_n C0.1 C0.2.1 dX8_back_43 rfl (lv_at hl 0 rfl) ?_
          refine lv_iload_n C0.1 C0.2.1 dX8_back_44 rfl (lv_at hl 1 rfl) ?_
          obtain ⟨v6, s7, h_v6, h⟩ := bnd_s h
          refine callV_v (rest := []) C0 hml hE (M_rec C0 hE) (c_M_asks l D g hR i_p1 h_v6) kw_X8_176 ⟨Nat.le_of_ble_eq_true rfl, Nat.le_of_ble_eq_true rfl⟩ rfl hl.1 rfl (Nat.le_of_ble_eq_true rfl) dX8_back_45 ⟨Nat.zero_le _, Nat.zero_le _⟩ (fun H locs hE hR => ?_)
          refine lv_aload_n C0.1 C0.2.1 dX8_back_48 rfl (lv_at hl 0 rfl) ?_
          obtain ⟨v8, s9, h_v8, h⟩ := bnd_s h
          refine callV_v (rest := []) C0 hml hE (M_rec C0 hE) (c_M_begins l D g hR h_v8) kw_X8_166 ⟨Nat.le_of_ble_eq_true rfl, Nat.le_of_ble_eq_true rfl⟩ rfl hl.1 rfl (Nat.le_of_ble_eq_true rfl) dX8_back_49 ⟨Nat.zero_le _, Nat.zero_le _⟩ (fun H locs hE hR => ?_)
          refine lv_aload_n C0.1 C0.2.1 dX8_back_52 rfl (lv_at hl 0 rfl) ?_
          refine lv_iload_n C0.1 C0.2.1 dX8_back_53 rfl (lv_at hl 2 rfl) ?_
          obtain ⟨v10, s11, h_v10, h⟩ := bnd_s h
          refine callV_v (rest := []) C0 hml hE (M_rec C0 hE) (c_M_backs l D g hR i_p2 h_v10) kw_X8_212 ⟨Nat.le_of_ble_eq_true rfl, Nat.le_of_ble_eq_true rfl⟩ rfl hl.1 rfl (Nat.le_of_ble_eq_true rfl) dX8_back_54 ⟨Nat.zero_le _, Nat.zero_le _⟩ (fun H locs hE hR => ?_)
          refine lv_aload_n C0.1 C0.2.1 dX8_back_57 rfl (lv_at hl 0 rfl) ?_
          refine lv_iload_n C0.1 C0.2.1 dX8_back_58 rfl (lv_at hl 3 rfl) ?_
          obtain ⟨v12, s13, h_v12, h⟩ := bnd_s h
          refine callV_i (rest := []) C0 hml hE (M_rec C0 hE) (c_M_ends l D g hR i_p3 h_v12) kw_X8_205 ⟨Nat.le_of_ble_eq_true rfl, Nat.le_of_ble_eq_true rfl⟩ rfl hl.1 rfl (Nat.le_of_ble_eq_true rfl) dX8_back_59 ⟨Nat.zero_le _, Nat.zero_le _⟩ (fun H locs hE ⟨i_v12, hR⟩ => ?_)
          exact ret_i (wf := wM g) C0 hr hlk hE h i_v12 hR dX8_back_62
        · have h := ite_t c9 h
          refine lv_bipush (v := I (-2)) C0.1 C0.2.1 dX8_back_40 (by decide +kernel) ?_
          exact ret_i (wf := wM g) C0 hr hlk hE h lit_m2 hR dX8_back_42
      · have h := ite_t c9 h
        refine lv_iconst (v := I (-1)) C0.1 C0.2.1 dX8_back_26 rfl ?_
        exact ret_i (wf := wM g) C0 hr hlk hE h lit_m1 hR dX8_back_27
set_option maxRecDepth 100000 in
set_option maxHeartbeats 4000000 in
theorem c_M_firsts (l : Launch) (D : va_G) (g : Ad) : ∀ (d : Nat) {σ σr : St} {p1 p2 p3 p4 p5 r : Int} (hR : R32 σ) (i_p1 : in32 p1) (i_p2 : in32 p2) (i_p3 : in32 p3) (i_p4 : in32 p4) (i_p5 : in32 p5) (h : M_firsts d σ p1 p2 p3 p4 p5 = some (r, σr)), CtV l D g yX8_firsts cX8_firsts 6 none (2 + d) (wM g σ) (wM g σr) [.ref (g.2 100), .int (I p1), .int (I p2), .int (I p3), .int (I p4), .int (I p5)] (R32 σr) := by
  intro d
  induction d with
  | zero => intros; rename_i h; cases h
  | succ d ih =>
    intro σ σr p1 p2 p3 p4 p5 r hR i_p1 i_p2 i_p3 i_p4 i_p5 h sz
    refine met_of (by decide) (Nat.le_of_ble_eq_true rfl) (fun p e s m args below meth c ls H locs C0 hml hr hlk hE hl => ?_)
    have C0 : CX p c cX8_firsts m s args D g RX8 := C0
    have hl : lv_has ls 6 [(0, .ref (g.2 100)), (1, .int (I p1)), (2, .int (I p2)), (3, .int (I p3)), (4, .int (I p4)), (5, .int (I p5))] := hl
    unfold M_firsts at h
    refine lv_iload_n C0.1 C0.2.1 dX8_firsts_0 rfl (lv_at hl 3 rfl) ?_
    refine lv_iconst (v := I 1) C0.1 C0.2.1 dX8_firsts_1 rfl ?_
    refine x_icmp_ne C0 i_p3 lit_1 dX8_firsts_2 (tgt := 6) (by decide) (fun c9 => ?_) (fun c9 => ?_)
    · have h := ite_f c9 h
      refine lv_aload_n C0.1 C0.2.1 dX8_firsts_6 rfl (lv_at hl 0 rfl) ?_
      refine lv_bipush (v := I 7) C0.1 C0.2.1 dX8_firsts_7 (by decide +kernel) ?_
      refine lv_iload C0.1 C0.2.1 dX8_firsts_9 (lv_at hl 4 rfl) ?_
      refine lv_aload_n C0.1 C0.2.1 dX8_firsts_11 rfl (lv_at hl 0 rfl) ?_
      refine lv_bipush (v := I 6) C0.1 C0.2.1 dX8_firsts_12 (by decide +kernel) ?_
      refine lv_iload_n C0.1 C0.2.1 dX8_firsts_14 rfl (lv_at hl 1 rfl) ?_
      refine lv_iload_n C0.1 C0.2.1 dX8_firsts_15 rfl (lv_at hl 2 rfl) ?_
      obtain ⟨v1, e_v1, i_v1, h⟩ := oadd_s h
      refine x_add C0 e_v1 dX8_firsts_16 ?_
      obtain ⟨v2, h_v2, h⟩ := bndp_s h
      refine callV_i (rest := [.int (I p4), .int (I 7), .ref (g.2 100)]) C0 hml hE (M_rec C0 hE) (c_M_number l D g hR lit_6 i_v1 h_v2) kw_X8_99 (by simp only [rmk, RD]; omega) rfl hl.1 rfl (Nat.le_of_ble_eq_true rfl) dX8_firsts_17 ⟨Nat.zero_le _, Nat.zero_le _⟩ (fun H locs hE i_v2 => ?_)
      obtain ⟨v3, s4, h_v3, h⟩ := bnd_s h
      refine callV_v (rest := []) C0 hml hE (M_rec C0 hE) (c_M_makes l D g hR lit_7 i_p4 i_v2 h_v3) kw_X8_103 (by simp only [rmk, RD]; omega) rfl hl.1 rfl (Nat.le_of_ble_eq_true rfl) dX8_firsts_20 ⟨Nat.zero_le _, Nat.zero_le _⟩ (fun H locs hE hR => ?_)
      refine lv_aload_n C0.1 C0.2.1 dX8_firsts_23 rfl (lv_at hl 0 rfl) ?_
      refine lv_bipush (v := I 6) C0.1 C0.2.1 dX8_firsts_24 (by decide +kernel) ?_
      refine lv_iload_n C0.1 C0.2.1 dX8_firsts_26 rfl (lv_at hl 1 rfl) ?_
      refine lv_iconst (v := I 2) C0.1 C0.2.1 dX8_firsts_27 rfl ?_
      refine lv_iload_n C0.1 C0.2.1 dX8_firsts_28 rfl (lv_at hl 2 rfl) ?_
      obtain ⟨v5, e_v5, i_v5, h⟩ := omul_s h
      refine x_mul C0 e_v5 dX8_firsts_29 ?_
      obtain ⟨v6, e_v6, i_v6, h⟩ := oadd_s h
      refine x_add C0 e_v6 dX8_firsts_30 ?_
      refine lv_iconst (v := I 2) C0.1 C0.2.1 dX8_firsts_31 rfl ?_
      refine lv_iload_n C0.1 C0.2.1 dX8_firsts_32 rfl (lv_at hl 2 rfl) ?_
      obtain ⟨v7, e_v7, i_v7, h⟩ := omul_s h
      refine x_mul C0 e_v7 dX8_firsts_33 ?_
      refine lv_iload_n C0.1 C0.2.1 dX8_firsts_34 rfl (lv_at hl 3 rfl) ?_
      obtain ⟨v8, h_v8, h⟩ := bndp_s h
      refine callS_i (rest := [.int (I v7), .int (I v6), .int (I 6), .ref (g.2 100)]) C0 hml hE (c_M_rightSize l D g (σ := s4) i_p3 h_v8) kw_X8_173 (by simp only [rmk, RD]; omega) rfl hl.1 rfl (Nat.le_of_ble_eq_true rfl) dX8_firsts_35 ⟨Nat.zero_le _, Nat.zero_le _⟩ (fun H locs hE i_v8 => ?_)
      refine lv_bipush (v := I 7) C0.1 C0.2.1 dX8_firsts_38 (by decide +kernel) ?_
      refine lv_iload C0.1 C0.2.1 dX8_firsts_40 (lv_at hl 4 rfl) ?_
      refine lv_iload C0.1 C0.2.1 dX8_firsts_42 (lv_at hl 5 rfl) ?_
      obtain ⟨v9, e_v9, i_v9, h⟩ := oadd_s h
      refine x_add C0 e_v9 dX8_firsts_44 ?_
      refine lv_iconst (v := I 2) C0.1 C0.2.1 dX8_firsts_45 rfl ?_
      refine lv_iload C0.1 C0.2.1 dX8_firsts_46 (lv_at hl 5 rfl) ?_
      obtain ⟨v10, e_v10, i_v10, h⟩ := omul_s h
      refine x_mul C0 e_v10 dX8_firsts_48 ?_
      obtain ⟨v11, s12, h_v11, h⟩ := bnd_s h
      refine callV_v (rest := []) C0 hml hE (M_rec C0 hE) (c_M_shares l D g hR lit_6 i_v6 i_v7 i_v8 lit_7 i_v9 i_v10 h_v11) kw_X8_78 (by simp only [rmk, RD]; omega) rfl hl.1 rfl (Nat.le_of_ble_eq_true rfl) dX8_firsts_49 ⟨Nat.zero_le _, Nat.zero_le _⟩ (fun H locs hE hR => ?_)
      refine lv_aload_n C0.1 C0.2.1 dX8_firsts_52 rfl (lv_at hl 0 rfl) ?_
      refine lv_iload_n C0.1 C0.2.1 dX8_firsts_53 rfl (lv_at hl 1 rfl) ?_
      refine lv_iload_n C0.1 C0.2.1 dX8_firsts_54 rfl (lv_at hl 2 rfl) ?_
      obtain ⟨v13, e_v13, i_v13, h⟩ := oadd_s h
      refine x_add C0 e_v13 dX8_firsts_55 ?_
      refine lv_iconst (v := I 2) C0.1 C0.2.1 dX8_firsts_56 rfl ?_
      refine lv_iload_n C0.1 C0.2.1 dX8_firsts_57 rfl (lv_at hl 2 rfl) ?_
      obtain ⟨v14, e_v14, i_v14, h⟩ := omul_s h
      refine x_mul C0 e_v14 dX8_firsts_58 ?_
      refine lv_iload_n C0.1 C0.2.1 dX8_firsts_59 rfl (lv_at hl 3 rfl) ?_
      obtain ⟨v15, h_v15, h⟩ := bndp_s h
      refine callS_i (rest := [.int (I v14), .int (I v13), .ref (g.2 100)]) C0 hml hE (c_M_leftSize l D g (σ := s12) i_p3 h_v15) kw_X8_169 (by simp only [rmk, RD]; omega) rfl hl.1 rfl (Nat.le_of_ble_eq_true rfl) dX8_firsts_60 ⟨Nat.zero_le _, Nat.zero_le _⟩ (fun H locs hE i_v15 => ?_)
      refine lv_iload C0.1 C0.2.1 dX8_firsts_63 (lv_at hl 4 rfl) ?_
      refine lv_iconst (v := I 2) C0.1 C0.2.1 dX8_firsts_65 rfl ?_
      refine lv_iload C0.1 C0.2.1 dX8_firsts_66 (lv_at hl 5 rfl) ?_
      obtain ⟨v16, e_v16, i_v16, h⟩ := omul_s h
      refine x_mul C0 e_v16 dX8_firsts_68 ?_
      obtain ⟨v17, e_v17, i_v17, h⟩ := oadd_s h
      refine x_add C0 e_v17 dX8_firsts_69 ?_
      refine lv_iconst (v := I 2) C0.1 C0.2.1 dX8_firsts_70 rfl ?_
      refine lv_iload C0.1 C0.2.1 dX8_firsts_71 (lv_at hl 5 rfl) ?_
      obtain ⟨v18, e_v18, i_v18, h⟩ := omul_s h
      refine x_mul C0 e_v18 dX8_firsts_73 ?_
      obtain ⟨v19, s20, h_v19, h⟩ := bnd_s h
      refine callV_v (rest := []) C0 hml hE (M_rec C0 hE) (ih hR i_v13 i_v14 i_v15 i_v17 i_v18 h_v19) kw_X8_215 (by simp only [rmk, RD]; omega) rfl hl.1 rfl (Nat.le_of_ble_eq_true rfl) dX8_firsts_74 ⟨Nat.zero_le _, Nat.zero_le _⟩ (fun H locs hE hR => ?_)
      exact ret_v (wf := wM g) C0 hr hlk hE h hR dX8_firsts_77
    · have h := ite_t c9 h
      exact ret_v (wf := wM g) C0 hr hlk hE h hR dX8_firsts_5
set_option maxRecDepth 100000 in
set_option maxHeartbeats 4000000 in
theorem c_M_goesFirst (l : Launch) (D : va_G) (g : Ad) {σ σr : St} {r : Int} (hR : R32 σ) (h : M_goesFirst σ = some (r, σr)) : CtV l D g yX8_goesFirst cX8_goesFirst 1 none 15 (wM g σ) (wM g σr) [.ref (g.2 100)] (R32 σr) := by
  intro sz
  refine met_of (by decide) (Nat.le_of_ble_eq_true rfl) (fun p e s m args below meth c ls H locs C0 hml hr hlk hE hl => ?_)
  have C0 : CX p c cX8_goesFirst m s args D g RX8 := C0
  have hl : lv_has ls 1 [(0, .ref (g.2 100))] := hl
  unfold M_goesFirst at h
  refine lv_aload_n C0.1 C0.2.1 dX8_goesFirst_0 rfl (lv_at hl 0 rfl) ?_
  refine lv_bipush (v := I 7) C0.1 C0.2.1 dX8_goesFirst_1 (by decide +kernel) ?_
  refine lv_bipush (v := I 6) C0.1 C0.2.1 dX8_goesFirst_3 (by decide +kernel) ?_
  obtain ⟨v1, s2, h_v1, h⟩ := bnd_s h
  refine callV_v (rest := []) C0 hml hE (M_rec C0 hE) (c_M_takes l D g hR lit_7 lit_6 h_v1) kw_X8_82 ⟨Nat.le_of_ble_eq_true rfl, Nat.le_of_ble_eq_true rfl⟩ rfl hl.1 rfl (Nat.le_of_ble_eq_true rfl) dX8_goesFirst_5 ⟨Nat.zero_le _, Nat.zero_le _⟩ (fun H locs hE hR => ?_)
  refine lv_aload_n C0.1 C0.2.1 dX8_goesFirst_8 rfl (lv_at hl 0 rfl) ?_
  refine lv_iconst (v := I 0) C0.1 C0.2.1 dX8_goesFirst_9 rfl ?_
  refine lv_iconst (v := I 1) C0.1 C0.2.1 dX8_goesFirst_10 rfl ?_
  refine lv_aload_n C0.1 C0.2.1 dX8_goesFirst_11 rfl (lv_at hl 0 rfl) ?_
  refine M_g_sizes C0 hE fk_X8_16 dX8_goesFirst_12 ?_
  refine lv_bipush (v := I 6) C0.1 C0.2.1 dX8_goesFirst_15 (by decide +kernel) ?_
  obtain ⟨v3, e_v3, i_v3, h⟩ := rd_s hR h
  refine M_sizes_l C0 hE lit_6 e_v3 dX8_goesFirst_17 ?_
  refine lv_iconst (v := I 0) C0.1 C0.2.1 dX8_goesFirst_18 rfl ?_
  refine lv_iconst (v := I 1) C0.1 C0.2.1 dX8_goesFirst_19 rfl ?_
  obtain ⟨v4, s5, h_v4, h⟩ := bnd_s h
  refine callV_v (rest := []) C0 hml hE (M_rec C0 hE) (c_M_firsts l D g RD hR lit_0 lit_1 i_v3 lit_0 lit_1 h_v4) kw_X8_215 ⟨Nat.le_of_ble_eq_true rfl, Nat.le_of_ble_eq_true rfl⟩ rfl hl.1 rfl (Nat.le_of_ble_eq_true rfl) dX8_goesFirst_20 ⟨Nat.zero_le _, Nat.zero_le _⟩ (fun H locs hE hR => ?_)
  refine lv_aload_n C0.1 C0.2.1 dX8_goesFirst_23 rfl (lv_at hl 0 rfl) ?_
  refine M_g_sizes C0 hE fk_X8_16 dX8_goesFirst_24 ?_
  refine lv_bipush (v := I 7) C0.1 C0.2.1 dX8_goesFirst_27 (by decide +kernel) ?_
  refine lv_dup2_11 C0.1 C0.2.1 dX8_goesFirst_29 rfl rfl ?_
  obtain ⟨v6, e_v6, i_v6, h⟩ := rd_s hR h
  refine M_sizes_l C0 hE lit_7 e_v6 dX8_goesFirst_30 ?_
  refine lv_iconst (v := I 1) C0.1 C0.2.1 dX8_goesFirst_31 rfl ?_
  obtain ⟨v7, e_v7, i_v7, h⟩ := osub_s h
  refine x_sub C0 e_v7 dX8_goesFirst_32 ?_
  obtain ⟨s8, e_s8, hR, h⟩ := wr_s hR i_v7 h
  refine M_sizes_st C0 hE lit_7 e_s8 dX8_goesFirst_33 (fun H locs hE => ?_)
  exact ret_v (wf := wM g) C0 hr hlk hE h hR dX8_goesFirst_34
set_option maxRecDepth 100000 in
set_option maxHeartbeats 4000000 in
theorem c_M_first (l : Launch) (D : va_G) (g : Ad) {σ σr : St} {p1 p2 r : Int} (hR : R32 σ) (i_p1 : in32 p1) (i_p2 : in32 p2) (h : M_first σ p1 p2 = some (r, σr)) : CtI l D g yX8_first cX8_first 3 (some .int) 16 (wM g σ) (wM g σr) [.ref (g.2 100), .int (I p1), .int (I p2)] r (in32 r ∧ R32 σr) := by
  intro sz
  refine met_of (by decide) (Nat.le_of_ble_eq_true rfl) (fun p e s m args below meth c ls H locs C0 hml hr hlk hE hl => ?_)
  have C0 : CX p c cX8_first m s args D g RX8 := C0
  have hl : lv_has ls 3 [(0, .ref (g.2 100)), (1, .int (I p1)), (2, .int (I p2))] := hl
  unfold M_first at h
  refine lv_aload_n C0.1 C0.2.1 dX8_first_0 rfl (lv_at hl 0 rfl) ?_
  refine lv_iconst (v := I 0) C0.1 C0.2.1 dX8_first_1 rfl ?_
  obtain ⟨s1, e_s1, hR, h⟩ := pf_s hR lit_0 h
  refine M_p_thrown C0 hE e_s1 fk_X8_55 dX8_first_2 (fun H locs hE => ?_)
  refine lv_iload_n C0.1 C0.2.1 dX8_first_5 rfl (lv_at hl 1 rfl) ?_
  obtain ⟨v2, h_v2, h⟩ := bndp_s h
  refine callS_i (rest := []) C0 hml hE (c_M_isPlace l D g (σ := s1) i_p1 h_v2) kw_X8_134 ⟨Nat.le_of_ble_eq_true rfl, Nat.le_of_ble_eq_true rfl⟩ rfl hl.1 rfl (Nat.le_of_ble_eq_true rfl) dX8_first_6 ⟨Nat.zero_le _, Nat.zero_le _⟩ (fun H locs hE i_v2 => ?_)
  refine x_if_eq C0 i_v2 dX8_first_9 (tgt := 19) (by decide) (fun c9 => ?_) (fun c9 => ?_)
  · have h := ite_t c9 h
    refine lv_iconst (v := I (-1)) C0.1 C0.2.1 dX8_first_19 rfl ?_
    exact ret_i (wf := wM g) C0 hr hlk hE h lit_m1 hR dX8_first_20
  · have h := ite_f c9 h
    refine lv_iload_n C0.1 C0.2.1 dX8_first_12 rfl (lv_at hl 2 rfl) ?_
    obtain ⟨v3, h_v3, h⟩ := bndp_s h
    refine callS_i (rest := []) C0 hml hE (c_M_isPlace l D g (σ := s1) i_p2 h_v3) kw_X8_134 ⟨Nat.le_of_ble_eq_true rfl, Nat.le_of_ble_eq_true rfl⟩ rfl hl.1 rfl (Nat.le_of_ble_eq_true rfl) dX8_first_13 ⟨Nat.zero_le _, Nat.zero_le _⟩ (fun H locs hE i_v3 => ?_)
    refine x_if_ne C0 i_v3 dX8_first_16 (tgt := 21) (by decide) (fun c9 => ?_) (fun c9 => ?_)
    · have h := ite_f c9 h
      refine lv_aload_n C0.1 C0.2.1 dX8_first_21 rfl (lv_at hl 0 rfl) ?_
      refine M_g_sizes C0 hE fk_X8_16 dX8_first_22 ?_
      refine lv_iload_n C0.1 C0.2.1 dX8_first_25 rfl (lv_at hl 1 rfl) ?_
      obtain ⟨v4, e_v4, i_v4, h⟩ := rd_s hR h
      refine M_sizes_l C0 hE i_p1 e_v4 dX8_first_26 ?_
      refine x_if_ne C0 i_v4 dX8_first_27 (tgt := 33) (by decide) (fun c9 => ?_) (fun c9 => ?_)
      · have h := ite_f c9 h
        refine lv_aload_n C0.1 C0.2.1 dX8_first_33 rfl (lv_at hl 0 rfl) ?_
        refine lv_iconst (v := I 0) C0.1 C0.2.1 dX8_first_34 rfl ?_
        obtain ⟨s5, e_s5, hR, h⟩ := pf_s hR lit_0 h
        refine M_p_rowMany C0 hE e_s5 fk_X8_59 dX8_first_35 (fun H locs hE => ?_)
        refine lv_aload_n C0.1 C0.2.1 dX8_first_38 rfl (lv_at hl 0 rfl) ?_
        refine lv_aload_n C0.1 C0.2.1 dX8_first_39 rfl (lv_at hl 0 rfl) ?_
        refine lv_iload_n C0.1 C0.2.1 dX8_first_40 rfl (lv_at hl 1 rfl) ?_
        refine lv_iconst (v := I 0) C0.1 C0.2.1 dX8_first_41 rfl ?_
        obtain ⟨v6, h_v6, h⟩ := bndp_s h
        refine callV_i (rest := [.ref (g.2 100)]) C0 hml hE (M_rec C0 hE) (c_M_number l D g hR i_p1 lit_0 h_v6) kw_X8_99 ⟨Nat.le_of_ble_eq_true rfl, Nat.le_of_ble_eq_true rfl⟩ rfl hl.1 rfl (Nat.le_of_ble_eq_true rfl) dX8_first_42 ⟨Nat.zero_le _, Nat.zero_le _⟩ (fun H locs hE i_v6 => ?_)
        refine x_i2l C0 i_v6 dX8_first_45 ?_
        obtain ⟨v7, s8, h_v7, h⟩ := bnd_s h
        refine callV_v (rest := []) C0 hml hE (M_rec C0 hE) (c_M_tell l D g hR (in64_of i_v6) h_v7) kw_X8_150 ⟨Nat.le_of_ble_eq_true rfl, Nat.le_of_ble_eq_true rfl⟩ rfl hl.1 rfl (Nat.le_of_ble_eq_true rfl) dX8_first_46 ⟨Nat.zero_le _, Nat.zero_le _⟩ (fun H locs hE hR => ?_)
        refine lv_aload_n C0.1 C0.2.1 dX8_first_49 rfl (lv_at hl 0 rfl) ?_
        refine lv_iload_n C0.1 C0.2.1 dX8_first_50 rfl (lv_at hl 1 rfl) ?_
        obtain ⟨v9, s10, h_v9, h⟩ := bnd_s h
        refine callV_v (rest := []) C0 hml hE (M_rec C0 hE) (c_M_asks l D g hR i_p1 h_v9) kw_X8_176 ⟨Nat.le_of_ble_eq_true rfl, Nat.le_of_ble_eq_true rfl⟩ rfl hl.1 rfl (Nat.le_of_ble_eq_true rfl) dX8_first_51 ⟨Nat.zero_le _, Nat.zero_le _⟩ (fun H locs hE hR => ?_)
        refine lv_aload_n C0.1 C0.2.1 dX8_first_54 rfl (lv_at hl 0 rfl) ?_
        obtain ⟨v11, s12, h_v11, h⟩ := bnd_s h
        refine callV_v (rest := []) C0 hml hE (M_rec C0 hE) (c_M_begins l D g hR h_v11) kw_X8_166 ⟨Nat.le_of_ble_eq_true rfl, Nat.le_of_ble_eq_true rfl⟩ rfl hl.1 rfl (Nat.le_of_ble_eq_true rfl) dX8_first_55 ⟨Nat.zero_le _, Nat.zero_le _⟩ (fun H locs hE hR => ?_)
        refine lv_aload_n C0.1 C0.2.1 dX8_first_58 rfl (lv_at hl 0 rfl) ?_
        obtain ⟨v13, s14, h_v13, h⟩ := bnd_s h
        refine callV_v (rest := []) C0 hml hE (M_rec C0 hE) (c_M_goesFirst l D g hR h_v13) kw_X8_219 ⟨Nat.le_of_ble_eq_true rfl, Nat.le_of_ble_eq_true rfl⟩ rfl hl.1 rfl (Nat.le_of_ble_eq_true rfl) dX8_first_59 ⟨Nat.zero_le _, Nat.zero_le _⟩ (fun H locs hE hR => ?_)
        refine lv_aload_n C0.1 C0.2.1 dX8_first_62 rfl (lv_at hl 0 rfl) ?_
        refine lv_iload_n C0.1 C0.2.1 dX8_first_63 rfl (lv_at hl 2 rfl) ?_
        obtain ⟨v15, s16, h_v15, h⟩ := bnd_s h
        refine callV_i (rest := []) C0 hml hE (M_rec C0 hE) (c_M_ends l D g hR i_p2 h_v15) kw_X8_205 ⟨Nat.le_of_ble_eq_true rfl, Nat.le_of_ble_eq_true rfl⟩ rfl hl.1 rfl (Nat.le_of_ble_eq_true rfl) dX8_first_64 ⟨Nat.zero_le _, Nat.zero_le _⟩ (fun H locs hE ⟨i_v15, hR⟩ => ?_)
        exact ret_i (wf := wM g) C0 hr hlk hE h i_v15 hR dX8_first_67
      · have h := ite_t c9 h
        refine lv_bipush (v := I (-2)) C0.1 C0.2.1 dX8_first_30 (by decide +kernel) ?_
        exact ret_i (wf := wM g) C0 hr hlk hE h lit_m2 hR dX8_first_32
    · have h := ite_t c9 h
      refine lv_iconst (v := I (-1)) C0.1 C0.2.1 dX8_first_19 rfl ?_
      exact ret_i (wf := wM g) C0 hr hlk hE h lit_m1 hR dX8_first_20
set_option maxRecDepth 100000 in
set_option maxHeartbeats 4000000 in
theorem c_M_goesLast (l : Launch) (D : va_G) (g : Ad) {σ σr : St} {r : Int} (hR : R32 σ) (h : M_goesLast σ = some (r, σr)) : CtV l D g yX8_goesLast cX8_goesLast 1 none 3 (wM g σ) (wM g σr) [.ref (g.2 100)] (R32 σr) := by
  intro sz
  refine met_of (by decide) (Nat.le_of_ble_eq_true rfl) (fun p e s m args below meth c ls H locs C0 hml hr hlk hE hl => ?_)
  have C0 : CX p c cX8_goesLast m s args D g RX8 := C0
  have hl : lv_has ls 1 [(0, .ref (g.2 100))] := hl
  unfold M_goesLast at h
  refine lv_aload_n C0.1 C0.2.1 dX8_goesLast_0 rfl (lv_at hl 0 rfl) ?_
  obtain ⟨v1, s2, h_v1, h⟩ := bnd_s h
  refine callV_v (rest := []) C0 hml hE (M_rec C0 hE) (c_M_clearsNew l D g hR h_v1) kw_X8_195 ⟨Nat.le_of_ble_eq_true rfl, Nat.le_of_ble_eq_true rfl⟩ rfl hl.1 rfl (Nat.le_of_ble_eq_true rfl) dX8_goesLast_1 ⟨Nat.zero_le _, Nat.zero_le _⟩ (fun H locs hE hR => ?_)
  refine lv_aload_n C0.1 C0.2.1 dX8_goesLast_4 rfl (lv_at hl 0 rfl) ?_
  refine lv_aload_n C0.1 C0.2.1 dX8_goesLast_5 rfl (lv_at hl 0 rfl) ?_
  refine M_g_sizes C0 hE fk_X8_16 dX8_goesLast_6 ?_
  refine lv_bipush (v := I 7) C0.1 C0.2.1 dX8_goesLast_9 (by decide +kernel) ?_
  obtain ⟨v3, e_v3, i_v3, h⟩ := rd_s hR h
  refine M_sizes_l C0 hE lit_7 e_v3 dX8_goesLast_11 ?_
  refine lv_iconst (v := I 1) C0.1 C0.2.1 dX8_goesLast_12 rfl ?_
  obtain ⟨v4, e_v4, i_v4, h⟩ := osub_s h
  refine x_sub C0 e_v4 dX8_goesLast_13 ?_
  refine lv_iconst (v := I 0) C0.1 C0.2.1 dX8_goesLast_14 rfl ?_
  obtain ⟨v5, s6, h_v5, h⟩ := bnd_s h
  refine callV_v (rest := []) C0 hml hE (M_rec C0 hE) (c_M_marks l D g hR i_v4 lit_0 h_v5) kw_X8_198 ⟨Nat.le_of_ble_eq_true rfl, Nat.le_of_ble_eq_true rfl⟩ rfl hl.1 rfl (Nat.le_of_ble_eq_true rfl) dX8_goesLast_15 ⟨Nat.zero_le _, Nat.zero_le _⟩ (fun H locs hE hR => ?_)
  refine lv_aload_n C0.1 C0.2.1 dX8_goesLast_18 rfl (lv_at hl 0 rfl) ?_
  refine M_g_sizes C0 hE fk_X8_16 dX8_goesLast_19 ?_
  refine lv_bipush (v := I 7) C0.1 C0.2.1 dX8_goesLast_22 (by decide +kernel) ?_
  refine lv_dup2_11 C0.1 C0.2.1 dX8_goesLast_24 rfl rfl ?_
  obtain ⟨v7, e_v7, i_v7, h⟩ := rd_s hR h
  refine M_sizes_l C0 hE lit_7 e_v7 dX8_goesLast_25 ?_
  refine lv_iconst (v := I 1) C0.1 C0.2.1 dX8_goesLast_26 rfl ?_
  obtain ⟨v8, e_v8, i_v8, h⟩ := osub_s h
  refine x_sub C0 e_v8 dX8_goesLast_27 ?_
  obtain ⟨s9, e_s9, hR, h⟩ := wr_s hR i_v8 h
  refine M_sizes_st C0 hE lit_7 e_s9 dX8_goesLast_28 (fun H locs hE => ?_)
  refine lv_aload_n C0.1 C0.2.1 dX8_goesLast_29 rfl (lv_at hl 0 rfl) ?_
  obtain ⟨v10, s11, h_v10, h⟩ := bnd_s h
  refine callV_v (rest := []) C0 hml hE (M_rec C0 hE) (c_M_renews l D g hR h_v10) kw_X8_202 ⟨Nat.le_of_ble_eq_true rfl, Nat.le_of_ble_eq_true rfl⟩ rfl hl.1 rfl (Nat.le_of_ble_eq_true rfl) dX8_goesLast_30 ⟨Nat.zero_le _, Nat.zero_le _⟩ (fun H locs hE hR => ?_)
  exact ret_v (wf := wM g) C0 hr hlk hE h hR dX8_goesLast_33
set_option maxRecDepth 100000 in
set_option maxHeartbeats 4000000 in
theorem c_M_last (l : Launch) (D : va_G) (g : Ad) {σ σr : St} {p1 p2 r : Int} (hR : R32 σ) (i_p1 : in32 p1) (i_p2 : in32 p2) (h : M_last σ p1 p2 = some (r, σr)) : CtI l D g yX8_last cX8_last 3 (some .int) 4 (wM g σ) (wM g σr) [.ref (g.2 100), .int (I p1), .int (I p2)] r (in32 r ∧ R32 σr) := by
  intro sz
  refine met_of (by decide) (Nat.le_of_ble_eq_true rfl) (fun p e s m args below meth c ls H locs C0 hml hr hlk hE hl => ?_)
  have C0 : CX p c cX8_last m s args D g RX8 := C0
  have hl : lv_has ls 3 [(0, .ref (g.2 100)), (1, .int (I p1)), (2, .int (I p2))] := hl
  unfold M_last at h
  refine lv_aload_n C0.1 C0.2.1 dX8_last_0 rfl (lv_at hl 0 rfl) ?_
  refine lv_iconst (v := I 0) C0.1 C0.2.1 dX8_last_1 rfl ?_
  obtain ⟨s1, e_s1, hR, h⟩ := pf_s hR lit_0 h
  refine M_p_thrown C0 hE e_s1 fk_X8_55 dX8_last_2 (fun H locs hE => ?_)
  refine lv_iload_n C0.1 C0.2.1 dX8_last_5 rfl (lv_at hl 1 rfl) ?_
  obtain ⟨v2, h_v2, h⟩ := bndp_s h
  refine callS_i (rest := []) C0 hml hE (c_M_isPlace l D g (σ := s1) i_p1 h_v2) kw_X8_134 ⟨Nat.le_of_ble_eq_true rfl, Nat.le_of_ble_eq_true rfl⟩ rfl hl.1 rfl (Nat.le_of_ble_eq_true rfl) dX8_last_6 ⟨Nat.zero_le _, Nat.zero_le _⟩ (fun H locs hE i_v2 => ?_)
  refine x_if_eq C0 i_v2 dX8_last_9 (tgt := 19) (by decide) (fun c9 => ?_) (fun c9 => ?_)
  · have h := ite_t c9 h
    refine lv_iconst (v := I (-1)) C0.1 C0.2.1 dX8_last_19 rfl ?_
    exact ret_i (wf := wM g) C0 hr hlk hE h lit_m1 hR dX8_last_20
  · have h := ite_f c9 h
    refine lv_iload_n C0.1 C0.2.1 dX8_last_12 rfl (lv_at hl 2 rfl) ?_
    obtain ⟨v3, h_v3, h⟩ := bndp_s h
    refine callS_i (rest := []) C0 hml hE (c_M_isPlace l D g (σ := s1) i_p2 h_v3) kw_X8_134 ⟨Nat.le_of_ble_eq_true rfl, Nat.le_of_ble_eq_true rfl⟩ rfl hl.1 rfl (Nat.le_of_ble_eq_true rfl) dX8_last_13 ⟨Nat.zero_le _, Nat.zero_le _⟩ (fun H locs hE i_v3 => ?_)
    refine x_if_ne C0 i_v3 dX8_last_16 (tgt := 21) (by decide) (fun c9 => ?_) (fun c9 => ?_)
    · have h := ite_f c9 h
      refine lv_aload_n C0.1 C0.2.1 dX8_last_21 rfl (lv_at hl 0 rfl) ?_
      refine M_g_sizes C0 hE fk_X8_16 dX8_last_22 ?_
      refine lv_iload_n C0.1 C0.2.1 dX8_last_25 rfl (lv_at hl 1 rfl) ?_
      obtain ⟨v4, e_v4, i_v4, h⟩ := rd_s hR h
      refine M_sizes_l C0 hE i_p1 e_v4 dX8_last_26 ?_
      refine x_if_ne C0 i_v4 dX8_last_27 (tgt := 33) (by decide) (fun c9 => ?_) (fun c9 => ?_)
      · have h := ite_f c9 h
        refine lv_aload_n C0.1 C0.2.1 dX8_last_33 rfl (lv_at hl 0 rfl) ?_
        refine lv_iconst (v := I 0) C0.1 C0.2.1 dX8_last_34 rfl ?_
        obtain ⟨s5, e_s5, hR, h⟩ := pf_s hR lit_0 h
        refine M_p_rowMany C0 hE e_s5 fk_X8_59 dX8_last_35 (fun H locs hE => ?_)
        refine lv_aload_n C0.1 C0.2.1 dX8_last_38 rfl (lv_at hl 0 rfl) ?_
        refine lv_aload_n C0.1 C0.2.1 dX8_last_39 rfl (lv_at hl 0 rfl) ?_
        refine lv_iload_n C0.1 C0.2.1 dX8_last_40 rfl (lv_at hl 1 rfl) ?_
        refine lv_aload_n C0.1 C0.2.1 dX8_last_41 rfl (lv_at hl 0 rfl) ?_
        refine M_g_sizes C0 hE fk_X8_16 dX8_last_42 ?_
        refine lv_iload_n C0.1 C0.2.1 dX8_last_45 rfl (lv_at hl 1 rfl) ?_
        obtain ⟨v6, e_v6, i_v6, h⟩ := rd_s hR h
        refine M_sizes_l C0 hE i_p1 e_v6 dX8_last_46 ?_
        refine lv_iconst (v := I 1) C0.1 C0.2.1 dX8_last_47 rfl ?_
        obtain ⟨v7, e_v7, i_v7, h⟩ := osub_s h
        refine x_sub C0 e_v7 dX8_last_48 ?_
        obtain ⟨v8, h_v8, h⟩ := bndp_s h
        refine callV_i (rest := [.ref (g.2 100)]) C0 hml hE (M_rec C0 hE) (c_M_number l D g hR i_p1 i_v7 h_v8) kw_X8_99 ⟨Nat.le_of_ble_eq_true rfl, Nat.le_of_ble_eq_true rfl⟩ rfl hl.1 rfl (Nat.le_of_ble_eq_true rfl) dX8_last_49 ⟨Nat.zero_le _, Nat.zero_le _⟩ (fun H locs hE i_v8 => ?_)
        refine x_i2l C0 i_v8 dX8_last_52 ?_
        obtain ⟨v9, s10, h_v9, h⟩ := bnd_s h
        refine callV_v (rest := []) C0 hml hE (M_rec C0 hE) (c_M_tell l D g hR (in64_of i_v8) h_v9) kw_X8_150 ⟨Nat.le_of_ble_eq_true rfl, Nat.le_of_ble_eq_true rfl⟩ rfl hl.1 rfl (Nat.le_of_ble_eq_true rfl) dX8_last_53 ⟨Nat.zero_le _, Nat.zero_le _⟩ (fun H locs hE hR => ?_)
        refine lv_aload_n C0.1 C0.2.1 dX8_last_56 rfl (lv_at hl 0 rfl) ?_
        refine lv_iload_n C0.1 C0.2.1 dX8_last_57 rfl (lv_at hl 1 rfl) ?_
        obtain ⟨v11, s12, h_v11, h⟩ := bnd_s h
        refine callV_v (rest := []) C0 hml hE (M_rec C0 hE) (c_M_asks l D g hR i_p1 h_v11) kw_X8_176 ⟨Nat.le_of_ble_eq_true rfl, Nat.le_of_ble_eq_true rfl⟩ rfl hl.1 rfl (Nat.le_of_ble_eq_true rfl) dX8_last_58 ⟨Nat.zero_le _, Nat.zero_le _⟩ (fun H locs hE hR => ?_)
        refine lv_aload_n C0.1 C0.2.1 dX8_last_61 rfl (lv_at hl 0 rfl) ?_
        obtain ⟨v13, s14, h_v13, h⟩ := bnd_s h
        refine callV_v (rest := []) C0 hml hE (M_rec C0 hE) (c_M_begins l D g hR h_v13) kw_X8_166 ⟨Nat.le_of_ble_eq_true rfl, Nat.le_of_ble_eq_true rfl⟩ rfl hl.1 rfl (Nat.le_of_ble_eq_true rfl) dX8_last_62 ⟨Nat.zero_le _, Nat.zero_le _⟩ (fun H locs hE hR => ?_)
        refine lv_aload_n C0.1 C0.2.1 dX8_last_65 rfl (lv_at hl 0 rfl) ?_
        obtain ⟨v15, s16, h_v15, h⟩ := bnd_s h
        refine callV_v (rest := []) C0 hml hE (M_rec C0 hE) (c_M_goesLast l D g hR h_v15) kw_X8_222 ⟨Nat.le_of_ble_eq_true rfl, Nat.le_of_ble_eq_true rfl⟩ rfl hl.1 rfl (Nat.le_of_ble_eq_true rfl) dX8_last_66 ⟨Nat.zero_le _, Nat.zero_le _⟩ (fun H locs hE hR => ?_)
        refine lv_aload_n C0.1 C0.2.1 dX8_last_69 rfl (lv_at hl 0 rfl) ?_
        refine lv_iload_n C0.1 C0.2.1 dX8_last_70 rfl (lv_at hl 2 rfl) ?_
        obtain ⟨v17, s18, h_v17, h⟩ := bnd_s h
        refine callV_i (rest := []) C0 hml hE (M_rec C0 hE) (c_M_ends l D g hR i_p2 h_v17) kw_X8_205 ⟨Nat.le_of_ble_eq_true rfl, Nat.le_of_ble_eq_true rfl⟩ rfl hl.1 rfl (Nat.le_of_ble_eq_true rfl) dX8_last_71 ⟨Nat.zero_le _, Nat.zero_le _⟩ (fun H locs hE ⟨i_v17, hR⟩ => ?_)
        exact ret_i (wf := wM g) C0 hr hlk hE h i_v17 hR dX8_last_74
      · have h := ite_t c9 h
        refine lv_bipush (v := I (-2)) C0.1 C0.2.1 dX8_last_30 (by decide +kernel) ?_
        exact ret_i (wf := wM g) C0 hr hlk hE h lit_m2 hR dX8_last_32
    · have h := ite_t c9 h
      refine lv_iconst (v := I (-1)) C0.1 C0.2.1 dX8_last_19 rfl ?_
      exact ret_i (wf := wM g) C0 hr hlk hE h lit_m1 hR dX8_last_20
set_option maxRecDepth 100000 in
set_option maxHeartbeats 4000000 in
theorem c_M_isSpan (l : Launch) (D : va_G) (g : Ad) {σ : St} {p1 p2 p3 r : Int} (hR : R32 σ) (i_p1 : in32 p1) (i_p2 : in32 p2) (i_p3 : in32 p3) (h : M_isSpan σ p1 p2 p3 = some r) : CtI l D g yX8_isSpan cX8_isSpan 4 (some .boolean) 1 (wM g σ) (wM g σ) [.ref (g.2 100), .int (I p1), .int (I p2), .int (I p3)] r (in32 r) := by
  intro sz
  refine met_of (by decide) (Nat.le_of_ble_eq_true rfl) (fun p e s m args below meth c ls H locs C0 hml hr hlk hE hl => ?_)
  have C0 : CX p c cX8_isSpan m s args D g RX8 := C0
  have hl : lv_has ls 4 [(0, .ref (g.2 100)), (1, .int (I p1)), (2, .int (I p2)), (3, .int (I p3))] := hl
  unfold M_isSpan at h
  refine lv_iload_n C0.1 C0.2.1 dX8_isSpan_0 rfl (lv_at hl 2 rfl) ?_
  refine x_if_lt C0 i_p2 dX8_isSpan_1 (tgt := 23) (by decide) (fun c9 => ?_) (fun c9 => ?_)
  · have h := ite_t c9 h
    refine lv_iconst (v := I 0) C0.1 C0.2.1 dX8_isSpan_23 rfl ?_
    exact pret_z C0 hr hlk hE (Or.inl rfl) h dX8_isSpan_24
  · have h := ite_f c9 h
    refine lv_iload_n C0.1 C0.2.1 dX8_isSpan_4 rfl (lv_at hl 2 rfl) ?_
    refine lv_iload_n C0.1 C0.2.1 dX8_isSpan_5 rfl (lv_at hl 3 rfl) ?_
    refine x_icmp_gt C0 i_p2 i_p3 dX8_isSpan_6 (tgt := 23) (by decide) (fun c9 => ?_) (fun c9 => ?_)
    · have h := ite_t c9 h
      refine lv_iconst (v := I 0) C0.1 C0.2.1 dX8_isSpan_23 rfl ?_
      exact pret_z C0 hr hlk hE (Or.inl rfl) h dX8_isSpan_24
    · have h := ite_f c9 h
      refine lv_iload_n C0.1 C0.2.1 dX8_isSpan_9 rfl (lv_at hl 3 rfl) ?_
      refine lv_aload_n C0.1 C0.2.1 dX8_isSpan_10 rfl (lv_at hl 0 rfl) ?_
      refine M_g_sizes C0 hE fk_X8_16 dX8_isSpan_11 ?_
      refine lv_iload_n C0.1 C0.2.1 dX8_isSpan_14 rfl (lv_at hl 1 rfl) ?_
      obtain ⟨v1, e_v1, i_v1, h⟩ := rd_s hR h
      refine M_sizes_l C0 hE i_p1 e_v1 dX8_isSpan_15 ?_
      refine x_icmp_gt C0 i_p3 i_v1 dX8_isSpan_16 (tgt := 23) (by decide) (fun c9 => ?_) (fun c9 => ?_)
      · have h := ite_t c9 h
        refine lv_iconst (v := I 0) C0.1 C0.2.1 dX8_isSpan_23 rfl ?_
        exact pret_z C0 hr hlk hE (Or.inl rfl) h dX8_isSpan_24
      · have h := ite_f c9 h
        refine lv_iconst (v := I 1) C0.1 C0.2.1 dX8_isSpan_19 rfl ?_
        refine x_goto C0 dX8_isSpan_20 (tgt := 24) (by decide) ?_
        exact pret_z C0 hr hlk hE (Or.inr rfl) h dX8_isSpan_24
set_option maxRecDepth 100000 in
set_option maxHeartbeats 4000000 in
theorem c_M_adds (l : Launch) (D : va_G) (g : Ad) {σ σr : St} {p1 p2 p3 p4 p5 r : Int} (hR : R32 σ) (i_p1 : in32 p1) (i_p2 : in32 p2) (i_p3 : in32 p3) (i_p4 : in32 p4) (i_p5 : in32 p5) (h : M_adds σ p1 p2 p3 p4 p5 = some (r, σr)) : CtI l D g yX8_adds cX8_adds 7 (some .int) 4 (wM g σ) (wM g σr) [.ref (g.2 100), .int (I p1), .int (I p2), .int (I p3), .int (I p4), .int (I p5)] r (in32 r ∧ R32 σr) := by
  intro sz
  refine met_of (by decide) (Nat.le_of_ble_eq_true rfl) (fun p e s m args below meth c ls H locs C0 hml hr hlk hE hl => ?_)
  have C0 : CX p c cX8_adds m s args D g RX8 := C0
  have hl : lv_has ls 7 [(0, .ref (g.2 100)), (1, .int (I p1)), (2, .int (I p2)), (3, .int (I p3)), (4, .int (I p4)), (5, .int (I p5))] := hl
  unfold M_adds at h
  refine lv_aload_n C0.1 C0.2.1 dX8_adds_0 rfl (lv_at hl 0 rfl) ?_
  refine lv_iconst (v := I 0) C0.1 C0.2.1 dX8_adds_1 rfl ?_
  obtain ⟨s1, e_s1, hR, h⟩ := pf_s hR lit_0 h
  refine M_p_thrown C0 hE e_s1 fk_X8_55 dX8_adds_2 (fun H locs hE => ?_)
  refine lv_iload_n C0.1 C0.2.1 dX8_adds_5 rfl (lv_at hl 1 rfl) ?_
  obtain ⟨v2, h_v2, h⟩ := bndp_s h
  refine callS_i (rest := []) C0 hml hE (c_M_isPlace l D g (σ := s1) i_p1 h_v2) kw_X8_134 ⟨Nat.le_of_ble_eq_true rfl, Nat.le_of_ble_eq_true rfl⟩ rfl hl.1 rfl (Nat.le_of_ble_eq_true rfl) dX8_adds_6 ⟨Nat.zero_le _, Nat.zero_le _⟩ (fun H locs hE i_v2 => ?_)
  refine x_if_eq C0 i_v2 dX8_adds_9 (tgt := 38) (by decide) (fun c9 => ?_) (fun c9 => ?_)
  · have h := ite_t c9 h
    refine lv_iconst (v := I (-1)) C0.1 C0.2.1 dX8_adds_38 rfl ?_
    exact ret_i (wf := wM g) C0 hr hlk hE h lit_m1 hR dX8_adds_39
  · have h := ite_f c9 h
    refine lv_aload_n C0.1 C0.2.1 dX8_adds_12 rfl (lv_at hl 0 rfl) ?_
    refine lv_iload_n C0.1 C0.2.1 dX8_adds_13 rfl (lv_at hl 1 rfl) ?_
    refine lv_iload_n C0.1 C0.2.1 dX8_adds_14 rfl (lv_at hl 2 rfl) ?_
    refine lv_iload_n C0.1 C0.2.1 dX8_adds_15 rfl (lv_at hl 3 rfl) ?_
    obtain ⟨v3, h_v3, h⟩ := bndp_s h
    refine callV_i (rest := []) C0 hml hE (M_rec C0 hE) (c_M_isSpan l D g hR i_p1 i_p2 i_p3 h_v3) kw_X8_225 ⟨Nat.le_of_ble_eq_true rfl, Nat.le_of_ble_eq_true rfl⟩ rfl hl.1 rfl (Nat.le_of_ble_eq_true rfl) dX8_adds_16 ⟨Nat.zero_le _, Nat.zero_le _⟩ (fun H locs hE i_v3 => ?_)
    refine x_if_eq C0 i_v3 dX8_adds_19 (tgt := 38) (by decide) (fun c9 => ?_) (fun c9 => ?_)
    · have h := ite_t c9 h
      refine lv_iconst (v := I (-1)) C0.1 C0.2.1 dX8_adds_38 rfl ?_
      exact ret_i (wf := wM g) C0 hr hlk hE h lit_m1 hR dX8_adds_39
    · have h := ite_f c9 h
      refine lv_iload C0.1 C0.2.1 dX8_adds_22 (lv_at hl 4 rfl) ?_
      obtain ⟨v4, h_v4, h⟩ := bndp_s h
      refine callS_i (rest := []) C0 hml hE (c_M_isNumber l D g (σ := s1) i_p4 h_v4) kw_X8_163 ⟨Nat.le_of_ble_eq_true rfl, Nat.le_of_ble_eq_true rfl⟩ rfl hl.1 rfl (Nat.le_of_ble_eq_true rfl) dX8_adds_24 ⟨Nat.zero_le _, Nat.zero_le _⟩ (fun H locs hE i_v4 => ?_)
      refine x_if_eq C0 i_v4 dX8_adds_27 (tgt := 38) (by decide) (fun c9 => ?_) (fun c9 => ?_)
      · have h := ite_t c9 h
        refine lv_iconst (v := I (-1)) C0.1 C0.2.1 dX8_adds_38 rfl ?_
        exact ret_i (wf := wM g) C0 hr hlk hE h lit_m1 hR dX8_adds_39
      · have h := ite_f c9 h
        refine lv_iload C0.1 C0.2.1 dX8_adds_30 (lv_at hl 5 rfl) ?_
        obtain ⟨v5, h_v5, h⟩ := bndp_s h
        refine callS_i (rest := []) C0 hml hE (c_M_isPlace l D g (σ := s1) i_p5 h_v5) kw_X8_134 ⟨Nat.le_of_ble_eq_true rfl, Nat.le_of_ble_eq_true rfl⟩ rfl hl.1 rfl (Nat.le_of_ble_eq_true rfl) dX8_adds_32 ⟨Nat.zero_le _, Nat.zero_le _⟩ (fun H locs hE i_v5 => ?_)
        refine x_if_ne C0 i_v5 dX8_adds_35 (tgt := 40) (by decide) (fun c9 => ?_) (fun c9 => ?_)
        · have h := ite_f c9 h
          refine lv_aload_n C0.1 C0.2.1 dX8_adds_40 rfl (lv_at hl 0 rfl) ?_
          refine lv_iload_n C0.1 C0.2.1 dX8_adds_41 rfl (lv_at hl 1 rfl) ?_
          obtain ⟨v6, s7, h_v6, h⟩ := bnd_s h
          refine callV_v (rest := []) C0 hml hE (M_rec C0 hE) (c_M_asks l D g hR i_p1 h_v6) kw_X8_176 ⟨Nat.le_of_ble_eq_true rfl, Nat.le_of_ble_eq_true rfl⟩ rfl hl.1 rfl (Nat.le_of_ble_eq_true rfl) dX8_adds_42 ⟨Nat.zero_le _, Nat.zero_le _⟩ (fun H locs hE hR => ?_)
          refine lv_aload_n C0.1 C0.2.1 dX8_adds_45 rfl (lv_at hl 0 rfl) ?_
          obtain ⟨v8, s9, h_v8, h⟩ := bnd_s h
          refine callV_v (rest := []) C0 hml hE (M_rec C0 hE) (c_M_begins l D g hR h_v8) kw_X8_166 ⟨Nat.le_of_ble_eq_true rfl, Nat.le_of_ble_eq_true rfl⟩ rfl hl.1 rfl (Nat.le_of_ble_eq_true rfl) dX8_adds_46 ⟨Nat.zero_le _, Nat.zero_le _⟩ (fun H locs hE hR => ?_)
          refine lv_aload_n C0.1 C0.2.1 dX8_adds_49 rfl (lv_at hl 0 rfl) ?_
          obtain ⟨v10, s11, h_v10, h⟩ := bnd_s h
          refine callV_v (rest := []) C0 hml hE (M_rec C0 hE) (c_M_clearsNew l D g hR h_v10) kw_X8_195 ⟨Nat.le_of_ble_eq_true rfl, Nat.le_of_ble_eq_true rfl⟩ rfl hl.1 rfl (Nat.le_of_ble_eq_true rfl) dX8_adds_50 ⟨Nat.zero_le _, Nat.zero_le _⟩ (fun H locs hE hR => ?_)
          refine lv_iload_n C0.1 C0.2.1 dX8_adds_53 rfl (lv_at hl 2 rfl) ?_
          refine lv_istore (lv' := [(6, .int (I p2)), (0, .ref (g.2 100)), (1, .int (I p1)), (2, .int (I p2)), (3, .int (I p3)), (4, .int (I p4)), (5, .int (I p5))]) C0.1 C0.2.1 dX8_adds_54 hl (by decide) rfl (fun ls hl => ?_)
          obtain ⟨k13, e_k13, h⟩ := jn_s h
          have h_k13 : ∀ (s12 : St) (hR : R32 s12) (H : Heap) (locs : List Loc) (ls : Array Slot), EW D (va_A (wM g σ) sz) s.heap (wM g s12) H locs → lv_has ls 7 [(0, .ref (g.2 100)), (5, .int (I p5))] → k13 s12 = some (r, σr) → W p l e (rmk 4) s m args below meth c H locs 0 0 (MQ below (QCi D (wM g σr) r (in32 r ∧ R32 σr) (va_A (wM g σ) sz)) args s 0 0 (va_A (wM g σ) sz)) (F0 m 114 ls []) := by
            intro s12 hR H locs ls hE hl h
            have h := (congrFun e_k13 s12).symm.trans h
            refine lv_aload_n C0.1 C0.2.1 dX8_adds_114 rfl (lv_at hl 0 rfl) ?_
            obtain ⟨v14, s15, h_v14, h⟩ := bnd_s h
            refine callV_v (rest := []) C0 hml hE (M_rec C0 hE) (c_M_renews l D g hR h_v14) kw_X8_202 ⟨Nat.le_of_ble_eq_true rfl, Nat.le_of_ble_eq_true rfl⟩ rfl hl.1 rfl (Nat.le_of_ble_eq_true rfl) dX8_adds_115 ⟨Nat.zero_le _, Nat.zero_le _⟩ (fun H locs hE hR => ?_)
            refine lv_aload_n C0.1 C0.2.1 dX8_adds_118 rfl (lv_at hl 0 rfl) ?_
            refine lv_iload C0.1 C0.2.1 dX8_adds_119 (lv_at hl 1 rfl) ?_
            obtain ⟨v16, s17, h_v16, h⟩ := bnd_s h
            refine callV_i (rest := []) C0 hml hE (M_rec C0 hE) (c_M_ends l D g hR i_p5 h_v16) kw_X8_205 ⟨Nat.le_of_ble_eq_true rfl, Nat.le_of_ble_eq_true rfl⟩ rfl hl.1 rfl (Nat.le_of_ble_eq_true rfl) dX8_adds_121 ⟨Nat.zero_le _, Nat.zero_le _⟩ (fun H locs hE ⟨i_v16, hR⟩ => ?_)
            exact ret_i (wf := wM g) C0 hr hlk hE h i_v16 hR dX8_adds_124
          have hL56 : ∀ (n : Nat) (s19 : St) (hR : R32 s19) (x18 : Int) (i_x18 : in32 x18) (H : Heap) (locs : List Loc) (ls : Array Slot), EW D (va_A (wM g σ) sz) s.heap (wM g s19) H locs → lv_has ls 7 [(0, .ref (g.2 100)), (3, .int (I p3)), (4, .int (I p4)), (5, .int (I p5)), (6, .int (I x18))] → M_adds_L56 k13 p3 p4 n s19 x18 = some (r, σr) → W p l e (rmk 4) s m args below meth c H locs 0 0 (MQ below (QCi D (wM g σr) r (in32 r ∧ R32 σr) (va_A (wM g σ) sz)) args s 0 0 (va_A (wM g σ) sz)) (F0 m 56 ls []) := by
            intro n
            induction n with
            | zero => intros; rename_i h; cases h
            | succ n ih20 =>
              intro s19 hR x18 i_x18 H locs ls hE hl h
              unfold M_adds_L56 at h
              refine lv_iload C0.1 C0.2.1 dX8_adds_56 (lv_at hl 4 rfl) ?_
              refine lv_iload_n C0.1 C0.2.1 dX8_adds_58 rfl (lv_at hl 1 rfl) ?_
              refine x_icmp_ge C0 i_x18 i_p3 dX8_adds_59 (tgt := 114) (by decide) (fun c9 => ?_) (fun c9 => ?_)
              · have h := ite_f c9 h
                exact h_k13 s19 hR _ _ _ hE (lv_sub hl [0, 3] rfl) h
              · have h := ite_t c9 h
                refine lv_iload C0.1 C0.2.1 dX8_adds_62 (lv_at hl 2 rfl) ?_
                refine x_if_eq C0 i_p4 dX8_adds_64 (tgt := 114) (by decide) (fun c9 => ?_) (fun c9 => ?_)
                · have h := ite_t c9 h
                  exact h_k13 s19 hR _ _ _ hE (lv_sub hl [0, 3] rfl) h
                · have h := ite_f c9 h
                  refine lv_aload_n C0.1 C0.2.1 dX8_adds_67 rfl (lv_at hl 0 rfl) ?_
                  refine lv_iload C0.1 C0.2.1 dX8_adds_68 (lv_at hl 4 rfl) ?_
                  refine lv_iconst (v := I 1) C0.1 C0.2.1 dX8_adds_70 rfl ?_
                  obtain ⟨v21, s22, h_v21, h⟩ := bnd_s h
                  refine callV_v (rest := []) C0 hml hE (M_rec C0 hE) (c_M_marks l D g hR i_x18 lit_1 h_v21) kw_X8_198 ⟨Nat.le_of_ble_eq_true rfl, Nat.le_of_ble_eq_true rfl⟩ rfl hl.1 rfl (Nat.le_of_ble_eq_true rfl) dX8_adds_71 ⟨Nat.zero_le _, Nat.zero_le _⟩ (fun H locs hE hR => ?_)
                  refine lv_aload_n C0.1 C0.2.1 dX8_adds_74 rfl (lv_at hl 0 rfl) ?_
                  refine M_g_numbers C0 hE fk_X8_7 dX8_adds_75 ?_
                  refine lv_sipush (v := I 1792) C0.1 C0.2.1 dX8_adds_78 (by decide +kernel) ?_
                  refine lv_iload C0.1 C0.2.1 dX8_adds_81 (lv_at hl 4 rfl) ?_
                  obtain ⟨v23, e_v23, i_v23, h⟩ := oadd_s h
                  refine x_add C0 e_v23 dX8_adds_83 ?_
                  refine lv_sipush (v := I (-999)) C0.1 C0.2.1 dX8_adds_84 (by decide +kernel) ?_
                  refine lv_sipush (v := I 999) C0.1 C0.2.1 dX8_adds_87 (by decide +kernel) ?_
                  refine lv_aload_n C0.1 C0.2.1 dX8_adds_90 rfl (lv_at hl 0 rfl) ?_
                  refine lv_bipush (v := I 7) C0.1 C0.2.1 dX8_adds_91 (by decide +kernel) ?_
                  refine lv_iload C0.1 C0.2.1 dX8_adds_93 (lv_at hl 4 rfl) ?_
                  obtain ⟨v24, h_v24, h⟩ := bndp_s h
                  refine callV_i (rest := [.int (I 999), .int (I (-999)), .int (I v23), .ref (g.2 101)]) C0 hml hE (M_rec C0 hE) (c_M_number l D g hR lit_7 i_x18 h_v24) kw_X8_99 ⟨Nat.le_of_ble_eq_true rfl, Nat.le_of_ble_eq_true rfl⟩ rfl hl.1 rfl (Nat.le_of_ble_eq_true rfl) dX8_adds_95 ⟨Nat.zero_le _, Nat.zero_le _⟩ (fun H locs hE i_v24 => ?_)
                  refine lv_iload C0.1 C0.2.1 dX8_adds_98 (lv_at hl 2 rfl) ?_
                  obtain ⟨v25, e_v25, i_v25, h⟩ := oadd_s h
                  refine x_add C0 e_v25 dX8_adds_100 ?_
                  obtain ⟨v26, e_v26, i_v26, h⟩ := opure_s h (imin_in lit_999 i_v25)
                  refine x_min C0 kw_X8_229 (hml.trans hl.1.symm) lit_999 i_v25 e_v26 ⟨Nat.le_of_ble_eq_true rfl, Nat.le_of_ble_eq_true rfl⟩ ⟨Nat.zero_le _, Nat.zero_le _⟩ dX8_adds_101 ?_
                  obtain ⟨v27, e_v27, i_v27, h⟩ := opure_s h (imax_in lit_m999 i_v26)
                  refine x_max C0 kw_X8_234 (hml.trans hl.1.symm) lit_m999 i_v26 e_v27 ⟨Nat.le_of_ble_eq_true rfl, Nat.le_of_ble_eq_true rfl⟩ ⟨Nat.zero_le _, Nat.zero_le _⟩ dX8_adds_104 ?_
                  obtain ⟨s28, e_s28, hR, h⟩ := wr_s hR i_v27 h
                  refine M_numbers_st C0 hE i_v23 e_s28 dX8_adds_107 (fun H locs hE => ?_)
                  obtain ⟨v29, e_v29, i_v29, h⟩ := oadd_s h
                  refine x_iinc (lv' := [(6, .int (I v29)), (0, .ref (g.2 100)), (3, .int (I p3)), (4, .int (I p4)), (5, .int (I p5))]) C0 dX8_adds_108 hl (k := 4) rfl e_v29 (by decide) rfl (fun ls hl => ?_)
                  refine x_goto C0 dX8_adds_111 (tgt := 56) (by decide) ?_
                  exact ih20 s28 hR v29 i_v29 _ _ _ hE (lv_sub hl [1, 2, 3, 4, 0] rfl) h
          exact hL56 FU s11 hR p2 i_p2 _ _ _ hE (lv_sub hl [1, 4, 5, 6, 0] rfl) h
        · have h := ite_t c9 h
          refine lv_iconst (v := I (-1)) C0.1 C0.2.1 dX8_adds_38 rfl ?_
          exact ret_i (wf := wM g) C0 hr hlk hE h lit_m1 hR dX8_adds_39
set_option maxRecDepth 100000 in
set_option maxHeartbeats 4000000 in
theorem c_M_appends (l : Launch) (D : va_G) (g : Ad) {σ σr : St} {p1 p2 p3 r : Int} (hR : R32 σ) (i_p1 : in32 p1) (i_p2 : in32 p2) (i_p3 : in32 p3) (h : M_appends σ p1 p2 p3 = some (r, σr)) : CtI l D g yX8_appends cX8_appends 5 (some .int) 4 (wM g σ) (wM g σr) [.ref (g.2 100), .int (I p1), .int (I p2), .int (I p3)] r (in32 r ∧ R32 σr) := by
  intro sz
  refine met_of (by decide) (Nat.le_of_ble_eq_true rfl) (fun p e s m args below meth c ls H locs C0 hml hr hlk hE hl => ?_)
  have C0 : CX p c cX8_appends m s args D g RX8 := C0
  have hl : lv_has ls 5 [(0, .ref (g.2 100)), (1, .int (I p1)), (2, .int (I p2)), (3, .int (I p3))] := hl
  unfold M_appends at h
  refine lv_aload_n C0.1 C0.2.1 dX8_appends_0 rfl (lv_at hl 0 rfl) ?_
  refine lv_iconst (v := I 0) C0.1 C0.2.1 dX8_appends_1 rfl ?_
  obtain ⟨s1, e_s1, hR, h⟩ := pf_s hR lit_0 h
  refine M_p_thrown C0 hE e_s1 fk_X8_55 dX8_appends_2 (fun H locs hE => ?_)
  refine lv_iload_n C0.1 C0.2.1 dX8_appends_5 rfl (lv_at hl 1 rfl) ?_
  obtain ⟨v2, h_v2, h⟩ := bndp_s h
  refine callS_i (rest := []) C0 hml hE (c_M_isPlace l D g (σ := s1) i_p1 h_v2) kw_X8_134 ⟨Nat.le_of_ble_eq_true rfl, Nat.le_of_ble_eq_true rfl⟩ rfl hl.1 rfl (Nat.le_of_ble_eq_true rfl) dX8_appends_6 ⟨Nat.zero_le _, Nat.zero_le _⟩ (fun H locs hE i_v2 => ?_)
  refine x_if_eq C0 i_v2 dX8_appends_9 (tgt := 26) (by decide) (fun c9 => ?_) (fun c9 => ?_)
  · have h := ite_t c9 h
    refine lv_iconst (v := I (-1)) C0.1 C0.2.1 dX8_appends_26 rfl ?_
    exact ret_i (wf := wM g) C0 hr hlk hE h lit_m1 hR dX8_appends_27
  · have h := ite_f c9 h
    refine lv_iload_n C0.1 C0.2.1 dX8_appends_12 rfl (lv_at hl 2 rfl) ?_
    obtain ⟨v3, h_v3, h⟩ := bndp_s h
    refine callS_i (rest := []) C0 hml hE (c_M_isPlace l D g (σ := s1) i_p2 h_v3) kw_X8_134 ⟨Nat.le_of_ble_eq_true rfl, Nat.le_of_ble_eq_true rfl⟩ rfl hl.1 rfl (Nat.le_of_ble_eq_true rfl) dX8_appends_13 ⟨Nat.zero_le _, Nat.zero_le _⟩ (fun H locs hE i_v3 => ?_)
    refine x_if_eq C0 i_v3 dX8_appends_16 (tgt := 26) (by decide) (fun c9 => ?_) (fun c9 => ?_)
    · have h := ite_t c9 h
      refine lv_iconst (v := I (-1)) C0.1 C0.2.1 dX8_appends_26 rfl ?_
      exact ret_i (wf := wM g) C0 hr hlk hE h lit_m1 hR dX8_appends_27
    · have h := ite_f c9 h
      refine lv_iload_n C0.1 C0.2.1 dX8_appends_19 rfl (lv_at hl 3 rfl) ?_
      obtain ⟨v4, h_v4, h⟩ := bndp_s h
      refine callS_i (rest := []) C0 hml hE (c_M_isPlace l D g (σ := s1) i_p3 h_v4) kw_X8_134 ⟨Nat.le_of_ble_eq_true rfl, Nat.le_of_ble_eq_true rfl⟩ rfl hl.1 rfl (Nat.le_of_ble_eq_true rfl) dX8_appends_20 ⟨Nat.zero_le _, Nat.zero_le _⟩ (fun H locs hE i_v4 => ?_)
      refine x_if_ne C0 i_v4 dX8_appends_23 (tgt := 28) (by decide) (fun c9 => ?_) (fun c9 => ?_)
      · have h := ite_f c9 h
        refine lv_aload_n C0.1 C0.2.1 dX8_appends_28 rfl (lv_at hl 0 rfl) ?_
        refine M_g_sizes C0 hE fk_X8_16 dX8_appends_29 ?_
        refine lv_iload_n C0.1 C0.2.1 dX8_appends_32 rfl (lv_at hl 1 rfl) ?_
        obtain ⟨v5, e_v5, i_v5, h⟩ := rd_s hR h
        refine M_sizes_l C0 hE i_p1 e_v5 dX8_appends_33 ?_
        refine lv_aload_n C0.1 C0.2.1 dX8_appends_34 rfl (lv_at hl 0 rfl) ?_
        refine M_g_sizes C0 hE fk_X8_16 dX8_appends_35 ?_
        refine lv_iload_n C0.1 C0.2.1 dX8_appends_38 rfl (lv_at hl 2 rfl) ?_
        obtain ⟨v6, e_v6, i_v6, h⟩ := rd_s hR h
        refine M_sizes_l C0 hE i_p2 e_v6 dX8_appends_39 ?_
        obtain ⟨v7, e_v7, i_v7, h⟩ := oadd_s h
        refine x_add C0 e_v7 dX8_appends_40 ?_
        refine lv_sipush (v := I 255) C0.1 C0.2.1 dX8_appends_41 (by decide +kernel) ?_
        refine x_icmp_le C0 i_v7 lit_255 dX8_appends_44 (tgt := 50) (by decide) (fun c9 => ?_) (fun c9 => ?_)
        · have h := ite_f c9 h
          refine lv_aload_n C0.1 C0.2.1 dX8_appends_50 rfl (lv_at hl 0 rfl) ?_
          refine lv_iload_n C0.1 C0.2.1 dX8_appends_51 rfl (lv_at hl 1 rfl) ?_
          obtain ⟨v8, s9, h_v8, h⟩ := bnd_s h
          refine callV_v (rest := []) C0 hml hE (M_rec C0 hE) (c_M_asks l D g hR i_p1 h_v8) kw_X8_176 ⟨Nat.le_of_ble_eq_true rfl, Nat.le_of_ble_eq_true rfl⟩ rfl hl.1 rfl (Nat.le_of_ble_eq_true rfl) dX8_appends_52 ⟨Nat.zero_le _, Nat.zero_le _⟩ (fun H locs hE hR => ?_)
          refine lv_aload_n C0.1 C0.2.1 dX8_appends_55 rfl (lv_at hl 0 rfl) ?_
          refine lv_iload_n C0.1 C0.2.1 dX8_appends_56 rfl (lv_at hl 2 rfl) ?_
          refine lv_bipush (v := I 8) C0.1 C0.2.1 dX8_appends_57 (by decide +kernel) ?_
          obtain ⟨v10, s11, h_v10, h⟩ := bnd_s h
          refine callV_v (rest := []) C0 hml hE (M_rec C0 hE) (c_M_takes l D g hR i_p2 lit_8 h_v10) kw_X8_82 ⟨Nat.le_of_ble_eq_true rfl, Nat.le_of_ble_eq_true rfl⟩ rfl hl.1 rfl (Nat.le_of_ble_eq_true rfl) dX8_appends_59 ⟨Nat.zero_le _, Nat.zero_le _⟩ (fun H locs hE hR => ?_)
          refine lv_aload_n C0.1 C0.2.1 dX8_appends_62 rfl (lv_at hl 0 rfl) ?_
          obtain ⟨v12, s13, h_v12, h⟩ := bnd_s h
          refine callV_v (rest := []) C0 hml hE (M_rec C0 hE) (c_M_begins l D g hR h_v12) kw_X8_166 ⟨Nat.le_of_ble_eq_true rfl, Nat.le_of_ble_eq_true rfl⟩ rfl hl.1 rfl (Nat.le_of_ble_eq_true rfl) dX8_appends_63 ⟨Nat.zero_le _, Nat.zero_le _⟩ (fun H locs hE hR => ?_)
          refine lv_iconst (v := I 0) C0.1 C0.2.1 dX8_appends_66 rfl ?_
          refine lv_istore (lv' := [(4, .int (I 0)), (0, .ref (g.2 100)), (1, .int (I p1)), (2, .int (I p2)), (3, .int (I p3))]) C0.1 C0.2.1 dX8_appends_67 hl (by decide) rfl (fun ls hl => ?_)
          obtain ⟨k15, e_k15, h⟩ := jn_s h
          have h_k15 : ∀ (s14 : St) (hR : R32 s14) (H : Heap) (locs : List Loc) (ls : Array Slot), EW D (va_A (wM g σ) sz) s.heap (wM g s14) H locs → lv_has ls 5 [(0, .ref (g.2 100)), (3, .int (I p3))] → k15 s14 = some (r, σr) → W p l e (rmk 4) s m args below meth c H locs 0 0 (MQ below (QCi D (wM g σr) r (in32 r ∧ R32 σr) (va_A (wM g σ) sz)) args s 0 0 (va_A (wM g σ) sz)) (F0 m 99 ls []) := by
            intro s14 hR H locs ls hE hl h
            have h := (congrFun e_k15 s14).symm.trans h
            refine lv_aload_n C0.1 C0.2.1 dX8_appends_99 rfl (lv_at hl 0 rfl) ?_
            refine lv_iload_n C0.1 C0.2.1 dX8_appends_100 rfl (lv_at hl 1 rfl) ?_
            obtain ⟨v16, s17, h_v16, h⟩ := bnd_s h
            refine callV_i (rest := []) C0 hml hE (M_rec C0 hE) (c_M_ends l D g hR i_p3 h_v16) kw_X8_205 ⟨Nat.le_of_ble_eq_true rfl, Nat.le_of_ble_eq_true rfl⟩ rfl hl.1 rfl (Nat.le_of_ble_eq_true rfl) dX8_appends_101 ⟨Nat.zero_le _, Nat.zero_le _⟩ (fun H locs hE ⟨i_v16, hR⟩ => ?_)
            exact ret_i (wf := wM g) C0 hr hlk hE h i_v16 hR dX8_appends_104
          have hL69 : ∀ (n : Nat) (s19 : St) (hR : R32 s19) (x18 : Int) (i_x18 : in32 x18) (H : Heap) (locs : List Loc) (ls : Array Slot), EW D (va_A (wM g σ) sz) s.heap (wM g s19) H locs → lv_has ls 5 [(0, .ref (g.2 100)), (3, .int (I p3)), (4, .int (I x18))] → M_appends_L69 k15 n s19 x18 = some (r, σr) → W p l e (rmk 4) s m args below meth c H locs 0 0 (MQ below (QCi D (wM g σr) r (in32 r ∧ R32 σr) (va_A (wM g σ) sz)) args s 0 0 (va_A (wM g σ) sz)) (F0 m 69 ls []) := by
            intro n
            induction n with
            | zero => intros; rename_i h; cases h
            | succ n ih20 =>
              intro s19 hR x18 i_x18 H locs ls hE hl h
              unfold M_appends_L69 at h
              refine lv_iload C0.1 C0.2.1 dX8_appends_69 (lv_at hl 2 rfl) ?_
              refine lv_aload_n C0.1 C0.2.1 dX8_appends_71 rfl (lv_at hl 0 rfl) ?_
              refine M_g_sizes C0 hE fk_X8_16 dX8_appends_72 ?_
              refine lv_bipush (v := I 8) C0.1 C0.2.1 dX8_appends_75 (by decide +kernel) ?_
              obtain ⟨v21, e_v21, i_v21, h⟩ := rd_s hR h
              refine M_sizes_l C0 hE lit_8 e_v21 dX8_appends_77 ?_
              refine x_icmp_ge C0 i_x18 i_v21 dX8_appends_78 (tgt := 99) (by decide) (fun c9 => ?_) (fun c9 => ?_)
              · have h := ite_f c9 h
                exact h_k15 s19 hR _ _ _ hE (lv_sub hl [0, 1] rfl) h
              · have h := ite_t c9 h
                refine lv_aload_n C0.1 C0.2.1 dX8_appends_81 rfl (lv_at hl 0 rfl) ?_
                refine lv_aload_n C0.1 C0.2.1 dX8_appends_82 rfl (lv_at hl 0 rfl) ?_
                refine lv_bipush (v := I 8) C0.1 C0.2.1 dX8_appends_83 (by decide +kernel) ?_
                refine lv_iload C0.1 C0.2.1 dX8_appends_85 (lv_at hl 2 rfl) ?_
                obtain ⟨v22, h_v22, h⟩ := bndp_s h
                refine callV_i (rest := [.ref (g.2 100)]) C0 hml hE (M_rec C0 hE) (c_M_number l D g hR lit_8 i_x18 h_v22) kw_X8_99 ⟨Nat.le_of_ble_eq_true rfl, Nat.le_of_ble_eq_true rfl⟩ rfl hl.1 rfl (Nat.le_of_ble_eq_true rfl) dX8_appends_87 ⟨Nat.zero_le _, Nat.zero_le _⟩ (fun H locs hE i_v22 => ?_)
                obtain ⟨v23, s24, h_v23, h⟩ := bnd_s h
                refine callV_v (rest := []) C0 hml hE (M_rec C0 hE) (c_M_backs l D g hR i_v22 h_v23) kw_X8_212 ⟨Nat.le_of_ble_eq_true rfl, Nat.le_of_ble_eq_true rfl⟩ rfl hl.1 rfl (Nat.le_of_ble_eq_true rfl) dX8_appends_90 ⟨Nat.zero_le _, Nat.zero_le _⟩ (fun H locs hE hR => ?_)
                obtain ⟨v25, e_v25, i_v25, h⟩ := oadd_s h
                refine x_iinc (lv' := [(4, .int (I v25)), (0, .ref (g.2 100)), (3, .int (I p3))]) C0 dX8_appends_93 hl (k := 2) rfl e_v25 (by decide) rfl (fun ls hl => ?_)
                refine x_goto C0 dX8_appends_96 (tgt := 69) (by decide) ?_
                exact ih20 s24 hR v25 i_v25 _ _ _ hE (lv_sub hl [1, 2, 0] rfl) h
          exact hL69 FU s13 hR 0 lit_0 _ _ _ hE (lv_sub hl [1, 4, 0] rfl) h
        · have h := ite_t c9 h
          refine lv_bipush (v := I (-2)) C0.1 C0.2.1 dX8_appends_47 (by decide +kernel) ?_
          exact ret_i (wf := wM g) C0 hr hlk hE h lit_m2 hR dX8_appends_49
      · have h := ite_t c9 h
        refine lv_iconst (v := I (-1)) C0.1 C0.2.1 dX8_appends_26 rfl ?_
        exact ret_i (wf := wM g) C0 hr hlk hE h lit_m1 hR dX8_appends_27
set_option maxRecDepth 100000 in
set_option maxHeartbeats 4000000 in
theorem c_M_turned (l : Launch) (D : va_G) (g : Ad) {σ σr : St} {p1 p2 p3 r : Int} (hR : R32 σ) (i_p1 : in32 p1) (i_p2 : in32 p2) (i_p3 : in32 p3) (h : M_turned σ p1 p2 p3 = some (r, σr)) : CtI l D g yX8_turned cX8_turned 6 (some .int) 16 (wM g σ) (wM g σr) [.ref (g.2 100), .int (I p1), .int (I p2), .int (I p3)] r (in32 r ∧ R32 σr) := by
  intro sz
  refine met_of (by decide) (Nat.le_of_ble_eq_true rfl) (fun p e s m args below meth c ls H locs C0 hml hr hlk hE hl => ?_)
  have C0 : CX p c cX8_turned m s args D g RX8 := C0
  have hl : lv_has ls 6 [(0, .ref (g.2 100)), (1, .int (I p1)), (2, .int (I p2)), (3, .int (I p3))] := hl
  unfold M_turned at h
  refine lv_aload_n C0.1 C0.2.1 dX8_turned_0 rfl (lv_at hl 0 rfl) ?_
  refine lv_iconst (v := I 0) C0.1 C0.2.1 dX8_turned_1 rfl ?_
  obtain ⟨s1, e_s1, hR, h⟩ := pf_s hR lit_0 h
  refine M_p_thrown C0 hE e_s1 fk_X8_55 dX8_turned_2 (fun H locs hE => ?_)
  refine lv_iload_n C0.1 C0.2.1 dX8_turned_5 rfl (lv_at hl 1 rfl) ?_
  obtain ⟨v2, h_v2, h⟩ := bndp_s h
  refine callS_i (rest := []) C0 hml hE (c_M_isPlace l D g (σ := s1) i_p1 h_v2) kw_X8_134 ⟨Nat.le_of_ble_eq_true rfl, Nat.le_of_ble_eq_true rfl⟩ rfl hl.1 rfl (Nat.le_of_ble_eq_true rfl) dX8_turned_6 ⟨Nat.zero_le _, Nat.zero_le _⟩ (fun H locs hE i_v2 => ?_)
  refine x_if_eq C0 i_v2 dX8_turned_9 (tgt := 31) (by decide) (fun c9 => ?_) (fun c9 => ?_)
  · have h := ite_t c9 h
    refine lv_iconst (v := I (-1)) C0.1 C0.2.1 dX8_turned_31 rfl ?_
    exact ret_i (wf := wM g) C0 hr hlk hE h lit_m1 hR dX8_turned_32
  · have h := ite_f c9 h
    refine lv_iload_n C0.1 C0.2.1 dX8_turned_12 rfl (lv_at hl 2 rfl) ?_
    refine x_i2l C0 i_p2 dX8_turned_13 ?_
    refine lv_lconst (v := J 0) C0.1 C0.2.1 dX8_turned_14 (by decide +kernel) ?_
    refine x_ldc2 (v := 255) C0 ck_X8_161 (by decide +kernel) dX8_turned_15 ?_
    obtain ⟨v3, h_v3, h⟩ := bndp_s h
    refine callS_i (rest := []) C0 hml hE (c_M_in l D g (σ := s1) (in64_of i_p2) (by decide) (by decide) h_v3) kw_X8_65 ⟨Nat.le_of_ble_eq_true rfl, Nat.le_of_ble_eq_true rfl⟩ rfl hl.1 rfl (Nat.le_of_ble_eq_true rfl) dX8_turned_18 ⟨Nat.zero_le _, Nat.zero_le _⟩ (fun H locs hE i_v3 => ?_)
    refine x_if_eq C0 i_v3 dX8_turned_21 (tgt := 31) (by decide) (fun c9 => ?_) (fun c9 => ?_)
    · have h := ite_t c9 h
      refine lv_iconst (v := I (-1)) C0.1 C0.2.1 dX8_turned_31 rfl ?_
      exact ret_i (wf := wM g) C0 hr hlk hE h lit_m1 hR dX8_turned_32
    · have h := ite_f c9 h
      refine lv_iload_n C0.1 C0.2.1 dX8_turned_24 rfl (lv_at hl 3 rfl) ?_
      obtain ⟨v4, h_v4, h⟩ := bndp_s h
      refine callS_i (rest := []) C0 hml hE (c_M_isPlace l D g (σ := s1) i_p3 h_v4) kw_X8_134 ⟨Nat.le_of_ble_eq_true rfl, Nat.le_of_ble_eq_true rfl⟩ rfl hl.1 rfl (Nat.le_of_ble_eq_true rfl) dX8_turned_25 ⟨Nat.zero_le _, Nat.zero_le _⟩ (fun H locs hE i_v4 => ?_)
      refine x_if_ne C0 i_v4 dX8_turned_28 (tgt := 33) (by decide) (fun c9 => ?_) (fun c9 => ?_)
      · have h := ite_f c9 h
        refine lv_aload_n C0.1 C0.2.1 dX8_turned_33 rfl (lv_at hl 0 rfl) ?_
        refine M_g_sizes C0 hE fk_X8_16 dX8_turned_34 ?_
        refine lv_iload_n C0.1 C0.2.1 dX8_turned_37 rfl (lv_at hl 1 rfl) ?_
        obtain ⟨v5, e_v5, i_v5, h⟩ := rd_s hR h
        refine M_sizes_l C0 hE i_p1 e_v5 dX8_turned_38 ?_
        refine x_if_ne C0 i_v5 dX8_turned_39 (tgt := 45) (by decide) (fun c9 => ?_) (fun c9 => ?_)
        · have h := ite_f c9 h
          refine lv_aload_n C0.1 C0.2.1 dX8_turned_45 rfl (lv_at hl 0 rfl) ?_
          refine lv_iload_n C0.1 C0.2.1 dX8_turned_46 rfl (lv_at hl 1 rfl) ?_
          obtain ⟨v6, s7, h_v6, h⟩ := bnd_s h
          refine callV_v (rest := []) C0 hml hE (M_rec C0 hE) (c_M_asks l D g hR i_p1 h_v6) kw_X8_176 ⟨Nat.le_of_ble_eq_true rfl, Nat.le_of_ble_eq_true rfl⟩ rfl hl.1 rfl (Nat.le_of_ble_eq_true rfl) dX8_turned_47 ⟨Nat.zero_le _, Nat.zero_le _⟩ (fun H locs hE hR => ?_)
          refine lv_aload_n C0.1 C0.2.1 dX8_turned_50 rfl (lv_at hl 0 rfl) ?_
          obtain ⟨v8, s9, h_v8, h⟩ := bnd_s h
          refine callV_v (rest := []) C0 hml hE (M_rec C0 hE) (c_M_begins l D g hR h_v8) kw_X8_166 ⟨Nat.le_of_ble_eq_true rfl, Nat.le_of_ble_eq_true rfl⟩ rfl hl.1 rfl (Nat.le_of_ble_eq_true rfl) dX8_turned_51 ⟨Nat.zero_le _, Nat.zero_le _⟩ (fun H locs hE hR => ?_)
          refine lv_iconst (v := I 0) C0.1 C0.2.1 dX8_turned_54 rfl ?_
          refine lv_istore (lv' := [(4, .int (I 0)), (0, .ref (g.2 100)), (1, .int (I p1)), (2, .int (I p2)), (3, .int (I p3))]) C0.1 C0.2.1 dX8_turned_55 hl (by decide) rfl (fun ls hl => ?_)
          obtain ⟨k11, e_k11, h⟩ := jn_s h
          have h_k11 : ∀ (s10 : St) (hR : R32 s10) (H : Heap) (locs : List Loc) (ls : Array Slot), EW D (va_A (wM g σ) sz) s.heap (wM g s10) H locs → lv_has ls 6 [(0, .ref (g.2 100)), (3, .int (I p3))] → k11 s10 = some (r, σr) → W p l e (rmk 16) s m args below meth c H locs 0 0 (MQ below (QCi D (wM g σr) r (in32 r ∧ R32 σr) (va_A (wM g σ) sz)) args s 0 0 (va_A (wM g σ) sz)) (F0 m 88 ls []) := by
            intro s10 hR H locs ls hE hl h
            have h := (congrFun e_k11 s10).symm.trans h
            refine lv_aload_n C0.1 C0.2.1 dX8_turned_88 rfl (lv_at hl 0 rfl) ?_
            refine lv_iload_n C0.1 C0.2.1 dX8_turned_89 rfl (lv_at hl 1 rfl) ?_
            obtain ⟨v12, s13, h_v12, h⟩ := bnd_s h
            refine callV_i (rest := []) C0 hml hE (M_rec C0 hE) (c_M_ends l D g hR i_p3 h_v12) kw_X8_205 ⟨Nat.le_of_ble_eq_true rfl, Nat.le_of_ble_eq_true rfl⟩ rfl hl.1 rfl (Nat.le_of_ble_eq_true rfl) dX8_turned_90 ⟨Nat.zero_le _, Nat.zero_le _⟩ (fun H locs hE ⟨i_v12, hR⟩ => ?_)
            exact ret_i (wf := wM g) C0 hr hlk hE h i_v12 hR dX8_turned_93
          have hL57 : ∀ (n : Nat) (s15 : St) (hR : R32 s15) (x14 : Int) (i_x14 : in32 x14) (H : Heap) (locs : List Loc) (ls : Array Slot), EW D (va_A (wM g σ) sz) s.heap (wM g s15) H locs → lv_has ls 6 [(0, .ref (g.2 100)), (2, .int (I p2)), (3, .int (I p3)), (4, .int (I x14))] → M_turned_L57 k11 p2 n s15 x14 = some (r, σr) → W p l e (rmk 16) s m args below meth c H locs 0 0 (MQ below (QCi D (wM g σr) r (in32 r ∧ R32 σr) (va_A (wM g σ) sz)) args s 0 0 (va_A (wM g σ) sz)) (F0 m 57 ls []) := by
            intro n
            induction n with
            | zero => intros; rename_i h; cases h
            | succ n ih16 =>
              intro s15 hR x14 i_x14 H locs ls hE hl h
              unfold M_turned_L57 at h
              refine lv_iload C0.1 C0.2.1 dX8_turned_57 (lv_at hl 3 rfl) ?_
              refine lv_iload_n C0.1 C0.2.1 dX8_turned_59 rfl (lv_at hl 1 rfl) ?_
              refine x_icmp_ge C0 i_x14 i_p2 dX8_turned_60 (tgt := 88) (by decide) (fun c9 => ?_) (fun c9 => ?_)
              · have h := ite_f c9 h
                exact h_k11 s15 hR _ _ _ hE (lv_sub hl [0, 2] rfl) h
              · have h := ite_t c9 h
                refine lv_aload_n C0.1 C0.2.1 dX8_turned_63 rfl (lv_at hl 0 rfl) ?_
                refine lv_bipush (v := I 7) C0.1 C0.2.1 dX8_turned_64 (by decide +kernel) ?_
                refine lv_iconst (v := I 0) C0.1 C0.2.1 dX8_turned_66 rfl ?_
                obtain ⟨v17, h_v17, h⟩ := bndp_s h
                refine callV_i (rest := []) C0 hml hE (M_rec C0 hE) (c_M_number l D g hR lit_7 lit_0 h_v17) kw_X8_99 ⟨Nat.le_of_ble_eq_true rfl, Nat.le_of_ble_eq_true rfl⟩ rfl hl.1 rfl (Nat.le_of_ble_eq_true rfl) dX8_turned_67 ⟨Nat.zero_le _, Nat.zero_le _⟩ (fun H locs hE i_v17 => ?_)
                refine lv_istore (lv' := [(5, .int (I v17)), (0, .ref (g.2 100)), (2, .int (I p2)), (3, .int (I p3)), (4, .int (I x14))]) C0.1 C0.2.1 dX8_turned_70 hl (by decide) rfl (fun ls hl => ?_)
                refine lv_aload_n C0.1 C0.2.1 dX8_turned_72 rfl (lv_at hl 1 rfl) ?_
                obtain ⟨v18, s19, h_v18, h⟩ := bnd_s h
                refine callV_v (rest := []) C0 hml hE (M_rec C0 hE) (c_M_goesFirst l D g hR h_v18) kw_X8_219 ⟨Nat.le_of_ble_eq_true rfl, Nat.le_of_ble_eq_true rfl⟩ rfl hl.1 rfl (Nat.le_of_ble_eq_true rfl) dX8_turned_73 ⟨Nat.zero_le _, Nat.zero_le _⟩ (fun H locs hE hR => ?_)
                refine lv_aload_n C0.1 C0.2.1 dX8_turned_76 rfl (lv_at hl 1 rfl) ?_
                refine lv_iload C0.1 C0.2.1 dX8_turned_77 (lv_at hl 0 rfl) ?_
                obtain ⟨v20, s21, h_v20, h⟩ := bnd_s h
                refine callV_v (rest := []) C0 hml hE (M_rec C0 hE) (c_M_backs l D g hR i_v17 h_v20) kw_X8_212 ⟨Nat.le_of_ble_eq_true rfl, Nat.le_of_ble_eq_true rfl⟩ rfl hl.1 rfl (Nat.le_of_ble_eq_true rfl) dX8_turned_79 ⟨Nat.zero_le _, Nat.zero_le _⟩ (fun H locs hE hR => ?_)
                obtain ⟨v22, e_v22, i_v22, h⟩ := oadd_s h
                refine x_iinc (lv' := [(4, .int (I v22)), (5, .int (I v17)), (0, .ref (g.2 100)), (2, .int (I p2)), (3, .int (I p3))]) C0 dX8_turned_82 hl (k := 4) rfl e_v22 (by decide) rfl (fun ls hl => ?_)
                refine x_goto C0 dX8_turned_85 (tgt := 57) (by decide) ?_
                exact ih16 s21 hR v22 i_v22 _ _ _ hE (lv_sub hl [2, 3, 4, 0] rfl) h
          exact hL57 FU s9 hR 0 lit_0 _ _ _ hE (lv_sub hl [1, 3, 4, 0] rfl) h
        · have h := ite_t c9 h
          refine lv_bipush (v := I (-2)) C0.1 C0.2.1 dX8_turned_42 (by decide +kernel) ?_
          exact ret_i (wf := wM g) C0 hr hlk hE h lit_m2 hR dX8_turned_44
      · have h := ite_t c9 h
        refine lv_iconst (v := I (-1)) C0.1 C0.2.1 dX8_turned_31 rfl ?_
        exact ret_i (wf := wM g) C0 hr hlk hE h lit_m1 hR dX8_turned_32
set_option maxRecDepth 100000 in
set_option maxHeartbeats 4000000 in
theorem c_M_reverses (l : Launch) (D : va_G) (g : Ad) {σ σr : St} {p1 p2 r : Int} (hR : R32 σ) (i_p1 : in32 p1) (i_p2 : in32 p2) (h : M_reverses σ p1 p2 = some (r, σr)) : CtI l D g yX8_reverses cX8_reverses 4 (some .int) 4 (wM g σ) (wM g σr) [.ref (g.2 100), .int (I p1), .int (I p2)] r (in32 r ∧ R32 σr) := by
  intro sz
  refine met_of (by decide) (Nat.le_of_ble_eq_true rfl) (fun p e s m args below meth c ls H locs C0 hml hr hlk hE hl => ?_)
  have C0 : CX p c cX8_reverses m s args D g RX8 := C0
  have hl : lv_has ls 4 [(0, .ref (g.2 100)), (1, .int (I p1)), (2, .int (I p2))] := hl
  unfold M_reverses at h
  refine lv_aload_n C0.1 C0.2.1 dX8_reverses_0 rfl (lv_at hl 0 rfl) ?_
  refine lv_iconst (v := I 0) C0.1 C0.2.1 dX8_reverses_1 rfl ?_
  obtain ⟨s1, e_s1, hR, h⟩ := pf_s hR lit_0 h
  refine M_p_thrown C0 hE e_s1 fk_X8_55 dX8_reverses_2 (fun H locs hE => ?_)
  refine lv_iload_n C0.1 C0.2.1 dX8_reverses_5 rfl (lv_at hl 1 rfl) ?_
  obtain ⟨v2, h_v2, h⟩ := bndp_s h
  refine callS_i (rest := []) C0 hml hE (c_M_isPlace l D g (σ := s1) i_p1 h_v2) kw_X8_134 ⟨Nat.le_of_ble_eq_true rfl, Nat.le_of_ble_eq_true rfl⟩ rfl hl.1 rfl (Nat.le_of_ble_eq_true rfl) dX8_reverses_6 ⟨Nat.zero_le _, Nat.zero_le _⟩ (fun H locs hE i_v2 => ?_)
  refine x_if_eq C0 i_v2 dX8_reverses_9 (tgt := 19) (by decide) (fun c9 => ?_) (fun c9 => ?_)
  · have h := ite_t c9 h
    refine lv_iconst (v := I (-1)) C0.1 C0.2.1 dX8_reverses_19 rfl ?_
    exact ret_i (wf := wM g) C0 hr hlk hE h lit_m1 hR dX8_reverses_20
  · have h := ite_f c9 h
    refine lv_iload_n C0.1 C0.2.1 dX8_reverses_12 rfl (lv_at hl 2 rfl) ?_
    obtain ⟨v3, h_v3, h⟩ := bndp_s h
    refine callS_i (rest := []) C0 hml hE (c_M_isPlace l D g (σ := s1) i_p2 h_v3) kw_X8_134 ⟨Nat.le_of_ble_eq_true rfl, Nat.le_of_ble_eq_true rfl⟩ rfl hl.1 rfl (Nat.le_of_ble_eq_true rfl) dX8_reverses_13 ⟨Nat.zero_le _, Nat.zero_le _⟩ (fun H locs hE i_v3 => ?_)
    refine x_if_ne C0 i_v3 dX8_reverses_16 (tgt := 21) (by decide) (fun c9 => ?_) (fun c9 => ?_)
    · have h := ite_f c9 h
      refine lv_aload_n C0.1 C0.2.1 dX8_reverses_21 rfl (lv_at hl 0 rfl) ?_
      refine lv_iload_n C0.1 C0.2.1 dX8_reverses_22 rfl (lv_at hl 1 rfl) ?_
      obtain ⟨v4, s5, h_v4, h⟩ := bnd_s h
      refine callV_v (rest := []) C0 hml hE (M_rec C0 hE) (c_M_asks l D g hR i_p1 h_v4) kw_X8_176 ⟨Nat.le_of_ble_eq_true rfl, Nat.le_of_ble_eq_true rfl⟩ rfl hl.1 rfl (Nat.le_of_ble_eq_true rfl) dX8_reverses_23 ⟨Nat.zero_le _, Nat.zero_le _⟩ (fun H locs hE hR => ?_)
      refine lv_iconst (v := I 0) C0.1 C0.2.1 dX8_reverses_26 rfl ?_
      refine lv_istore_n (lv' := [(3, .int (I 0)), (0, .ref (g.2 100)), (1, .int (I p1)), (2, .int (I p2))]) C0.1 C0.2.1 dX8_reverses_27 rfl hl (by decide) rfl (fun ls hl => ?_)
      obtain ⟨k7, e_k7, h⟩ := jn_s h
      have h_k7 : ∀ (s6 : St) (hR : R32 s6) (H : Heap) (locs : List Loc) (ls : Array Slot), EW D (va_A (wM g σ) sz) s.heap (wM g s6) H locs → lv_has ls 4 [(0, .ref (g.2 100)), (2, .int (I p2))] → k7 s6 = some (r, σr) → W p l e (rmk 4) s m args below meth c H locs 0 0 (MQ below (QCi D (wM g σr) r (in32 r ∧ R32 σr) (va_A (wM g σ) sz)) args s 0 0 (va_A (wM g σ) sz)) (F0 m 72 ls []) := by
        intro s6 hR H locs ls hE hl h
        have h := (congrFun e_k7 s6).symm.trans h
        refine lv_aload_n C0.1 C0.2.1 dX8_reverses_72 rfl (lv_at hl 0 rfl) ?_
        obtain ⟨v8, s9, h_v8, h⟩ := bnd_s h
        refine callV_v (rest := []) C0 hml hE (M_rec C0 hE) (c_M_built l D g hR h_v8) kw_X8_138 ⟨Nat.le_of_ble_eq_true rfl, Nat.le_of_ble_eq_true rfl⟩ rfl hl.1 rfl (Nat.le_of_ble_eq_true rfl) dX8_reverses_73 ⟨Nat.zero_le _, Nat.zero_le _⟩ (fun H locs hE hR => ?_)
        refine lv_aload_n C0.1 C0.2.1 dX8_reverses_76 rfl (lv_at hl 0 rfl) ?_
        refine lv_bipush (v := I 7) C0.1 C0.2.1 dX8_reverses_77 (by decide +kernel) ?_
        refine lv_iload_n C0.1 C0.2.1 dX8_reverses_79 rfl (lv_at hl 1 rfl) ?_
        obtain ⟨v10, s11, h_v10, h⟩ := bnd_s h
        refine callV_v (rest := []) C0 hml hE (M_rec C0 hE) (c_M_takes l D g hR lit_7 i_p2 h_v10) kw_X8_82 ⟨Nat.le_of_ble_eq_true rfl, Nat.le_of_ble_eq_true rfl⟩ rfl hl.1 rfl (Nat.le_of_ble_eq_true rfl) dX8_reverses_80 ⟨Nat.zero_le _, Nat.zero_le _⟩ (fun H locs hE hR => ?_)
        refine lv_aload_n C0.1 C0.2.1 dX8_reverses_83 rfl (lv_at hl 0 rfl) ?_
        refine M_g_sizes C0 hE fk_X8_16 dX8_reverses_84 ?_
        refine lv_iload_n C0.1 C0.2.1 dX8_reverses_87 rfl (lv_at hl 1 rfl) ?_
        obtain ⟨v12, e_v12, i_v12, h⟩ := rd_s hR h
        refine M_sizes_l C0 hE i_p2 e_v12 dX8_reverses_88 ?_
        exact ret_i (wf := wM g) C0 hr hlk hE h i_v12 hR dX8_reverses_89
      have hL28 : ∀ (n : Nat) (s14 : St) (hR : R32 s14) (x13 : Int) (i_x13 : in32 x13) (H : Heap) (locs : List Loc) (ls : Array Slot), EW D (va_A (wM g σ) sz) s.heap (wM g s14) H locs → lv_has ls 4 [(0, .ref (g.2 100)), (2, .int (I p2)), (3, .int (I x13))] → M_reverses_L28 k7 n s14 x13 = some (r, σr) → W p l e (rmk 4) s m args below meth c H locs 0 0 (MQ below (QCi D (wM g σr) r (in32 r ∧ R32 σr) (va_A (wM g σ) sz)) args s 0 0 (va_A (wM g σ) sz)) (F0 m 28 ls []) := by
        intro n
        induction n with
        | zero => intros; rename_i h; cases h
        | succ n ih15 =>
          intro s14 hR x13 i_x13 H locs ls hE hl h
          unfold M_reverses_L28 at h
          refine lv_iload_n C0.1 C0.2.1 dX8_reverses_28 rfl (lv_at hl 2 rfl) ?_
          refine lv_aload_n C0.1 C0.2.1 dX8_reverses_29 rfl (lv_at hl 0 rfl) ?_
          refine M_g_sizes C0 hE fk_X8_16 dX8_reverses_30 ?_
          refine lv_bipush (v := I 7) C0.1 C0.2.1 dX8_reverses_33 (by decide +kernel) ?_
          obtain ⟨v16, e_v16, i_v16, h⟩ := rd_s hR h
          refine M_sizes_l C0 hE lit_7 e_v16 dX8_reverses_35 ?_
          refine x_icmp_ge C0 i_x13 i_v16 dX8_reverses_36 (tgt := 72) (by decide) (fun c9 => ?_) (fun c9 => ?_)
          · have h := ite_f c9 h
            exact h_k7 s14 hR _ _ _ hE (lv_sub hl [0, 1] rfl) h
          · have h := ite_t c9 h
            refine lv_aload_n C0.1 C0.2.1 dX8_reverses_39 rfl (lv_at hl 0 rfl) ?_
            refine M_g_numbers C0 hE fk_X8_7 dX8_reverses_40 ?_
            refine lv_sipush (v := I 1792) C0.1 C0.2.1 dX8_reverses_43 (by decide +kernel) ?_
            refine lv_iload_n C0.1 C0.2.1 dX8_reverses_46 rfl (lv_at hl 2 rfl) ?_
            obtain ⟨v17, e_v17, i_v17, h⟩ := oadd_s h
            refine x_add C0 e_v17 dX8_reverses_47 ?_
            refine lv_aload_n C0.1 C0.2.1 dX8_reverses_48 rfl (lv_at hl 0 rfl) ?_
            refine lv_bipush (v := I 6) C0.1 C0.2.1 dX8_reverses_49 (by decide +kernel) ?_
            refine lv_aload_n C0.1 C0.2.1 dX8_reverses_51 rfl (lv_at hl 0 rfl) ?_
            refine M_g_sizes C0 hE fk_X8_16 dX8_reverses_52 ?_
            refine lv_bipush (v := I 6) C0.1 C0.2.1 dX8_reverses_55 (by decide +kernel) ?_
            obtain ⟨v18, e_v18, i_v18, h⟩ := rd_s hR h
            refine M_sizes_l C0 hE lit_6 e_v18 dX8_reverses_57 ?_
            refine lv_iconst (v := I 1) C0.1 C0.2.1 dX8_reverses_58 rfl ?_
            obtain ⟨v19, e_v19, i_v19, h⟩ := osub_s h
            refine x_sub C0 e_v19 dX8_reverses_59 ?_
            refine lv_iload_n C0.1 C0.2.1 dX8_reverses_60 rfl (lv_at hl 2 rfl) ?_
            obtain ⟨v20, e_v20, i_v20, h⟩ := osub_s h
            refine x_sub C0 e_v20 dX8_reverses_61 ?_
            obtain ⟨v21, h_v21, h⟩ := bndp_s h
            refine callV_i (rest := [.int (I v17), .ref (g.2 101)]) C0 hml hE (M_rec C0 hE) (c_M_number l D g hR lit_6 i_v20 h_v21) kw_X8_99 ⟨Nat.le_of_ble_eq_true rfl, Nat.le_of_ble_eq_true rfl⟩ rfl hl.1 rfl (Nat.le_of_ble_eq_true rfl) dX8_reverses_62 ⟨Nat.zero_le _, Nat.zero_le _⟩ (fun H locs hE i_v21 => ?_)
            obtain ⟨s22, e_s22, hR, h⟩ := wr_s hR i_v21 h
            refine M_numbers_st C0 hE i_v17 e_s22 dX8_reverses_65 (fun H locs hE => ?_)
            obtain ⟨v23, e_v23, i_v23, h⟩ := oadd_s h
            refine x_iinc (lv' := [(3, .int (I v23)), (0, .ref (g.2 100)), (2, .int (I p2))]) C0 dX8_reverses_66 hl (k := 2) rfl e_v23 (by decide) rfl (fun ls hl => ?_)
            refine x_goto C0 dX8_reverses_69 (tgt := 28) (by decide) ?_
            exact ih15 s22 hR v23 i_v23 _ _ _ hE (lv_sub hl [1, 2, 0] rfl) h
      exact hL28 FU s5 hR 0 lit_0 _ _ _ hE (lv_sub hl [1, 3, 0] rfl) h
    · have h := ite_t c9 h
      refine lv_iconst (v := I (-1)) C0.1 C0.2.1 dX8_reverses_19 rfl ?_
      exact ret_i (wf := wM g) C0 hr hlk hE h lit_m1 hR dX8_reverses_20
set_option maxRecDepth 100000 in
set_option maxHeartbeats 4000000 in
theorem c_M_keeps (l : Launch) (D : va_G) (g : Ad) {σ σr : St} {p1 p2 p3 r : Int} (hR : R32 σ) (i_p1 : in32 p1) (i_p2 : in32 p2) (i_p3 : in32 p3) (h : M_keeps σ p1 p2 p3 = some (r, σr)) : CtI l D g yX8_keeps cX8_keeps 4 (some .int) 4 (wM g σ) (wM g σr) [.ref (g.2 100), .int (I p1), .int (I p2), .int (I p3)] r (in32 r ∧ R32 σr) := by
  intro sz
  refine met_of (by decide) (Nat.le_of_ble_eq_true rfl) (fun p e s m args below meth c ls H locs C0 hml hr hlk hE hl => ?_)
  have C0 : CX p c cX8_keeps m s args D g RX8 := C0
  have hl : lv_has ls 4 [(0, .ref (g.2 100)), (1, .int (I p1)), (2, .int (I p2)), (3, .int (I p3))] := hl
  unfold M_keeps at h
  refine lv_aload_n C0.1 C0.2.1 dX8_keeps_0 rfl (lv_at hl 0 rfl) ?_
  refine lv_iconst (v := I 0) C0.1 C0.2.1 dX8_keeps_1 rfl ?_
  obtain ⟨s1, e_s1, hR, h⟩ := pf_s hR lit_0 h
  refine M_p_thrown C0 hE e_s1 fk_X8_55 dX8_keeps_2 (fun H locs hE => ?_)
  refine lv_iload_n C0.1 C0.2.1 dX8_keeps_5 rfl (lv_at hl 1 rfl) ?_
  obtain ⟨v2, h_v2, h⟩ := bndp_s h
  refine callS_i (rest := []) C0 hml hE (c_M_isPlace l D g (σ := s1) i_p1 h_v2) kw_X8_134 ⟨Nat.le_of_ble_eq_true rfl, Nat.le_of_ble_eq_true rfl⟩ rfl hl.1 rfl (Nat.le_of_ble_eq_true rfl) dX8_keeps_6 ⟨Nat.zero_le _, Nat.zero_le _⟩ (fun H locs hE i_v2 => ?_)
  refine x_if_eq C0 i_v2 dX8_keeps_9 (tgt := 35) (by decide) (fun c9 => ?_) (fun c9 => ?_)
  · have h := ite_t c9 h
    refine lv_iconst (v := I (-1)) C0.1 C0.2.1 dX8_keeps_35 rfl ?_
    exact ret_i (wf := wM g) C0 hr hlk hE h lit_m1 hR dX8_keeps_36
  · have h := ite_f c9 h
    refine lv_iload_n C0.1 C0.2.1 dX8_keeps_12 rfl (lv_at hl 2 rfl) ?_
    refine x_i2l C0 i_p2 dX8_keeps_13 ?_
    refine lv_lconst (v := J 0) C0.1 C0.2.1 dX8_keeps_14 (by decide +kernel) ?_
    refine lv_aload_n C0.1 C0.2.1 dX8_keeps_15 rfl (lv_at hl 0 rfl) ?_
    refine M_g_sizes C0 hE fk_X8_16 dX8_keeps_16 ?_
    refine lv_iload_n C0.1 C0.2.1 dX8_keeps_19 rfl (lv_at hl 1 rfl) ?_
    obtain ⟨v3, e_v3, i_v3, h⟩ := rd_s hR h
    refine M_sizes_l C0 hE i_p1 e_v3 dX8_keeps_20 ?_
    refine x_i2l C0 i_v3 dX8_keeps_21 ?_
    obtain ⟨v4, h_v4, h⟩ := bndp_s h
    refine callS_i (rest := []) C0 hml hE (c_M_in l D g (σ := s1) (in64_of i_p2) (by decide) (in64_of i_v3) h_v4) kw_X8_65 ⟨Nat.le_of_ble_eq_true rfl, Nat.le_of_ble_eq_true rfl⟩ rfl hl.1 rfl (Nat.le_of_ble_eq_true rfl) dX8_keeps_22 ⟨Nat.zero_le _, Nat.zero_le _⟩ (fun H locs hE i_v4 => ?_)
    refine x_if_eq C0 i_v4 dX8_keeps_25 (tgt := 35) (by decide) (fun c9 => ?_) (fun c9 => ?_)
    · have h := ite_t c9 h
      refine lv_iconst (v := I (-1)) C0.1 C0.2.1 dX8_keeps_35 rfl ?_
      exact ret_i (wf := wM g) C0 hr hlk hE h lit_m1 hR dX8_keeps_36
    · have h := ite_f c9 h
      refine lv_iload_n C0.1 C0.2.1 dX8_keeps_28 rfl (lv_at hl 3 rfl) ?_
      obtain ⟨v5, h_v5, h⟩ := bndp_s h
      refine callS_i (rest := []) C0 hml hE (c_M_isPlace l D g (σ := s1) i_p3 h_v5) kw_X8_134 ⟨Nat.le_of_ble_eq_true rfl, Nat.le_of_ble_eq_true rfl⟩ rfl hl.1 rfl (Nat.le_of_ble_eq_true rfl) dX8_keeps_29 ⟨Nat.zero_le _, Nat.zero_le _⟩ (fun H locs hE i_v5 => ?_)
      refine x_if_ne C0 i_v5 dX8_keeps_32 (tgt := 37) (by decide) (fun c9 => ?_) (fun c9 => ?_)
      · have h := ite_f c9 h
        refine lv_aload_n C0.1 C0.2.1 dX8_keeps_37 rfl (lv_at hl 0 rfl) ?_
        refine lv_iload_n C0.1 C0.2.1 dX8_keeps_38 rfl (lv_at hl 1 rfl) ?_
        obtain ⟨v6, s7, h_v6, h⟩ := bnd_s h
        refine callV_v (rest := []) C0 hml hE (M_rec C0 hE) (c_M_asks l D g hR i_p1 h_v6) kw_X8_176 ⟨Nat.le_of_ble_eq_true rfl, Nat.le_of_ble_eq_true rfl⟩ rfl hl.1 rfl (Nat.le_of_ble_eq_true rfl) dX8_keeps_39 ⟨Nat.zero_le _, Nat.zero_le _⟩ (fun H locs hE hR => ?_)
        refine lv_aload_n C0.1 C0.2.1 dX8_keeps_42 rfl (lv_at hl 0 rfl) ?_
        obtain ⟨v8, s9, h_v8, h⟩ := bnd_s h
        refine callV_v (rest := []) C0 hml hE (M_rec C0 hE) (c_M_begins l D g hR h_v8) kw_X8_166 ⟨Nat.le_of_ble_eq_true rfl, Nat.le_of_ble_eq_true rfl⟩ rfl hl.1 rfl (Nat.le_of_ble_eq_true rfl) dX8_keeps_43 ⟨Nat.zero_le _, Nat.zero_le _⟩ (fun H locs hE hR => ?_)
        obtain ⟨k11, e_k11, h⟩ := jn_s h
        have h_k11 : ∀ (s10 : St) (hR : R32 s10) (H : Heap) (locs : List Loc) (ls : Array Slot), EW D (va_A (wM g σ) sz) s.heap (wM g s10) H locs → lv_has ls 4 [(0, .ref (g.2 100)), (3, .int (I p3))] → k11 s10 = some (r, σr) → W p l e (rmk 4) s m args below meth c H locs 0 0 (MQ below (QCi D (wM g σr) r (in32 r ∧ R32 σr) (va_A (wM g σ) sz)) args s 0 0 (va_A (wM g σ) sz)) (F0 m 64 ls []) := by
          intro s10 hR H locs ls hE hl h
          have h := (congrFun e_k11 s10).symm.trans h
          refine lv_aload_n C0.1 C0.2.1 dX8_keeps_64 rfl (lv_at hl 0 rfl) ?_
          refine lv_iload_n C0.1 C0.2.1 dX8_keeps_65 rfl (lv_at hl 1 rfl) ?_
          obtain ⟨v12, s13, h_v12, h⟩ := bnd_s h
          refine callV_i (rest := []) C0 hml hE (M_rec C0 hE) (c_M_ends l D g hR i_p3 h_v12) kw_X8_205 ⟨Nat.le_of_ble_eq_true rfl, Nat.le_of_ble_eq_true rfl⟩ rfl hl.1 rfl (Nat.le_of_ble_eq_true rfl) dX8_keeps_66 ⟨Nat.zero_le _, Nat.zero_le _⟩ (fun H locs hE ⟨i_v12, hR⟩ => ?_)
          exact ret_i (wf := wM g) C0 hr hlk hE h i_v12 hR dX8_keeps_69
        have hL46 : ∀ (n : Nat) (s14 : St) (hR : R32 s14) (H : Heap) (locs : List Loc) (ls : Array Slot), EW D (va_A (wM g σ) sz) s.heap (wM g s14) H locs → lv_has ls 4 [(0, .ref (g.2 100)), (2, .int (I p2)), (3, .int (I p3))] → M_keeps_L46 k11 p2 n s14 = some (r, σr) → W p l e (rmk 4) s m args below meth c H locs 0 0 (MQ below (QCi D (wM g σr) r (in32 r ∧ R32 σr) (va_A (wM g σ) sz)) args s 0 0 (va_A (wM g σ) sz)) (F0 m 46 ls []) := by
          intro n
          induction n with
          | zero => intros; rename_i h; cases h
          | succ n ih15 =>
            intro s14 hR H locs ls hE hl h
            unfold M_keeps_L46 at h
            refine lv_aload_n C0.1 C0.2.1 dX8_keeps_46 rfl (lv_at hl 0 rfl) ?_
            refine M_g_sizes C0 hE fk_X8_16 dX8_keeps_47 ?_
            refine lv_bipush (v := I 7) C0.1 C0.2.1 dX8_keeps_50 (by decide +kernel) ?_
            obtain ⟨v16, e_v16, i_v16, h⟩ := rd_s hR h
            refine M_sizes_l C0 hE lit_7 e_v16 dX8_keeps_52 ?_
            refine lv_iload_n C0.1 C0.2.1 dX8_keeps_53 rfl (lv_at hl 1 rfl) ?_
            refine x_icmp_le C0 i_v16 i_p2 dX8_keeps_54 (tgt := 64) (by decide) (fun c9 => ?_) (fun c9 => ?_)
            · have h := ite_f c9 h
              exact h_k11 s14 hR _ _ _ hE (lv_sub hl [0, 2] rfl) h
            · have h := ite_t c9 h
              refine lv_aload_n C0.1 C0.2.1 dX8_keeps_57 rfl (lv_at hl 0 rfl) ?_
              obtain ⟨v17, s18, h_v17, h⟩ := bnd_s h
              refine callV_v (rest := []) C0 hml hE (M_rec C0 hE) (c_M_goesLast l D g hR h_v17) kw_X8_222 ⟨Nat.le_of_ble_eq_true rfl, Nat.le_of_ble_eq_true rfl⟩ rfl hl.1 rfl (Nat.le_of_ble_eq_true rfl) dX8_keeps_58 ⟨Nat.zero_le _, Nat.zero_le _⟩ (fun H locs hE hR => ?_)
              refine x_goto C0 dX8_keeps_61 (tgt := 46) (by decide) ?_
              exact ih15 s18 hR _ _ _ hE (lv_sub hl [0, 1, 2] rfl) h
        exact hL46 FU s9 hR _ _ _ hE (lv_sub hl [0, 2, 3] rfl) h
      · have h := ite_t c9 h
        refine lv_iconst (v := I (-1)) C0.1 C0.2.1 dX8_keeps_35 rfl ?_
        exact ret_i (wf := wM g) C0 hr hlk hE h lit_m1 hR dX8_keeps_36

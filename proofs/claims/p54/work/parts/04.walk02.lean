-- THE WALKS, written by program
set_option maxRecDepth 100000 in
set_option maxHeartbeats 4000000 in
theorem c_Row_tell1 (l : Launch) (D : va_G) (g : Ad) {σ σr : St} {p1 p2 r : Int} (hR : R32 σ) (i_p1 : in64 p1) (i_p2 : in64 p2) (h : Row_tell1 σ p1 p2 = some (r, σr)) : CtV l D g yX2_tell_ cX2_tell_ 5 none 3 (wE g σ) (wE g σr) [.ref (g.2 2), .long (J p1), .long (J p2)] (R32 σr) := by
  intro sz
  refine met_of (by decide) (Nat.le_of_ble_eq_true rfl) (fun p e s m args below meth c ls H locs C0 hml hr hlk hE hl => ?_)
  have C0 : CX p c cX2_tell_ m s args D g RX2 := C0
  have hl : lv_has ls 5 [(0, .ref (g.2 2)), (1, .long (J p1)), (3, .long (J p2))] := hl
  unfold Row_tell1 at h
  refine lv_aload_n C0.1 C0.2.1 dX2_tell__0 rfl (lv_at hl 0 rfl) ?_
  refine lv_lload_n C0.1 C0.2.1 dX2_tell__1 rfl (lv_at hl 1 rfl) ?_
  obtain ⟨v1, s2, h_v1, h⟩ := bnd_s h
  refine callV_v (rest := []) C0 hml hE (Row_rec C0 hE) (c_Row_tell l D g hR i_p1 h_v1) kw_X2_26 ⟨Nat.le_of_ble_eq_true rfl, Nat.le_of_ble_eq_true rfl⟩ rfl hl.1 rfl (Nat.le_of_ble_eq_true rfl) dX2_tell__2 ⟨Nat.zero_le _, Nat.zero_le _⟩ (fun H locs hE hR => ?_)
  refine lv_aload_n C0.1 C0.2.1 dX2_tell__5 rfl (lv_at hl 0 rfl) ?_
  refine lv_lload_n C0.1 C0.2.1 dX2_tell__6 rfl (lv_at hl 2 rfl) ?_
  obtain ⟨v3, s4, h_v3, h⟩ := bnd_s h
  refine callV_v (rest := []) C0 hml hE (Row_rec C0 hE) (c_Row_add l D g hR i_p2 h_v3) kw_X2_22 ⟨Nat.le_of_ble_eq_true rfl, Nat.le_of_ble_eq_true rfl⟩ rfl hl.1 rfl (Nat.le_of_ble_eq_true rfl) dX2_tell__7 ⟨Nat.zero_le _, Nat.zero_le _⟩ (fun H locs hE hR => ?_)
  exact ret_v (wf := wE g) C0 hr hlk hE h hR dX2_tell__10
set_option maxRecDepth 100000 in
set_option maxHeartbeats 4000000 in
theorem c_E_sum (l : Launch) (D : va_G) (g : Ad) {σ σr : St} {p1 p2 p3 r : Int} (hR : R32 σ) (i_p1 : in32 p1) (i_p2 : in32 p2) (i_p3 : in32 p3) (h : E_sum σ p1 p2 p3 = some (r, σr)) : CtI l D g yX7_sum cX7_sum 8 (some .int) 5 (wE g σ) (wE g σr) [.ref (g.2 0), .int (I p1), .int (I p2), .int (I p3)] r (in32 r ∧ R32 σr) := by
  intro sz
  refine met_of (by decide) (Nat.le_of_ble_eq_true rfl) (fun p e s m args below meth c ls H locs C0 hml hr hlk hE hl => ?_)
  have C0 : CX p c cX7_sum m s args D g RX7 := C0
  have hl : lv_has ls 8 [(0, .ref (g.2 0)), (1, .int (I p1)), (2, .int (I p2)), (3, .int (I p3))] := hl
  unfold E_sum at h
  refine lv_aload_n C0.1 C0.2.1 dX7_sum_0 rfl (lv_at hl 0 rfl) ?_
  refine lv_iload_n C0.1 C0.2.1 dX7_sum_1 rfl (lv_at hl 1 rfl) ?_
  refine lv_iload_n C0.1 C0.2.1 dX7_sum_2 rfl (lv_at hl 2 rfl) ?_
  refine lv_iload_n C0.1 C0.2.1 dX7_sum_3 rfl (lv_at hl 3 rfl) ?_
  obtain ⟨v1, h_v1, h⟩ := bndp_s h
  refine callV_i (rest := []) C0 hml hE (E_rec C0 hE) (c_E_isRange l D g hR i_p1 i_p2 i_p3 h_v1) kw_X7_194 ⟨Nat.le_of_ble_eq_true rfl, Nat.le_of_ble_eq_true rfl⟩ rfl hl.1 rfl (Nat.le_of_ble_eq_true rfl) dX7_sum_4 ⟨Nat.zero_le _, Nat.zero_le _⟩ (fun H locs hE i_v1 => ?_)
  refine x_if_ne C0 i_v1 dX7_sum_7 (tgt := 13) (by decide) (fun c9 => ?_) (fun c9 => ?_)
  · have h := ite_f c9 h
    refine lv_aload_n C0.1 C0.2.1 dX7_sum_13 rfl (lv_at hl 0 rfl) ?_
    refine E_g_pool C0 hE fk_X7_10 dX7_sum_14 ?_
    refine lv_aload_n C0.1 C0.2.1 dX7_sum_17 rfl (lv_at hl 0 rfl) ?_
    refine E_g_trees C0 hE fk_X7_49 dX7_sum_18 ?_
    refine lv_iload_n C0.1 C0.2.1 dX7_sum_21 rfl (lv_at hl 1 rfl) ?_
    obtain ⟨v2, e_v2, i_v2, h⟩ := rd_s hR h
    refine E_trees_l C0 hE i_p1 e_v2 dX7_sum_22 ?_
    refine lv_aload_n C0.1 C0.2.1 dX7_sum_23 rfl (lv_at hl 0 rfl) ?_
    refine E_g_sizes C0 hE fk_X7_53 dX7_sum_24 ?_
    refine lv_iload_n C0.1 C0.2.1 dX7_sum_27 rfl (lv_at hl 1 rfl) ?_
    obtain ⟨v3, e_v3, i_v3, h⟩ := rd_s hR h
    refine E_sizes_l C0 hE i_p1 e_v3 dX7_sum_28 ?_
    refine lv_aload_n C0.1 C0.2.1 dX7_sum_29 rfl (lv_at hl 0 rfl) ?_
    refine E_g_one C0 hE fk_X7_56 dX7_sum_30 ?_
    obtain ⟨v4, s5, h_v4, h⟩ := bnd_s h
    refine callV_v (rest := []) C0 hml hE (Pool_rec C0 hE) (c_Pool_read_one l D g hR i_v2 i_v3 h_v4) kw_X7_201 ⟨Nat.le_of_ble_eq_true rfl, Nat.le_of_ble_eq_true rfl⟩ rfl hl.1 rfl (Nat.le_of_ble_eq_true rfl) dX7_sum_33 ⟨Nat.zero_le _, Nat.zero_le _⟩ (fun H locs hE hR => ?_)
    refine lv_aload_n C0.1 C0.2.1 dX7_sum_36 rfl (lv_at hl 0 rfl) ?_
    refine E_g_told C0 hE fk_X7_19 dX7_sum_37 ?_
    obtain ⟨v6, s7, h_v6, h⟩ := bnd_s h
    refine callV_v (rest := []) C0 hml hE (Row_rec C0 hE) (c_Row_clear l D g hR h_v6) kw_X7_248 ⟨Nat.le_of_ble_eq_true rfl, Nat.le_of_ble_eq_true rfl⟩ rfl hl.1 rfl (Nat.le_of_ble_eq_true rfl) dX7_sum_40 ⟨Nat.zero_le _, Nat.zero_le _⟩ (fun H locs hE hR => ?_)
    refine lv_iload_n C0.1 C0.2.1 dX7_sum_43 rfl (lv_at hl 2 rfl) ?_
    refine lv_iload_n C0.1 C0.2.1 dX7_sum_44 rfl (lv_at hl 3 rfl) ?_
    refine x_icmp_ne C0 i_p2 i_p3 dX7_sum_45 (tgt := 50) (by decide) (fun c9 => ?_) (fun c9 => ?_)
    · have h := ite_f c9 h
      refine lv_iload_n C0.1 C0.2.1 dX7_sum_50 rfl (lv_at hl 2 rfl) ?_
      refine lv_istore (lv' := [(4, .int (I p2)), (0, .ref (g.2 0)), (1, .int (I p1)), (2, .int (I p2)), (3, .int (I p3))]) C0.1 C0.2.1 dX7_sum_51 hl (by decide) rfl (fun ls hl => ?_)
      refine lv_iload_n C0.1 C0.2.1 dX7_sum_53 rfl (lv_at hl 3 rfl) ?_
      refine lv_istore (lv' := [(5, .int (I p2)), (4, .int (I p2)), (0, .ref (g.2 0)), (1, .int (I p1)), (2, .int (I p2)), (3, .int (I p3))]) C0.1 C0.2.1 dX7_sum_54 hl (by decide) rfl (fun ls hl => ?_)
      refine lv_iconst (v := I 0) C0.1 C0.2.1 dX7_sum_56 rfl ?_
      refine lv_istore (lv' := [(6, .int (I 0)), (5, .int (I p2)), (4, .int (I p2)), (0, .ref (g.2 0)), (1, .int (I p1)), (2, .int (I p2)), (3, .int (I p3))]) C0.1 C0.2.1 dX7_sum_57 hl (by decide) rfl (fun ls hl => ?_)
      refine lv_iload_n C0.1 C0.2.1 dX7_sum_59 rfl (lv_at hl 5 rfl) ?_
      refine lv_istore (lv' := [(7, .int (I p2)), (6, .int (I 0)), (5, .int (I p2)), (4, .int (I p2)), (0, .ref (g.2 0)), (1, .int (I p1)), (2, .int (I p2)), (3, .int (I p3))]) C0.1 C0.2.1 dX7_sum_60 hl (by decide) rfl (fun ls hl => ?_)
      obtain ⟨k11, e_k11, h⟩ := jn_s h
      have h_k11 : ∀ (x8 : Int) (i_x8 : in32 x8) (x9 : Int) (i_x9 : in32 x9) (x10 : Int) (i_x10 : in32 x10) (H : Heap) (locs : List Loc) (ls : Array Slot), EW D (va_A (wE g σ) sz) s.heap (wE g s7) H locs → lv_has ls 8 [(0, .ref (g.2 0)), (4, .int (I x8)), (5, .int (I x9)), (6, .int (I x10))] → k11 x8 x9 x10 = some (r, σr) → W p l e (rmk 5) s m args below meth c H locs 0 0 (MQ below (QCi D (wE g σr) r (in32 r ∧ R32 σr) (va_A (wE g σ) sz)) args s 0 0 (va_A (wE g σ) sz)) (F0 m 138 ls []) := by
        intro x8 i_x8 x9 i_x9 x10 i_x10 H locs ls hE hl h
        have h := (congrFun (congrFun (congrFun e_k11 x8) x9) x10).symm.trans h
        refine lv_aload_n C0.1 C0.2.1 dX7_sum_138 rfl (lv_at hl 0 rfl) ?_
        refine E_g_told C0 hE fk_X7_19 dX7_sum_139 ?_
        refine lv_aload_n C0.1 C0.2.1 dX7_sum_142 rfl (lv_at hl 0 rfl) ?_
        refine E_g_one C0 hE fk_X7_56 dX7_sum_143 ?_
        refine lv_iload C0.1 C0.2.1 dX7_sum_146 (lv_at hl 1 rfl) ?_
        obtain ⟨v12, e_v12, i_v12, h⟩ := rd_s hR h
        refine E_one_l C0 hE i_x8 e_v12 dX7_sum_148 ?_
        refine x_i2l C0 i_v12 dX7_sum_149 ?_
        refine lv_aload_n C0.1 C0.2.1 dX7_sum_150 rfl (lv_at hl 0 rfl) ?_
        refine E_g_one C0 hE fk_X7_56 dX7_sum_151 ?_
        refine lv_iload C0.1 C0.2.1 dX7_sum_154 (lv_at hl 2 rfl) ?_
        obtain ⟨v13, e_v13, i_v13, h⟩ := rd_s hR h
        refine E_one_l C0 hE i_x9 e_v13 dX7_sum_156 ?_
        refine x_i2l C0 i_v13 dX7_sum_157 ?_
        obtain ⟨v14, s15, h_v14, h⟩ := bnd_s h
        refine callV_v (rest := []) C0 hml hE (Row_rec C0 hE) (c_Row_tell1 l D g hR (in64_of i_v12) (in64_of i_v13) h_v14) kw_X7_162 ⟨Nat.le_of_ble_eq_true rfl, Nat.le_of_ble_eq_true rfl⟩ rfl hl.1 rfl (Nat.le_of_ble_eq_true rfl) dX7_sum_158 ⟨Nat.zero_le _, Nat.zero_le _⟩ (fun H locs hE hR => ?_)
        refine lv_aload_n C0.1 C0.2.1 dX7_sum_161 rfl (lv_at hl 0 rfl) ?_
        refine E_g_told C0 hE fk_X7_19 dX7_sum_162 ?_
        refine lv_iload C0.1 C0.2.1 dX7_sum_165 (lv_at hl 1 rfl) ?_
        refine x_i2l C0 i_x8 dX7_sum_167 ?_
        obtain ⟨v16, s17, h_v16, h⟩ := bnd_s h
        refine callV_v (rest := []) C0 hml hE (Row_rec C0 hE) (c_Row_add l D g hR (in64_of i_x8) h_v16) kw_X7_249 ⟨Nat.le_of_ble_eq_true rfl, Nat.le_of_ble_eq_true rfl⟩ rfl hl.1 rfl (Nat.le_of_ble_eq_true rfl) dX7_sum_168 ⟨Nat.zero_le _, Nat.zero_le _⟩ (fun H locs hE hR => ?_)
        refine lv_aload_n C0.1 C0.2.1 dX7_sum_171 rfl (lv_at hl 0 rfl) ?_
        refine E_g_told C0 hE fk_X7_19 dX7_sum_172 ?_
        refine lv_iload C0.1 C0.2.1 dX7_sum_175 (lv_at hl 2 rfl) ?_
        refine x_i2l C0 i_x9 dX7_sum_177 ?_
        obtain ⟨v18, s19, h_v18, h⟩ := bnd_s h
        refine callV_v (rest := []) C0 hml hE (Row_rec C0 hE) (c_Row_add l D g hR (in64_of i_x9) h_v18) kw_X7_249 ⟨Nat.le_of_ble_eq_true rfl, Nat.le_of_ble_eq_true rfl⟩ rfl hl.1 rfl (Nat.le_of_ble_eq_true rfl) dX7_sum_178 ⟨Nat.zero_le _, Nat.zero_le _⟩ (fun H locs hE hR => ?_)
        refine lv_iload C0.1 C0.2.1 dX7_sum_181 (lv_at hl 3 rfl) ?_
        exact ret_i (wf := wE g) C0 hr hlk hE h i_x10 hR dX7_sum_183
      have hL62 : ∀ (n : Nat) (x20 : Int) (i_x20 : in32 x20) (x21 : Int) (i_x21 : in32 x21) (x22 : Int) (i_x22 : in32 x22) (x23 : Int) (i_x23 : in32 x23) (H : Heap) (locs : List Loc) (ls : Array Slot), EW D (va_A (wE g σ) sz) s.heap (wE g s7) H locs → lv_has ls 8 [(0, .ref (g.2 0)), (3, .int (I p3)), (4, .int (I x20)), (5, .int (I x21)), (6, .int (I x22)), (7, .int (I x23))] → E_sum_L62 k11 s7 p3 n x20 x21 x22 x23 = some (r, σr) → W p l e (rmk 5) s m args below meth c H locs 0 0 (MQ below (QCi D (wE g σr) r (in32 r ∧ R32 σr) (va_A (wE g σ) sz)) args s 0 0 (va_A (wE g σ) sz)) (F0 m 62 ls []) := by
        intro n
        induction n with
        | zero => intros; rename_i h; cases h
        | succ n ih24 =>
          intro x20 i_x20 x21 i_x21 x22 i_x22 x23 i_x23 H locs ls hE hl h
          unfold E_sum_L62 at h
          refine lv_iload C0.1 C0.2.1 dX7_sum_62 (lv_at hl 5 rfl) ?_
          refine lv_iload_n C0.1 C0.2.1 dX7_sum_64 rfl (lv_at hl 1 rfl) ?_
          refine x_icmp_ge C0 i_x23 i_p3 dX7_sum_65 (tgt := 138) (by decide) (fun c9 => ?_) (fun c9 => ?_)
          · have h := ite_f c9 h
            exact h_k11 x20 i_x20 x21 i_x21 x22 i_x22 _ _ _ hE (lv_sub hl [0, 2, 3, 4] rfl) h
          · have h := ite_t c9 h
            refine lv_iload C0.1 C0.2.1 dX7_sum_68 (lv_at hl 4 rfl) ?_
            refine lv_aload_n C0.1 C0.2.1 dX7_sum_70 rfl (lv_at hl 0 rfl) ?_
            refine E_g_one C0 hE fk_X7_56 dX7_sum_71 ?_
            refine lv_iload C0.1 C0.2.1 dX7_sum_74 (lv_at hl 5 rfl) ?_
            obtain ⟨v25, e_v25, i_v25, h⟩ := rd_s hR h
            refine E_one_l C0 hE i_x23 e_v25 dX7_sum_76 ?_
            obtain ⟨v26, e_v26, i_v26, h⟩ := oadd_s h
            refine x_add C0 e_v26 dX7_sum_77 ?_
            refine lv_istore (lv' := [(6, .int (I v26)), (0, .ref (g.2 0)), (3, .int (I p3)), (4, .int (I x20)), (5, .int (I x21)), (7, .int (I x23))]) C0.1 C0.2.1 dX7_sum_78 hl (by decide) rfl (fun ls hl => ?_)
            refine lv_aload_n C0.1 C0.2.1 dX7_sum_80 rfl (lv_at hl 1 rfl) ?_
            refine E_g_one C0 hE fk_X7_56 dX7_sum_81 ?_
            refine lv_iload C0.1 C0.2.1 dX7_sum_84 (lv_at hl 5 rfl) ?_
            obtain ⟨v27, e_v27, i_v27, h⟩ := rd_s hR h
            refine E_one_l C0 hE i_x23 e_v27 dX7_sum_86 ?_
            refine lv_aload_n C0.1 C0.2.1 dX7_sum_87 rfl (lv_at hl 1 rfl) ?_
            refine E_g_one C0 hE fk_X7_56 dX7_sum_88 ?_
            refine lv_iload C0.1 C0.2.1 dX7_sum_91 (lv_at hl 3 rfl) ?_
            obtain ⟨v28, e_v28, i_v28, h⟩ := rd_s hR h
            refine E_one_l C0 hE i_x20 e_v28 dX7_sum_93 ?_
            obtain ⟨v29, e_v29, i_v29, h⟩ := oif_s h
            have kk_v29 : W p l e (rmk 5) s m args below meth c H locs 0 0 (MQ below (QCi D (wE g σr) r (in32 r ∧ R32 σr) (va_A (wE g σ) sz)) args s 0 0 (va_A (wE g σ) sz)) (F0 m 104 ls [.int (I v29)]) := by
              refine lv_istore (lv' := [(4, .int (I v29)), (6, .int (I v26)), (0, .ref (g.2 0)), (3, .int (I p3)), (5, .int (I x21)), (7, .int (I x23))]) C0.1 C0.2.1 dX7_sum_104 hl (by decide) rfl (fun ls hl => ?_)
              refine lv_aload_n C0.1 C0.2.1 dX7_sum_106 rfl (lv_at hl 2 rfl) ?_
              refine E_g_one C0 hE fk_X7_56 dX7_sum_107 ?_
              refine lv_iload C0.1 C0.2.1 dX7_sum_110 (lv_at hl 5 rfl) ?_
              obtain ⟨v30, e_v30, i_v30, h⟩ := rd_s hR h
              refine E_one_l C0 hE i_x23 e_v30 dX7_sum_112 ?_
              refine lv_aload_n C0.1 C0.2.1 dX7_sum_113 rfl (lv_at hl 2 rfl) ?_
              refine E_g_one C0 hE fk_X7_56 dX7_sum_114 ?_
              refine lv_iload C0.1 C0.2.1 dX7_sum_117 (lv_at hl 4 rfl) ?_
              obtain ⟨v31, e_v31, i_v31, h⟩ := rd_s hR h
              refine E_one_l C0 hE i_x21 e_v31 dX7_sum_119 ?_
              obtain ⟨v32, e_v32, i_v32, h⟩ := oif_s h
              have kk_v32 : W p l e (rmk 5) s m args below meth c H locs 0 0 (MQ below (QCi D (wE g σr) r (in32 r ∧ R32 σr) (va_A (wE g σ) sz)) args s 0 0 (va_A (wE g σ) sz)) (F0 m 130 ls [.int (I v32)]) := by
                refine lv_istore (lv' := [(5, .int (I v32)), (4, .int (I v29)), (6, .int (I v26)), (0, .ref (g.2 0)), (3, .int (I p3)), (7, .int (I x23))]) C0.1 C0.2.1 dX7_sum_130 hl (by decide) rfl (fun ls hl => ?_)
                obtain ⟨v33, e_v33, i_v33, h⟩ := oadd_s h
                refine x_iinc (lv' := [(7, .int (I v33)), (5, .int (I v32)), (4, .int (I v29)), (6, .int (I v26)), (0, .ref (g.2 0)), (3, .int (I p3))]) C0 dX7_sum_132 hl (k := 5) rfl e_v33 (by decide) rfl (fun ls hl => ?_)
                refine x_goto C0 dX7_sum_135 (tgt := 62) (by decide) ?_
                exact ih24 v29 i_v29 v32 i_v32 v26 i_v26 v33 i_v33 _ _ _ hE (lv_sub hl [4, 5, 2, 1, 3, 0] rfl) h
              refine x_icmp_le C0 i_v30 i_v31 dX7_sum_120 (tgt := 128) (by decide) (fun c9 => ?_) (fun c9 => ?_)
              · have e9 := e_v32.trans (if_neg c9)
                refine lv_iload C0.1 C0.2.1 dX7_sum_128 (lv_at hl 4 rfl) ?_
                rw [e9] at kk_v32; exact kk_v32
              · have e9 := e_v32.trans (if_pos c9)
                refine lv_iload C0.1 C0.2.1 dX7_sum_123 (lv_at hl 5 rfl) ?_
                refine x_goto C0 dX7_sum_125 (tgt := 130) (by decide) ?_
                rw [e9] at kk_v32; exact kk_v32
            refine x_icmp_ge C0 i_v27 i_v28 dX7_sum_94 (tgt := 102) (by decide) (fun c9 => ?_) (fun c9 => ?_)
            · have e9 := e_v29.trans (if_neg c9)
              refine lv_iload C0.1 C0.2.1 dX7_sum_102 (lv_at hl 3 rfl) ?_
              rw [e9] at kk_v29; exact kk_v29
            · have e9 := e_v29.trans (if_pos c9)
              refine lv_iload C0.1 C0.2.1 dX7_sum_97 (lv_at hl 5 rfl) ?_
              refine x_goto C0 dX7_sum_99 (tgt := 104) (by decide) ?_
              rw [e9] at kk_v29; exact kk_v29
      exact hL62 FU p2 i_p2 p2 i_p2 0 lit_0 p2 i_p2 _ _ _ hE (lv_sub hl [4, 7, 3, 2, 1, 0] rfl) h
    · have h := ite_t c9 h
      refine lv_iconst (v := I 0) C0.1 C0.2.1 dX7_sum_48 rfl ?_
      exact ret_i (wf := wE g) C0 hr hlk hE h lit_0 hR dX7_sum_49
  · have h := ite_t c9 h
    refine x_ldc (v := (-1000000)) C0 ck_X7_252 (by decide +kernel) dX7_sum_10 ?_
    exact ret_i (wf := wE g) C0 hr hlk hE h lit_m1000000 hR dX7_sum_12
set_option maxRecDepth 100000 in
set_option maxHeartbeats 4000000 in
theorem c_Pool_forget (l : Launch) (D : va_G) (g : Ad) {σ σr : St} {r : Int} (hR : R32 σ) (h : Pool_forget σ = some (r, σr)) : CtV l D g yX0_forget cX0_forget 1 none 1 (wE g σ) (wE g σr) [.ref (g.2 1)] (R32 σr) := by
  intro sz
  refine met_of (by decide) (Nat.le_of_ble_eq_true rfl) (fun p e s m args below meth c ls H locs C0 hml hr hlk hE hl => ?_)
  have C0 : CX p c cX0_forget m s args D g RX0 := C0
  have hl : lv_has ls 1 [(0, .ref (g.2 1))] := hl
  unfold Pool_forget at h
  refine lv_aload_n C0.1 C0.2.1 dX0_forget_0 rfl (lv_at hl 0 rfl) ?_
  refine lv_dup C0.1 C0.2.1 dX0_forget_1 rfl ?_
  obtain ⟨v1, e_v1, i_v1, h⟩ := gf_s hR h
  refine Pool_g_base C0 hE e_v1 fk_X0_40 dX0_forget_2 ?_
  refine lv_sipush (v := I 256) C0.1 C0.2.1 dX0_forget_5 (by decide +kernel) ?_
  obtain ⟨v2, e_v2, i_v2, h⟩ := oadd_s h
  refine x_add C0 e_v2 dX0_forget_8 ?_
  obtain ⟨s3, e_s3, hR, h⟩ := pf_s hR i_v2 h
  refine Pool_p_base C0 hE e_s3 fk_X0_40 dX0_forget_9 (fun H locs hE => ?_)
  exact ret_v (wf := wE g) C0 hr hlk hE h hR dX0_forget_12
set_option maxRecDepth 100000 in
set_option maxHeartbeats 4000000 in
theorem c_Pool_seenOf (l : Launch) (D : va_G) (g : Ad) {σ : St} {p1 r : Int} (hR : R32 σ) (i_p1 : in32 p1) (h : Pool_seenOf σ p1 = some r) : CtI l D g yX0_seenOf cX0_seenOf 2 (some .int) 1 (wE g σ) (wE g σ) [.ref (g.2 1), .int (I p1)] r (in32 r) := by
  intro sz
  refine met_of (by decide) (Nat.le_of_ble_eq_true rfl) (fun p e s m args below meth c ls H locs C0 hml hr hlk hE hl => ?_)
  have C0 : CX p c cX0_seenOf m s args D g RX0 := C0
  have hl : lv_has ls 2 [(0, .ref (g.2 1)), (1, .int (I p1))] := hl
  unfold Pool_seenOf at h
  refine lv_iconst (v := I 0) C0.1 C0.2.1 dX0_seenOf_0 rfl ?_
  refine lv_aload_n C0.1 C0.2.1 dX0_seenOf_1 rfl (lv_at hl 0 rfl) ?_
  refine Pool_g_seen C0 hE fk_X0_24 dX0_seenOf_2 ?_
  refine lv_iload_n C0.1 C0.2.1 dX0_seenOf_5 rfl (lv_at hl 1 rfl) ?_
  obtain ⟨v1, e_v1, i_v1, h⟩ := rd_s hR h
  refine Pool_seen_l C0 hE i_p1 e_v1 dX0_seenOf_6 ?_
  refine lv_aload_n C0.1 C0.2.1 dX0_seenOf_7 rfl (lv_at hl 0 rfl) ?_
  obtain ⟨v2, e_v2, i_v2, h⟩ := gf_s hR h
  refine Pool_g_base C0 hE e_v2 fk_X0_40 dX0_seenOf_8 ?_
  obtain ⟨v3, e_v3, i_v3, h⟩ := osub_s h
  refine x_sub C0 e_v3 dX0_seenOf_11 ?_
  obtain ⟨v4, e_v4, i_v4, h⟩ := opure_s h (imax_in lit_0 i_v3)
  refine x_max C0 kw_X0_93 (hml.trans hl.1.symm) lit_0 i_v3 e_v4 ⟨Nat.le_of_ble_eq_true rfl, Nat.le_of_ble_eq_true rfl⟩ ⟨Nat.zero_le _, Nat.zero_le _⟩ dX0_seenOf_12 ?_
  exact pret_i C0 hr hlk hE h i_v4 dX0_seenOf_15
set_option maxRecDepth 100000 in
set_option maxHeartbeats 4000000 in
theorem c_Pool_seeAt (l : Launch) (D : va_G) (g : Ad) {σ σr : St} {p1 p2 r : Int} (hR : R32 σ) (i_p1 : in32 p1) (i_p2 : in32 p2) (h : Pool_seeAt σ p1 p2 = some (r, σr)) : CtI l D g yX0_seeAt cX0_seeAt 5 (some .int) 2 (wE g σ) (wE g σr) [.ref (g.2 1), .int (I p1), .int (I p2)] r (in32 r ∧ R32 σr) := by
  intro sz
  refine met_of (by decide) (Nat.le_of_ble_eq_true rfl) (fun p e s m args below meth c ls H locs C0 hml hr hlk hE hl => ?_)
  have C0 : CX p c cX0_seeAt m s args D g RX0 := C0
  have hl : lv_has ls 5 [(0, .ref (g.2 1)), (1, .int (I p1)), (2, .int (I p2))] := hl
  unfold Pool_seeAt at h
  refine lv_aload_n C0.1 C0.2.1 dX0_seeAt_0 rfl (lv_at hl 0 rfl) ?_
  refine Pool_g_at C0 hE fk_X0_27 dX0_seeAt_1 ?_
  refine lv_iload_n C0.1 C0.2.1 dX0_seeAt_4 rfl (lv_at hl 1 rfl) ?_
  obtain ⟨v1, e_v1, i_v1, h⟩ := rd_s hR h
  refine Pool_at_l C0 hE i_p1 e_v1 dX0_seeAt_5 ?_
  refine lv_istore_n (lv' := [(3, .int (I v1)), (0, .ref (g.2 1)), (1, .int (I p1)), (2, .int (I p2))]) C0.1 C0.2.1 dX0_seeAt_6 rfl hl (by decide) rfl (fun ls hl => ?_)
  refine lv_iload_n C0.1 C0.2.1 dX0_seeAt_7 rfl (lv_at hl 0 rfl) ?_
  obtain ⟨v2, h_v2, h⟩ := bndp_s h
  refine callS_i (rest := []) C0 hml hE (c_Pool_isNode l D g (σ := σ) i_v1 h_v2) kw_X0_53 ⟨Nat.le_of_ble_eq_true rfl, Nat.le_of_ble_eq_true rfl⟩ rfl hl.1 rfl (Nat.le_of_ble_eq_true rfl) dX0_seeAt_8 ⟨Nat.zero_le _, Nat.zero_le _⟩ (fun H locs hE i_v2 => ?_)
  refine x_if_ne C0 i_v2 dX0_seeAt_11 (tgt := 16) (by decide) (fun c9 => ?_) (fun c9 => ?_)
  · have h := ite_f c9 h
    refine lv_aload_n C0.1 C0.2.1 dX0_seeAt_16 rfl (lv_at hl 1 rfl) ?_
    refine lv_iload_n C0.1 C0.2.1 dX0_seeAt_17 rfl (lv_at hl 0 rfl) ?_
    obtain ⟨v3, h_v3, h⟩ := bndp_s h
    refine callV_i (rest := []) C0 hml hE (Pool_rec C0 hE) (c_Pool_seenOf l D g hR i_v1 h_v3) kw_X0_90 ⟨Nat.le_of_ble_eq_true rfl, Nat.le_of_ble_eq_true rfl⟩ rfl hl.1 rfl (Nat.le_of_ble_eq_true rfl) dX0_seeAt_18 ⟨Nat.zero_le _, Nat.zero_le _⟩ (fun H locs hE i_v3 => ?_)
    refine lv_istore (lv' := [(4, .int (I v3)), (3, .int (I v1)), (0, .ref (g.2 1)), (1, .int (I p1)), (2, .int (I p2))]) C0.1 C0.2.1 dX0_seeAt_21 hl (by decide) rfl (fun ls hl => ?_)
    refine lv_aload_n C0.1 C0.2.1 dX0_seeAt_23 rfl (lv_at hl 2 rfl) ?_
    refine Pool_g_seen C0 hE fk_X0_24 dX0_seeAt_24 ?_
    refine lv_iload_n C0.1 C0.2.1 dX0_seeAt_27 rfl (lv_at hl 1 rfl) ?_
    refine lv_aload_n C0.1 C0.2.1 dX0_seeAt_28 rfl (lv_at hl 2 rfl) ?_
    obtain ⟨v4, e_v4, i_v4, h⟩ := gf_s hR h
    refine Pool_g_base C0 hE e_v4 fk_X0_40 dX0_seeAt_29 ?_
    refine lv_iload C0.1 C0.2.1 dX0_seeAt_32 (lv_at hl 0 rfl) ?_
    refine lv_iload_n C0.1 C0.2.1 dX0_seeAt_34 rfl (lv_at hl 4 rfl) ?_
    obtain ⟨v5, e_v5, i_v5, h⟩ := opure_s h (bor_in _ _)
    refine x_or C0 e_v5 dX0_seeAt_35 ?_
    obtain ⟨v6, e_v6, i_v6, h⟩ := oadd_s h
    refine x_add C0 e_v6 dX0_seeAt_36 ?_
    obtain ⟨s7, e_s7, hR, h⟩ := wr_s hR i_v6 h
    refine Pool_seen_st C0 hE i_v1 e_s7 dX0_seeAt_37 (fun H locs hE => ?_)
    refine lv_iload C0.1 C0.2.1 dX0_seeAt_38 (lv_at hl 0 rfl) ?_
    exact ret_i (wf := wE g) C0 hr hlk hE h i_v3 hR dX0_seeAt_40
  · have h := ite_t c9 h
    refine lv_iconst (v := I 0) C0.1 C0.2.1 dX0_seeAt_14 rfl ?_
    exact ret_i (wf := wE g) C0 hr hlk hE h lit_0 hR dX0_seeAt_15
set_option maxRecDepth 100000 in
set_option maxHeartbeats 4000000 in
theorem c_E_seeAll (l : Launch) (D : va_G) (g : Ad) {σ σr : St} {p1 p2 r : Int} (hR : R32 σ) (i_p1 : in32 p1) (i_p2 : in32 p2) (h : E_seeAll σ p1 p2 = some (r, σr)) : CtV l D g yX7_seeAll cX7_seeAll 4 none 4 (wE g σ) (wE g σr) [.ref (g.2 0), .int (I p1), .int (I p2)] (R32 σr) := by
  intro sz
  refine met_of (by decide) (Nat.le_of_ble_eq_true rfl) (fun p e s m args below meth c ls H locs C0 hml hr hlk hE hl => ?_)
  have C0 : CX p c cX7_seeAll m s args D g RX7 := C0
  have hl : lv_has ls 4 [(0, .ref (g.2 0)), (1, .int (I p1)), (2, .int (I p2))] := hl
  unfold E_seeAll at h
  refine lv_aload_n C0.1 C0.2.1 dX7_seeAll_0 rfl (lv_at hl 0 rfl) ?_
  refine E_g_pool C0 hE fk_X7_10 dX7_seeAll_1 ?_
  refine lv_aload_n C0.1 C0.2.1 dX7_seeAll_4 rfl (lv_at hl 0 rfl) ?_
  refine E_g_trees C0 hE fk_X7_49 dX7_seeAll_5 ?_
  refine lv_iload_n C0.1 C0.2.1 dX7_seeAll_8 rfl (lv_at hl 1 rfl) ?_
  obtain ⟨v1, e_v1, i_v1, h⟩ := rd_s hR h
  refine E_trees_l C0 hE i_p1 e_v1 dX7_seeAll_9 ?_
  refine lv_aload_n C0.1 C0.2.1 dX7_seeAll_10 rfl (lv_at hl 0 rfl) ?_
  refine E_g_sizes C0 hE fk_X7_53 dX7_seeAll_11 ?_
  refine lv_iload_n C0.1 C0.2.1 dX7_seeAll_14 rfl (lv_at hl 1 rfl) ?_
  obtain ⟨v2, e_v2, i_v2, h⟩ := rd_s hR h
  refine E_sizes_l C0 hE i_p1 e_v2 dX7_seeAll_15 ?_
  obtain ⟨v3, s4, h_v3, h⟩ := bnd_s h
  refine callV_v (rest := []) C0 hml hE (Pool_rec C0 hE) (c_Pool_spread l D g hR i_v1 i_v2 h_v3) kw_X7_280 ⟨Nat.le_of_ble_eq_true rfl, Nat.le_of_ble_eq_true rfl⟩ rfl hl.1 rfl (Nat.le_of_ble_eq_true rfl) dX7_seeAll_16 ⟨Nat.zero_le _, Nat.zero_le _⟩ (fun H locs hE hR => ?_)
  refine lv_iconst (v := I 0) C0.1 C0.2.1 dX7_seeAll_19 rfl ?_
  refine lv_istore_n (lv' := [(3, .int (I 0)), (0, .ref (g.2 0)), (1, .int (I p1)), (2, .int (I p2))]) C0.1 C0.2.1 dX7_seeAll_20 rfl hl (by decide) rfl (fun ls hl => ?_)
  have hL21 : ∀ (n : Nat) (s7 : St) (hR : R32 s7) (x5 : Int) (i_x5 : in32 x5) (H : Heap) (locs : List Loc) (ls : Array Slot), EW D (va_A (wE g σ) sz) s.heap (wE g s7) H locs → lv_has ls 4 [(0, .ref (g.2 0)), (1, .int (I p1)), (2, .int (I p2)), (3, .int (I x5))] → E_seeAll_L21 p1 p2 n s7 x5 = some (r, σr) → W p l e (rmk 4) s m args below meth c H locs 0 0 (MQ below (QCv D (wE g σr) (R32 σr) (va_A (wE g σ) sz)) args s 0 0 (va_A (wE g σ) sz)) (F0 m 21 ls []) := by
    intro n
    induction n with
    | zero => intros; rename_i h; cases h
    | succ n ih6 =>
      intro s7 hR x5 i_x5 H locs ls hE hl h
      unfold E_seeAll_L21 at h
      refine lv_iload_n C0.1 C0.2.1 dX7_seeAll_21 rfl (lv_at hl 3 rfl) ?_
      refine lv_aload_n C0.1 C0.2.1 dX7_seeAll_22 rfl (lv_at hl 0 rfl) ?_
      refine E_g_sizes C0 hE fk_X7_53 dX7_seeAll_23 ?_
      refine lv_iload_n C0.1 C0.2.1 dX7_seeAll_26 rfl (lv_at hl 1 rfl) ?_
      obtain ⟨v8, e_v8, i_v8, h⟩ := rd_s hR h
      refine E_sizes_l C0 hE i_p1 e_v8 dX7_seeAll_27 ?_
      refine x_icmp_ge C0 i_x5 i_v8 dX7_seeAll_28 (tgt := 47) (by decide) (fun c9 => ?_) (fun c9 => ?_)
      · have h := ite_f c9 h
        exact ret_v (wf := wE g) C0 hr hlk hE h hR dX7_seeAll_47
      · have h := ite_t c9 h
        refine lv_aload_n C0.1 C0.2.1 dX7_seeAll_31 rfl (lv_at hl 0 rfl) ?_
        refine E_g_pool C0 hE fk_X7_10 dX7_seeAll_32 ?_
        refine lv_iload_n C0.1 C0.2.1 dX7_seeAll_35 rfl (lv_at hl 3 rfl) ?_
        refine lv_iload_n C0.1 C0.2.1 dX7_seeAll_36 rfl (lv_at hl 2 rfl) ?_
        obtain ⟨v9, s10, h_v9, h⟩ := bnd_s h
        refine callV_i (rest := []) C0 hml hE (Pool_rec C0 hE) (c_Pool_seeAt l D g hR i_x5 i_p2 h_v9) kw_X7_289 ⟨Nat.le_of_ble_eq_true rfl, Nat.le_of_ble_eq_true rfl⟩ rfl hl.1 rfl (Nat.le_of_ble_eq_true rfl) dX7_seeAll_37 ⟨Nat.zero_le _, Nat.zero_le _⟩ (fun H locs hE ⟨i_v9, hR⟩ => ?_)
        refine lv_pop C0.1 C0.2.1 dX7_seeAll_40 rfl ?_
        obtain ⟨v11, e_v11, i_v11, h⟩ := oadd_s h
        refine x_iinc (lv' := [(3, .int (I v11)), (0, .ref (g.2 0)), (1, .int (I p1)), (2, .int (I p2))]) C0 dX7_seeAll_41 hl (k := 3) rfl e_v11 (by decide) rfl (fun ls hl => ?_)
        refine x_goto C0 dX7_seeAll_44 (tgt := 21) (by decide) ?_
        exact ih6 s10 hR v11 i_v11 _ _ _ hE (lv_sub hl [1, 2, 3, 0] rfl) h
  exact hL21 FU s4 hR 0 lit_0 _ _ _ hE (lv_sub hl [1, 2, 3, 0] rfl) h
set_option maxRecDepth 100000 in
set_option maxHeartbeats 4000000 in
theorem c_E_nodesInBoth (l : Launch) (D : va_G) (g : Ad) {σ σr : St} {p1 p2 r : Int} (hR : R32 σ) (i_p1 : in32 p1) (i_p2 : in32 p2) (h : E_nodesInBoth σ p1 p2 = some (r, σr)) : CtI l D g yX7_nodesInBoth cX7_nodesInBoth 5 (some .int) 5 (wE g σ) (wE g σr) [.ref (g.2 0), .int (I p1), .int (I p2)] r (in32 r ∧ R32 σr) := by
  intro sz
  refine met_of (by decide) (Nat.le_of_ble_eq_true rfl) (fun p e s m args below meth c ls H locs C0 hml hr hlk hE hl => ?_)
  have C0 : CX p c cX7_nodesInBoth m s args D g RX7 := C0
  have hl : lv_has ls 5 [(0, .ref (g.2 0)), (1, .int (I p1)), (2, .int (I p2))] := hl
  unfold E_nodesInBoth at h
  refine lv_aload_n C0.1 C0.2.1 dX7_nodesInBoth_0 rfl (lv_at hl 0 rfl) ?_
  refine E_g_pool C0 hE fk_X7_10 dX7_nodesInBoth_1 ?_
  obtain ⟨v1, s2, h_v1, h⟩ := bnd_s h
  refine callV_v (rest := []) C0 hml hE (Pool_rec C0 hE) (c_Pool_forget l D g hR h_v1) kw_X7_277 ⟨Nat.le_of_ble_eq_true rfl, Nat.le_of_ble_eq_true rfl⟩ rfl hl.1 rfl (Nat.le_of_ble_eq_true rfl) dX7_nodesInBoth_4 ⟨Nat.zero_le _, Nat.zero_le _⟩ (fun H locs hE hR => ?_)
  refine lv_aload_n C0.1 C0.2.1 dX7_nodesInBoth_7 rfl (lv_at hl 0 rfl) ?_
  refine lv_iload_n C0.1 C0.2.1 dX7_nodesInBoth_8 rfl (lv_at hl 1 rfl) ?_
  refine lv_iconst (v := I 1) C0.1 C0.2.1 dX7_nodesInBoth_9 rfl ?_
  obtain ⟨v3, s4, h_v3, h⟩ := bnd_s h
  refine callV_v (rest := []) C0 hml hE (E_rec C0 hE) (c_E_seeAll l D g hR i_p1 lit_1 h_v3) kw_X7_297 ⟨Nat.le_of_ble_eq_true rfl, Nat.le_of_ble_eq_true rfl⟩ rfl hl.1 rfl (Nat.le_of_ble_eq_true rfl) dX7_nodesInBoth_10 ⟨Nat.zero_le _, Nat.zero_le _⟩ (fun H locs hE hR => ?_)
  refine lv_aload_n C0.1 C0.2.1 dX7_nodesInBoth_13 rfl (lv_at hl 0 rfl) ?_
  refine E_g_pool C0 hE fk_X7_10 dX7_nodesInBoth_14 ?_
  refine lv_aload_n C0.1 C0.2.1 dX7_nodesInBoth_17 rfl (lv_at hl 0 rfl) ?_
  refine E_g_trees C0 hE fk_X7_49 dX7_nodesInBoth_18 ?_
  refine lv_iload_n C0.1 C0.2.1 dX7_nodesInBoth_21 rfl (lv_at hl 2 rfl) ?_
  obtain ⟨v5, e_v5, i_v5, h⟩ := rd_s hR h
  refine E_trees_l C0 hE i_p2 e_v5 dX7_nodesInBoth_22 ?_
  refine lv_aload_n C0.1 C0.2.1 dX7_nodesInBoth_23 rfl (lv_at hl 0 rfl) ?_
  refine E_g_sizes C0 hE fk_X7_53 dX7_nodesInBoth_24 ?_
  refine lv_iload_n C0.1 C0.2.1 dX7_nodesInBoth_27 rfl (lv_at hl 2 rfl) ?_
  obtain ⟨v6, e_v6, i_v6, h⟩ := rd_s hR h
  refine E_sizes_l C0 hE i_p2 e_v6 dX7_nodesInBoth_28 ?_
  obtain ⟨v7, s8, h_v7, h⟩ := bnd_s h
  refine callV_v (rest := []) C0 hml hE (Pool_rec C0 hE) (c_Pool_spread l D g hR i_v5 i_v6 h_v7) kw_X7_280 ⟨Nat.le_of_ble_eq_true rfl, Nat.le_of_ble_eq_true rfl⟩ rfl hl.1 rfl (Nat.le_of_ble_eq_true rfl) dX7_nodesInBoth_29 ⟨Nat.zero_le _, Nat.zero_le _⟩ (fun H locs hE hR => ?_)
  refine lv_iconst (v := I 0) C0.1 C0.2.1 dX7_nodesInBoth_32 rfl ?_
  refine lv_istore_n (lv' := [(3, .int (I 0)), (0, .ref (g.2 0)), (1, .int (I p1)), (2, .int (I p2))]) C0.1 C0.2.1 dX7_nodesInBoth_33 rfl hl (by decide) rfl (fun ls hl => ?_)
  refine lv_iconst (v := I 0) C0.1 C0.2.1 dX7_nodesInBoth_34 rfl ?_
  refine lv_istore (lv' := [(4, .int (I 0)), (3, .int (I 0)), (0, .ref (g.2 0)), (1, .int (I p1)), (2, .int (I p2))]) C0.1 C0.2.1 dX7_nodesInBoth_35 hl (by decide) rfl (fun ls hl => ?_)
  have hL37 : ∀ (n : Nat) (s12 : St) (hR : R32 s12) (x9 : Int) (i_x9 : in32 x9) (x10 : Int) (i_x10 : in32 x10) (H : Heap) (locs : List Loc) (ls : Array Slot), EW D (va_A (wE g σ) sz) s.heap (wE g s12) H locs → lv_has ls 5 [(0, .ref (g.2 0)), (2, .int (I p2)), (3, .int (I x9)), (4, .int (I x10))] → E_nodesInBoth_L37 p2 n s12 x9 x10 = some (r, σr) → W p l e (rmk 5) s m args below meth c H locs 0 0 (MQ below (QCi D (wE g σr) r (in32 r ∧ R32 σr) (va_A (wE g σ) sz)) args s 0 0 (va_A (wE g σ) sz)) (F0 m 37 ls []) := by
    intro n
    induction n with
    | zero => intros; rename_i h; cases h
    | succ n ih11 =>
      intro s12 hR x9 i_x9 x10 i_x10 H locs ls hE hl h
      unfold E_nodesInBoth_L37 at h
      refine lv_iload C0.1 C0.2.1 dX7_nodesInBoth_37 (lv_at hl 3 rfl) ?_
      refine lv_aload_n C0.1 C0.2.1 dX7_nodesInBoth_39 rfl (lv_at hl 0 rfl) ?_
      refine E_g_sizes C0 hE fk_X7_53 dX7_nodesInBoth_40 ?_
      refine lv_iload_n C0.1 C0.2.1 dX7_nodesInBoth_43 rfl (lv_at hl 1 rfl) ?_
      obtain ⟨v13, e_v13, i_v13, h⟩ := rd_s hR h
      refine E_sizes_l C0 hE i_p2 e_v13 dX7_nodesInBoth_44 ?_
      refine x_icmp_ge C0 i_x10 i_v13 dX7_nodesInBoth_45 (tgt := 76) (by decide) (fun c9 => ?_) (fun c9 => ?_)
      · have h := ite_f c9 h
        refine lv_iload_n C0.1 C0.2.1 dX7_nodesInBoth_76 rfl (lv_at hl 2 rfl) ?_
        exact ret_i (wf := wE g) C0 hr hlk hE h i_x9 hR dX7_nodesInBoth_77
      · have h := ite_t c9 h
        refine lv_iload_n C0.1 C0.2.1 dX7_nodesInBoth_48 rfl (lv_at hl 2 rfl) ?_
        refine lv_aload_n C0.1 C0.2.1 dX7_nodesInBoth_49 rfl (lv_at hl 0 rfl) ?_
        refine E_g_pool C0 hE fk_X7_10 dX7_nodesInBoth_50 ?_
        refine lv_iload C0.1 C0.2.1 dX7_nodesInBoth_53 (lv_at hl 3 rfl) ?_
        refine lv_iconst (v := I 2) C0.1 C0.2.1 dX7_nodesInBoth_55 rfl ?_
        obtain ⟨v14, s15, h_v14, h⟩ := bnd_s h
        refine callV_i (rest := [.int (I x9)]) C0 hml hE (Pool_rec C0 hE) (c_Pool_seeAt l D g hR i_x10 lit_2 h_v14) kw_X7_289 ⟨Nat.le_of_ble_eq_true rfl, Nat.le_of_ble_eq_true rfl⟩ rfl hl.1 rfl (Nat.le_of_ble_eq_true rfl) dX7_nodesInBoth_56 ⟨Nat.zero_le _, Nat.zero_le _⟩ (fun H locs hE ⟨i_v14, hR⟩ => ?_)
        refine lv_iconst (v := I 1) C0.1 C0.2.1 dX7_nodesInBoth_59 rfl ?_
        obtain ⟨v16, e_v16, i_v16, h⟩ := oif_s h
        have kk_v16 : W p l e (rmk 5) s m args below meth c H locs 0 0 (MQ below (QCi D (wE g σr) r (in32 r ∧ R32 σr) (va_A (wE g σ) sz)) args s 0 0 (va_A (wE g σ) sz)) (F0 m 68 ls [.int (I v16), .int (I x9)]) := by
          obtain ⟨v17, e_v17, i_v17, h⟩ := oadd_s h
          refine x_add C0 e_v17 dX7_nodesInBoth_68 ?_
          refine lv_istore_n (lv' := [(3, .int (I v17)), (0, .ref (g.2 0)), (2, .int (I p2)), (4, .int (I x10))]) C0.1 C0.2.1 dX7_nodesInBoth_69 rfl hl (by decide) rfl (fun ls hl => ?_)
          obtain ⟨v18, e_v18, i_v18, h⟩ := oadd_s h
          refine x_iinc (lv' := [(4, .int (I v18)), (3, .int (I v17)), (0, .ref (g.2 0)), (2, .int (I p2))]) C0 dX7_nodesInBoth_70 hl (k := 3) rfl e_v18 (by decide) rfl (fun ls hl => ?_)
          refine x_goto C0 dX7_nodesInBoth_73 (tgt := 37) (by decide) ?_
          exact ih11 s15 hR v17 i_v17 v18 i_v18 _ _ _ hE (lv_sub hl [2, 3, 1, 0] rfl) h
        refine x_icmp_ne C0 i_v14 lit_1 dX7_nodesInBoth_60 (tgt := 67) (by decide) (fun c9 => ?_) (fun c9 => ?_)
        · have e9 := e_v16.trans (if_neg c9)
          refine lv_iconst (v := I 0) C0.1 C0.2.1 dX7_nodesInBoth_67 rfl ?_
          rw [e9] at kk_v16; exact kk_v16
        · have e9 := e_v16.trans (if_pos c9)
          refine lv_iconst (v := I 1) C0.1 C0.2.1 dX7_nodesInBoth_63 rfl ?_
          refine x_goto C0 dX7_nodesInBoth_64 (tgt := 68) (by decide) ?_
          rw [e9] at kk_v16; exact kk_v16
  exact hL37 FU s8 hR 0 lit_0 0 lit_0 _ _ _ hE (lv_sub hl [2, 4, 1, 0] rfl) h
set_option maxRecDepth 100000 in
set_option maxHeartbeats 4000000 in
theorem c_E_same (l : Launch) (D : va_G) (g : Ad) {σ σr : St} {p1 p2 r : Int} (hR : R32 σ) (i_p1 : in32 p1) (i_p2 : in32 p2) (h : E_same σ p1 p2 = some (r, σr)) : CtI l D g yX7_same cX7_same 6 (some .int) 6 (wE g σ) (wE g σr) [.ref (g.2 0), .int (I p1), .int (I p2)] r (in32 r ∧ R32 σr) := by
  intro sz
  refine met_of (by decide) (Nat.le_of_ble_eq_true rfl) (fun p e s m args below meth c ls H locs C0 hml hr hlk hE hl => ?_)
  have C0 : CX p c cX7_same m s args D g RX7 := C0
  have hl : lv_has ls 6 [(0, .ref (g.2 0)), (1, .int (I p1)), (2, .int (I p2))] := hl
  unfold E_same at h
  refine lv_iload_n C0.1 C0.2.1 dX7_same_0 rfl (lv_at hl 1 rfl) ?_
  obtain ⟨v1, h_v1, h⟩ := bndp_s h
  refine callS_i (rest := []) C0 hml hE (c_E_isPlace l D g (σ := σ) i_p1 h_v1) kw_X7_86 ⟨Nat.le_of_ble_eq_true rfl, Nat.le_of_ble_eq_true rfl⟩ rfl hl.1 rfl (Nat.le_of_ble_eq_true rfl) dX7_same_1 ⟨Nat.zero_le _, Nat.zero_le _⟩ (fun H locs hE i_v1 => ?_)
  refine x_if_eq C0 i_v1 dX7_same_4 (tgt := 14) (by decide) (fun c9 => ?_) (fun c9 => ?_)
  · have h := ite_t c9 h
    refine lv_iconst (v := I (-1)) C0.1 C0.2.1 dX7_same_14 rfl ?_
    exact ret_i (wf := wE g) C0 hr hlk hE h lit_m1 hR dX7_same_15
  · have h := ite_f c9 h
    refine lv_iload_n C0.1 C0.2.1 dX7_same_7 rfl (lv_at hl 2 rfl) ?_
    obtain ⟨v2, h_v2, h⟩ := bndp_s h
    refine callS_i (rest := []) C0 hml hE (c_E_isPlace l D g (σ := σ) i_p2 h_v2) kw_X7_86 ⟨Nat.le_of_ble_eq_true rfl, Nat.le_of_ble_eq_true rfl⟩ rfl hl.1 rfl (Nat.le_of_ble_eq_true rfl) dX7_same_8 ⟨Nat.zero_le _, Nat.zero_le _⟩ (fun H locs hE i_v2 => ?_)
    refine x_if_ne C0 i_v2 dX7_same_11 (tgt := 16) (by decide) (fun c9 => ?_) (fun c9 => ?_)
    · have h := ite_f c9 h
      refine lv_aload_n C0.1 C0.2.1 dX7_same_16 rfl (lv_at hl 0 rfl) ?_
      refine lv_iload_n C0.1 C0.2.1 dX7_same_17 rfl (lv_at hl 1 rfl) ?_
      refine lv_iload_n C0.1 C0.2.1 dX7_same_18 rfl (lv_at hl 2 rfl) ?_
      obtain ⟨v3, s4, h_v3, h⟩ := bnd_s h
      refine callV_v (rest := []) C0 hml hE (E_rec C0 hE) (c_E_readBoth l D g hR i_p1 i_p2 h_v3) kw_X7_177 ⟨Nat.le_of_ble_eq_true rfl, Nat.le_of_ble_eq_true rfl⟩ rfl hl.1 rfl (Nat.le_of_ble_eq_true rfl) dX7_same_19 ⟨Nat.zero_le _, Nat.zero_le _⟩ (fun H locs hE hR => ?_)
      refine lv_aload_n C0.1 C0.2.1 dX7_same_22 rfl (lv_at hl 0 rfl) ?_
      refine E_g_sizes C0 hE fk_X7_53 dX7_same_23 ?_
      refine lv_iload_n C0.1 C0.2.1 dX7_same_26 rfl (lv_at hl 1 rfl) ?_
      obtain ⟨v5, e_v5, i_v5, h⟩ := rd_s hR h
      refine E_sizes_l C0 hE i_p1 e_v5 dX7_same_27 ?_
      refine lv_aload_n C0.1 C0.2.1 dX7_same_28 rfl (lv_at hl 0 rfl) ?_
      refine E_g_sizes C0 hE fk_X7_53 dX7_same_29 ?_
      refine lv_iload_n C0.1 C0.2.1 dX7_same_32 rfl (lv_at hl 2 rfl) ?_
      obtain ⟨v6, e_v6, i_v6, h⟩ := rd_s hR h
      refine E_sizes_l C0 hE i_p2 e_v6 dX7_same_33 ?_
      obtain ⟨v7, e_v7, i_v7, h⟩ := opure_s h (imin_in i_v5 i_v6)
      refine x_min C0 kw_X7_228 (hml.trans hl.1.symm) i_v5 i_v6 e_v7 ⟨Nat.le_of_ble_eq_true rfl, Nat.le_of_ble_eq_true rfl⟩ ⟨Nat.zero_le _, Nat.zero_le _⟩ dX7_same_34 ?_
      refine lv_istore_n (lv' := [(3, .int (I v7)), (0, .ref (g.2 0)), (1, .int (I p1)), (2, .int (I p2))]) C0.1 C0.2.1 dX7_same_37 rfl hl (by decide) rfl (fun ls hl => ?_)
      refine lv_iconst (v := I 0) C0.1 C0.2.1 dX7_same_38 rfl ?_
      refine lv_istore (lv' := [(4, .int (I 0)), (3, .int (I v7)), (0, .ref (g.2 0)), (1, .int (I p1)), (2, .int (I p2))]) C0.1 C0.2.1 dX7_same_39 hl (by decide) rfl (fun ls hl => ?_)
      obtain ⟨k9, e_k9, h⟩ := jn_s h
      have h_k9 : ∀ (x8 : Int) (i_x8 : in32 x8) (H : Heap) (locs : List Loc) (ls : Array Slot), EW D (va_A (wE g σ) sz) s.heap (wE g s4) H locs → lv_has ls 6 [(0, .ref (g.2 0)), (1, .int (I p1)), (2, .int (I p2)), (4, .int (I x8))] → k9 x8 = some (r, σr) → W p l e (rmk 6) s m args below meth c H locs 0 0 (MQ below (QCi D (wE g σr) r (in32 r ∧ R32 σr) (va_A (wE g σ) sz)) args s 0 0 (va_A (wE g σ) sz)) (F0 m 70 ls []) := by
        intro x8 i_x8 H locs ls hE hl h
        have h := (congrFun e_k9 x8).symm.trans h
        refine lv_iload C0.1 C0.2.1 dX7_same_70 (lv_at hl 3 rfl) ?_
        refine lv_aload_n C0.1 C0.2.1 dX7_same_72 rfl (lv_at hl 0 rfl) ?_
        refine E_g_sizes C0 hE fk_X7_53 dX7_same_73 ?_
        refine lv_iload_n C0.1 C0.2.1 dX7_same_76 rfl (lv_at hl 1 rfl) ?_
        obtain ⟨v10, e_v10, i_v10, h⟩ := rd_s hR h
        refine E_sizes_l C0 hE i_p1 e_v10 dX7_same_77 ?_
        obtain ⟨k12, e_k12, h⟩ := jn_s h
        have h_k12 : ∀ (x11 : Int) (i_x11 : in32 x11) (H : Heap) (locs : List Loc) (ls : Array Slot), EW D (va_A (wE g σ) sz) s.heap (wE g s4) H locs → lv_has ls 6 [(0, .ref (g.2 0)), (1, .int (I p1)), (2, .int (I p2)), (4, .int (I x8))] → k12 x11 = some (r, σr) → W p l e (rmk 6) s m args below meth c H locs 0 0 (MQ below (QCi D (wE g σr) r (in32 r ∧ R32 σr) (va_A (wE g σ) sz)) args s 0 0 (va_A (wE g σ) sz)) (F0 m 97 ls [.int (I x11)]) := by
          intro x11 i_x11 H locs ls hE hl h
          have h := (congrFun e_k12 x11).symm.trans h
          refine lv_istore (lv' := [(5, .int (I x11)), (0, .ref (g.2 0)), (1, .int (I p1)), (2, .int (I p2)), (4, .int (I x8))]) C0.1 C0.2.1 dX7_same_97 hl (by decide) rfl (fun ls hl => ?_)
          refine lv_aload_n C0.1 C0.2.1 dX7_same_99 rfl (lv_at hl 1 rfl) ?_
          refine E_g_told C0 hE fk_X7_19 dX7_same_100 ?_
          refine lv_iload C0.1 C0.2.1 dX7_same_103 (lv_at hl 0 rfl) ?_
          obtain ⟨k14, e_k14, h⟩ := jn_s h
          have h_k14 : ∀ (x13 : Int) (i_x13 : in64 x13) (H : Heap) (locs : List Loc) (ls : Array Slot), EW D (va_A (wE g σ) sz) s.heap (wE g s4) H locs → lv_has ls 6 [(0, .ref (g.2 0)), (1, .int (I p1)), (2, .int (I p2)), (5, .int (I x11))] → k14 x13 = some (r, σr) → W p l e (rmk 6) s m args below meth c H locs 0 0 (MQ below (QCi D (wE g σr) r (in32 r ∧ R32 σr) (va_A (wE g σ) sz)) args s 0 0 (va_A (wE g σ) sz)) (F0 m 117 ls [.long (J x13), .ref (g.2 2)]) := by
            intro x13 i_x13 H locs ls hE hl h
            have h := (congrFun e_k14 x13).symm.trans h
            refine lv_aload_n C0.1 C0.2.1 dX7_same_117 rfl (lv_at hl 0 rfl) ?_
            refine lv_iload_n C0.1 C0.2.1 dX7_same_118 rfl (lv_at hl 1 rfl) ?_
            refine lv_iload_n C0.1 C0.2.1 dX7_same_119 rfl (lv_at hl 2 rfl) ?_
            obtain ⟨v15, s16, h_v15, h⟩ := bnd_s h
            refine callV_i (rest := [.long (J x13), .ref (g.2 2)]) C0 hml hE (E_rec C0 hE) (c_E_nodesInBoth l D g hR i_p1 i_p2 h_v15) kw_X7_253 ⟨Nat.le_of_ble_eq_true rfl, Nat.le_of_ble_eq_true rfl⟩ rfl hl.1 rfl (Nat.le_of_ble_eq_true rfl) dX7_same_120 ⟨Nat.zero_le _, Nat.zero_le _⟩ (fun H locs hE ⟨i_v15, hR⟩ => ?_)
            refine x_i2l C0 i_v15 dX7_same_123 ?_
            obtain ⟨v17, s18, h_v17, h⟩ := bnd_s h
            refine callV_v (rest := []) C0 hml hE (Row_rec C0 hE) (c_Row_tell1 l D g hR i_x13 (in64_of i_v15) h_v17) kw_X7_162 ⟨Nat.le_of_ble_eq_true rfl, Nat.le_of_ble_eq_true rfl⟩ rfl hl.1 rfl (Nat.le_of_ble_eq_true rfl) dX7_same_124 ⟨Nat.zero_le _, Nat.zero_le _⟩ (fun H locs hE hR => ?_)
            refine lv_iload C0.1 C0.2.1 dX7_same_127 (lv_at hl 3 rfl) ?_
            obtain ⟨v19, e_v19, i_v19, h⟩ := oif_s h
            have kk_v19 : W p l e (rmk 6) s m args below meth c H locs 0 0 (MQ below (QCi D (wE g σr) r (in32 r ∧ R32 σr) (va_A (wE g σ) sz)) args s 0 0 (va_A (wE g σ) sz)) (F0 m 137 ls [.int (I v19)]) := by
              exact ret_i (wf := wE g) C0 hr hlk hE h i_v19 hR dX7_same_137
            refine x_if_eq C0 i_x11 dX7_same_129 (tgt := 136) (by decide) (fun c9 => ?_) (fun c9 => ?_)
            · have e9 := e_v19.trans (if_pos c9)
              refine lv_iconst (v := I 0) C0.1 C0.2.1 dX7_same_136 rfl ?_
              rw [e9] at kk_v19; exact kk_v19
            · have e9 := e_v19.trans (if_neg c9)
              refine lv_iconst (v := I 1) C0.1 C0.2.1 dX7_same_132 rfl ?_
              refine x_goto C0 dX7_same_133 (tgt := 137) (by decide) ?_
              rw [e9] at kk_v19; exact kk_v19
          refine x_if_eq C0 i_x11 dX7_same_105 (tgt := 114) (by decide) (fun c9 => ?_) (fun c9 => ?_)
          · have h := ite_t c9 h
            refine lv_iload C0.1 C0.2.1 dX7_same_114 (lv_at hl 4 rfl) ?_
            refine x_i2l C0 i_x8 dX7_same_116 ?_
            exact h_k14 x8 (in64_of i_x8) _ _ _ hE (lv_sub hl [1, 2, 3, 0] rfl) h
          · have h := ite_f c9 h
            refine x_ldc2 (v := (-1)) C0 ck_X7_157 (by decide +kernel) dX7_same_108 ?_
            refine x_goto C0 dX7_same_111 (tgt := 117) (by decide) ?_
            exact h_k14 (-1) (by decide) _ _ _ hE (lv_sub hl [1, 2, 3, 0] rfl) h
        obtain ⟨k20, e_k20, h⟩ := jn_s h
        have h_k20 : ∀ (H : Heap) (locs : List Loc) (ls : Array Slot), EW D (va_A (wE g σ) sz) s.heap (wE g s4) H locs → lv_has ls 6 [(0, .ref (g.2 0)), (1, .int (I p1)), (2, .int (I p2)), (4, .int (I x8))] → k20 = some (r, σr) → W p l e (rmk 6) s m args below meth c H locs 0 0 (MQ below (QCi D (wE g σr) r (in32 r ∧ R32 σr) (va_A (wE g σ) sz)) args s 0 0 (va_A (wE g σ) sz)) (F0 m 96 ls []) := by
          intro H locs ls hE hl h
          have h := e_k20.symm.trans h
          refine lv_iconst (v := I 0) C0.1 C0.2.1 dX7_same_96 rfl ?_
          exact h_k12 0 lit_0 _ _ _ hE (lv_sub hl [0, 1, 2, 3] rfl) h
        refine x_icmp_ne C0 i_x8 i_v10 dX7_same_78 (tgt := 96) (by decide) (fun c9 => ?_) (fun c9 => ?_)
        · have h := ite_f c9 h
          exact h_k20 _ _ _ hE (lv_sub hl [0, 1, 2, 3] rfl) h
        · have h := ite_t c9 h
          refine lv_iload C0.1 C0.2.1 dX7_same_81 (lv_at hl 3 rfl) ?_
          refine lv_aload_n C0.1 C0.2.1 dX7_same_83 rfl (lv_at hl 0 rfl) ?_
          refine E_g_sizes C0 hE fk_X7_53 dX7_same_84 ?_
          refine lv_iload_n C0.1 C0.2.1 dX7_same_87 rfl (lv_at hl 2 rfl) ?_
          obtain ⟨v21, e_v21, i_v21, h⟩ := rd_s hR h
          refine E_sizes_l C0 hE i_p2 e_v21 dX7_same_88 ?_
          refine x_icmp_ne C0 i_x8 i_v21 dX7_same_89 (tgt := 96) (by decide) (fun c9 => ?_) (fun c9 => ?_)
          · have h := ite_f c9 h
            exact h_k20 _ _ _ hE (lv_sub hl [0, 1, 2, 3] rfl) h
          · have h := ite_t c9 h
            refine lv_iconst (v := I 1) C0.1 C0.2.1 dX7_same_92 rfl ?_
            refine x_goto C0 dX7_same_93 (tgt := 97) (by decide) ?_
            exact h_k12 1 lit_1 _ _ _ hE (lv_sub hl [0, 1, 2, 3] rfl) h
      have hL41 : ∀ (n : Nat) (x22 : Int) (i_x22 : in32 x22) (H : Heap) (locs : List Loc) (ls : Array Slot), EW D (va_A (wE g σ) sz) s.heap (wE g s4) H locs → lv_has ls 6 [(0, .ref (g.2 0)), (1, .int (I p1)), (2, .int (I p2)), (3, .int (I v7)), (4, .int (I x22))] → E_same_L41 k9 s4 v7 n x22 = some (r, σr) → W p l e (rmk 6) s m args below meth c H locs 0 0 (MQ below (QCi D (wE g σr) r (in32 r ∧ R32 σr) (va_A (wE g σ) sz)) args s 0 0 (va_A (wE g σ) sz)) (F0 m 41 ls []) := by
        intro n
        induction n with
        | zero => intros; rename_i h; cases h
        | succ n ih23 =>
          intro x22 i_x22 H locs ls hE hl h
          unfold E_same_L41 at h
          refine lv_iload C0.1 C0.2.1 dX7_same_41 (lv_at hl 4 rfl) ?_
          refine lv_iload_n C0.1 C0.2.1 dX7_same_43 rfl (lv_at hl 3 rfl) ?_
          refine x_icmp_ge C0 i_x22 i_v7 dX7_same_44 (tgt := 70) (by decide) (fun c9 => ?_) (fun c9 => ?_)
          · have h := ite_f c9 h
            exact h_k9 x22 i_x22 _ _ _ hE (lv_sub hl [0, 1, 2, 4] rfl) h
          · have h := ite_t c9 h
            refine lv_aload_n C0.1 C0.2.1 dX7_same_47 rfl (lv_at hl 0 rfl) ?_
            refine E_g_one C0 hE fk_X7_56 dX7_same_48 ?_
            refine lv_iload C0.1 C0.2.1 dX7_same_51 (lv_at hl 4 rfl) ?_
            obtain ⟨v24, e_v24, i_v24, h⟩ := rd_s hR h
            refine E_one_l C0 hE i_x22 e_v24 dX7_same_53 ?_
            refine lv_aload_n C0.1 C0.2.1 dX7_same_54 rfl (lv_at hl 0 rfl) ?_
            refine E_g_other C0 hE fk_X7_59 dX7_same_55 ?_
            refine lv_iload C0.1 C0.2.1 dX7_same_58 (lv_at hl 4 rfl) ?_
            obtain ⟨v25, e_v25, i_v25, h⟩ := rd_s hR h
            refine E_other_l C0 hE i_x22 e_v25 dX7_same_60 ?_
            refine x_icmp_ne C0 i_v24 i_v25 dX7_same_61 (tgt := 70) (by decide) (fun c9 => ?_) (fun c9 => ?_)
            · have h := ite_f c9 h
              exact h_k9 x22 i_x22 _ _ _ hE (lv_sub hl [0, 1, 2, 4] rfl) h
            · have h := ite_t c9 h
              obtain ⟨v26, e_v26, i_v26, h⟩ := oadd_s h
              refine x_iinc (lv' := [(4, .int (I v26)), (0, .ref (g.2 0)), (1, .int (I p1)), (2, .int (I p2)), (3, .int (I v7))]) C0 dX7_same_64 hl (k := 4) rfl e_v26 (by decide) rfl (fun ls hl => ?_)
              refine x_goto C0 dX7_same_67 (tgt := 41) (by decide) ?_
              exact ih23 v26 i_v26 _ _ _ hE (lv_sub hl [1, 2, 3, 4, 0] rfl) h
      exact hL41 FU 0 lit_0 _ _ _ hE (lv_sub hl [2, 3, 4, 1, 0] rfl) h
    · have h := ite_t c9 h
      refine lv_iconst (v := I (-1)) C0.1 C0.2.1 dX7_same_14 rfl ?_
      exact ret_i (wf := wE g) C0 hr hlk hE h lit_m1 hR dX7_same_15
set_option maxRecDepth 100000 in
set_option maxHeartbeats 4000000 in
theorem c_E_nodes (l : Launch) (D : va_G) (g : Ad) {σ σr : St} {r : Int} (hR : R32 σ) (h : E_nodes σ = some (r, σr)) : CtI l D g yX7_nodes cX7_nodes 7 (some .int) 4 (wE g σ) (wE g σr) [.ref (g.2 0)] r (in32 r ∧ R32 σr) := by
  intro sz
  refine met_of (by decide) (Nat.le_of_ble_eq_true rfl) (fun p e s m args below meth c ls H locs C0 hml hr hlk hE hl => ?_)
  have C0 : CX p c cX7_nodes m s args D g RX7 := C0
  have hl : lv_has ls 7 [(0, .ref (g.2 0))] := hl
  unfold E_nodes at h
  refine lv_aload_n C0.1 C0.2.1 dX7_nodes_0 rfl (lv_at hl 0 rfl) ?_
  refine E_g_pool C0 hE fk_X7_10 dX7_nodes_1 ?_
  obtain ⟨v1, s2, h_v1, h⟩ := bnd_s h
  refine callV_v (rest := []) C0 hml hE (Pool_rec C0 hE) (c_Pool_forget l D g hR h_v1) kw_X7_277 ⟨Nat.le_of_ble_eq_true rfl, Nat.le_of_ble_eq_true rfl⟩ rfl hl.1 rfl (Nat.le_of_ble_eq_true rfl) dX7_nodes_4 ⟨Nat.zero_le _, Nat.zero_le _⟩ (fun H locs hE hR => ?_)
  refine lv_iconst (v := I 0) C0.1 C0.2.1 dX7_nodes_7 rfl ?_
  refine lv_istore_n (lv' := [(1, .int (I 0)), (0, .ref (g.2 0))]) C0.1 C0.2.1 dX7_nodes_8 rfl hl (by decide) rfl (fun ls hl => ?_)
  refine lv_iconst (v := I 0) C0.1 C0.2.1 dX7_nodes_9 rfl ?_
  refine lv_istore_n (lv' := [(2, .int (I 0)), (1, .int (I 0)), (0, .ref (g.2 0))]) C0.1 C0.2.1 dX7_nodes_10 rfl hl (by decide) rfl (fun ls hl => ?_)
  refine lv_iconst (v := I 0) C0.1 C0.2.1 dX7_nodes_11 rfl ?_
  refine lv_istore_n (lv' := [(3, .int (I 0)), (2, .int (I 0)), (1, .int (I 0)), (0, .ref (g.2 0))]) C0.1 C0.2.1 dX7_nodes_12 rfl hl (by decide) rfl (fun ls hl => ?_)
  refine lv_iconst (v := I 0) C0.1 C0.2.1 dX7_nodes_13 rfl ?_
  refine lv_istore (lv' := [(4, .int (I 0)), (3, .int (I 0)), (2, .int (I 0)), (1, .int (I 0)), (0, .ref (g.2 0))]) C0.1 C0.2.1 dX7_nodes_14 hl (by decide) rfl (fun ls hl => ?_)
  obtain ⟨k7, e_k7, h⟩ := jn_s h
  have h_k7 : ∀ (s3 : St) (hR : R32 s3) (x4 : Int) (i_x4 : in32 x4) (x5 : Int) (i_x5 : in32 x5) (x6 : Int) (i_x6 : in32 x6) (H : Heap) (locs : List Loc) (ls : Array Slot), EW D (va_A (wE g σ) sz) s.heap (wE g s3) H locs → lv_has ls 7 [(0, .ref (g.2 0)), (1, .int (I x4)), (2, .int (I x5)), (3, .int (I x6))] → k7 s3 x4 x5 x6 = some (r, σr) → W p l e (rmk 4) s m args below meth c H locs 0 0 (MQ below (QCi D (wE g σr) r (in32 r ∧ R32 σr) (va_A (wE g σ) sz)) args s 0 0 (va_A (wE g σ) sz)) (F0 m 136 ls []) := by
    intro s3 hR x4 i_x4 x5 i_x5 x6 i_x6 H locs ls hE hl h
    have h := (congrFun (congrFun (congrFun (congrFun e_k7 s3) x4) x5) x6).symm.trans h
    refine lv_aload_n C0.1 C0.2.1 dX7_nodes_136 rfl (lv_at hl 0 rfl) ?_
    refine E_g_told C0 hE fk_X7_19 dX7_nodes_137 ?_
    refine lv_iload_n C0.1 C0.2.1 dX7_nodes_140 rfl (lv_at hl 2 rfl) ?_
    refine x_i2l C0 i_x5 dX7_nodes_141 ?_
    refine lv_iload_n C0.1 C0.2.1 dX7_nodes_142 rfl (lv_at hl 3 rfl) ?_
    refine x_i2l C0 i_x6 dX7_nodes_143 ?_
    obtain ⟨v8, s9, h_v8, h⟩ := bnd_s h
    refine callV_v (rest := []) C0 hml hE (Row_rec C0 hE) (c_Row_tell1 l D g hR (in64_of i_x5) (in64_of i_x6) h_v8) kw_X7_162 ⟨Nat.le_of_ble_eq_true rfl, Nat.le_of_ble_eq_true rfl⟩ rfl hl.1 rfl (Nat.le_of_ble_eq_true rfl) dX7_nodes_144 ⟨Nat.zero_le _, Nat.zero_le _⟩ (fun H locs hE hR => ?_)
    refine lv_iload_n C0.1 C0.2.1 dX7_nodes_147 rfl (lv_at hl 1 rfl) ?_
    exact ret_i (wf := wE g) C0 hr hlk hE h i_x4 hR dX7_nodes_148
  have hL16 : ∀ (n : Nat) (s15 : St) (hR : R32 s15) (x10 : Int) (i_x10 : in32 x10) (x11 : Int) (i_x11 : in32 x11) (x12 : Int) (i_x12 : in32 x12) (x13 : Int) (i_x13 : in32 x13) (H : Heap) (locs : List Loc) (ls : Array Slot), EW D (va_A (wE g σ) sz) s.heap (wE g s15) H locs → lv_has ls 7 [(0, .ref (g.2 0)), (1, .int (I x10)), (2, .int (I x11)), (3, .int (I x12)), (4, .int (I x13))] → E_nodes_L16 k7 n s15 x10 x11 x12 x13 = some (r, σr) → W p l e (rmk 4) s m args below meth c H locs 0 0 (MQ below (QCi D (wE g σr) r (in32 r ∧ R32 σr) (va_A (wE g σ) sz)) args s 0 0 (va_A (wE g σ) sz)) (F0 m 16 ls []) := by
    intro n
    induction n with
    | zero => intros; rename_i h; cases h
    | succ n ih14 =>
      intro s15 hR x10 i_x10 x11 i_x11 x12 i_x12 x13 i_x13 H locs ls hE hl h
      unfold E_nodes_L16 at h
      refine lv_iload C0.1 C0.2.1 dX7_nodes_16 (lv_at hl 4 rfl) ?_
      refine lv_bipush (v := I 6) C0.1 C0.2.1 dX7_nodes_18 (by decide +kernel) ?_
      refine x_icmp_ge C0 i_x13 lit_6 dX7_nodes_20 (tgt := 136) (by decide) (fun c9 => ?_) (fun c9 => ?_)
      · have h := ite_f c9 h
        exact h_k7 s15 hR x10 i_x10 x11 i_x11 x12 i_x12 _ _ _ hE (lv_sub hl [0, 1, 2, 3] rfl) h
      · have h := ite_t c9 h
        refine lv_aload_n C0.1 C0.2.1 dX7_nodes_23 rfl (lv_at hl 0 rfl) ?_
        refine E_g_pool C0 hE fk_X7_10 dX7_nodes_24 ?_
        refine lv_aload_n C0.1 C0.2.1 dX7_nodes_27 rfl (lv_at hl 0 rfl) ?_
        refine E_g_trees C0 hE fk_X7_49 dX7_nodes_28 ?_
        refine lv_iload C0.1 C0.2.1 dX7_nodes_31 (lv_at hl 4 rfl) ?_
        obtain ⟨v16, e_v16, i_v16, h⟩ := rd_s hR h
        refine E_trees_l C0 hE i_x13 e_v16 dX7_nodes_33 ?_
        refine lv_aload_n C0.1 C0.2.1 dX7_nodes_34 rfl (lv_at hl 0 rfl) ?_
        refine E_g_sizes C0 hE fk_X7_53 dX7_nodes_35 ?_
        refine lv_iload C0.1 C0.2.1 dX7_nodes_38 (lv_at hl 4 rfl) ?_
        obtain ⟨v17, e_v17, i_v17, h⟩ := rd_s hR h
        refine E_sizes_l C0 hE i_x13 e_v17 dX7_nodes_40 ?_
        obtain ⟨v18, s19, h_v18, h⟩ := bnd_s h
        refine callV_v (rest := []) C0 hml hE (Pool_rec C0 hE) (c_Pool_spread l D g hR i_v16 i_v17 h_v18) kw_X7_280 ⟨Nat.le_of_ble_eq_true rfl, Nat.le_of_ble_eq_true rfl⟩ rfl hl.1 rfl (Nat.le_of_ble_eq_true rfl) dX7_nodes_41 ⟨Nat.zero_le _, Nat.zero_le _⟩ (fun H locs hE hR => ?_)
        refine lv_iconst (v := I 0) C0.1 C0.2.1 dX7_nodes_44 rfl ?_
        refine lv_istore (lv' := [(5, .int (I 0)), (0, .ref (g.2 0)), (1, .int (I x10)), (2, .int (I x11)), (3, .int (I x12)), (4, .int (I x13))]) C0.1 C0.2.1 dX7_nodes_45 hl (by decide) rfl (fun ls hl => ?_)
        obtain ⟨k23, e_k23, h⟩ := jn_s h
        have h_k23 : ∀ (s20 : St) (hR : R32 s20) (x21 : Int) (i_x21 : in32 x21) (x22 : Int) (i_x22 : in32 x22) (H : Heap) (locs : List Loc) (ls : Array Slot), EW D (va_A (wE g σ) sz) s.heap (wE g s20) H locs → lv_has ls 7 [(0, .ref (g.2 0)), (1, .int (I x21)), (2, .int (I x22)), (3, .int (I x12)), (4, .int (I x13))] → k23 s20 x21 x22 = some (r, σr) → W p l e (rmk 4) s m args below meth c H locs 0 0 (MQ below (QCi D (wE g σr) r (in32 r ∧ R32 σr) (va_A (wE g σ) sz)) args s 0 0 (va_A (wE g σ) sz)) (F0 m 120 ls []) := by
          intro s20 hR x21 i_x21 x22 i_x22 H locs ls hE hl h
          have h := (congrFun (congrFun (congrFun e_k23 s20) x21) x22).symm.trans h
          refine lv_iload_n C0.1 C0.2.1 dX7_nodes_120 rfl (lv_at hl 3 rfl) ?_
          refine lv_aload_n C0.1 C0.2.1 dX7_nodes_121 rfl (lv_at hl 0 rfl) ?_
          refine E_g_sizes C0 hE fk_X7_53 dX7_nodes_122 ?_
          refine lv_iload C0.1 C0.2.1 dX7_nodes_125 (lv_at hl 4 rfl) ?_
          obtain ⟨v24, e_v24, i_v24, h⟩ := rd_s hR h
          refine E_sizes_l C0 hE i_x13 e_v24 dX7_nodes_127 ?_
          obtain ⟨v25, e_v25, i_v25, h⟩ := oadd_s h
          refine x_add C0 e_v25 dX7_nodes_128 ?_
          refine lv_istore_n (lv' := [(3, .int (I v25)), (0, .ref (g.2 0)), (1, .int (I x21)), (2, .int (I x22)), (4, .int (I x13))]) C0.1 C0.2.1 dX7_nodes_129 rfl hl (by decide) rfl (fun ls hl => ?_)
          obtain ⟨v26, e_v26, i_v26, h⟩ := oadd_s h
          refine x_iinc (lv' := [(4, .int (I v26)), (3, .int (I v25)), (0, .ref (g.2 0)), (1, .int (I x21)), (2, .int (I x22))]) C0 dX7_nodes_130 hl (k := 4) rfl e_v26 (by decide) rfl (fun ls hl => ?_)
          refine x_goto C0 dX7_nodes_133 (tgt := 16) (by decide) ?_
          exact ih14 s20 hR x21 i_x21 x22 i_x22 v25 i_v25 v26 i_v26 _ _ _ hE (lv_sub hl [2, 3, 4, 1, 0] rfl) h
        have hL47 : ∀ (n : Nat) (s31 : St) (hR : R32 s31) (x27 : Int) (i_x27 : in32 x27) (x28 : Int) (i_x28 : in32 x28) (x29 : Int) (i_x29 : in32 x29) (H : Heap) (locs : List Loc) (ls : Array Slot), EW D (va_A (wE g σ) sz) s.heap (wE g s31) H locs → lv_has ls 7 [(0, .ref (g.2 0)), (1, .int (I x27)), (2, .int (I x28)), (3, .int (I x12)), (4, .int (I x13)), (5, .int (I x29))] → E_nodes_L47 k23 x13 n s31 x27 x28 x29 = some (r, σr) → W p l e (rmk 4) s m args below meth c H locs 0 0 (MQ below (QCi D (wE g σr) r (in32 r ∧ R32 σr) (va_A (wE g σ) sz)) args s 0 0 (va_A (wE g σ) sz)) (F0 m 47 ls []) := by
          intro n
          induction n with
          | zero => intros; rename_i h; cases h
          | succ n ih30 =>
            intro s31 hR x27 i_x27 x28 i_x28 x29 i_x29 H locs ls hE hl h
            unfold E_nodes_L47 at h
            refine lv_iload C0.1 C0.2.1 dX7_nodes_47 (lv_at hl 5 rfl) ?_
            refine lv_aload_n C0.1 C0.2.1 dX7_nodes_49 rfl (lv_at hl 0 rfl) ?_
            refine E_g_sizes C0 hE fk_X7_53 dX7_nodes_50 ?_
            refine lv_iload C0.1 C0.2.1 dX7_nodes_53 (lv_at hl 4 rfl) ?_
            obtain ⟨v32, e_v32, i_v32, h⟩ := rd_s hR h
            refine E_sizes_l C0 hE i_x13 e_v32 dX7_nodes_55 ?_
            refine x_icmp_ge C0 i_x29 i_v32 dX7_nodes_56 (tgt := 120) (by decide) (fun c9 => ?_) (fun c9 => ?_)
            · have h := ite_f c9 h
              exact h_k23 s31 hR x27 i_x27 x28 i_x28 _ _ _ hE (lv_sub hl [0, 1, 2, 3, 4] rfl) h
            · have h := ite_t c9 h
              refine lv_aload_n C0.1 C0.2.1 dX7_nodes_59 rfl (lv_at hl 0 rfl) ?_
              refine E_g_pool C0 hE fk_X7_10 dX7_nodes_60 ?_
              refine lv_iload C0.1 C0.2.1 dX7_nodes_63 (lv_at hl 5 rfl) ?_
              refine lv_iconst (v := I 1) C0.1 C0.2.1 dX7_nodes_65 rfl ?_
              refine lv_iload C0.1 C0.2.1 dX7_nodes_66 (lv_at hl 4 rfl) ?_
              obtain ⟨v33, e_v33, i_v33, h⟩ := opure_s h (bshl_in _ _)
              refine x_shl C0 e_v33 dX7_nodes_68 ?_
              obtain ⟨v34, s35, h_v34, h⟩ := bnd_s h
              refine callV_i (rest := []) C0 hml hE (Pool_rec C0 hE) (c_Pool_seeAt l D g hR i_x29 i_v33 h_v34) kw_X7_289 ⟨Nat.le_of_ble_eq_true rfl, Nat.le_of_ble_eq_true rfl⟩ rfl hl.1 rfl (Nat.le_of_ble_eq_true rfl) dX7_nodes_69 ⟨Nat.zero_le _, Nat.zero_le _⟩ (fun H locs hE ⟨i_v34, hR⟩ => ?_)
              refine lv_istore (lv' := [(6, .int (I v34)), (0, .ref (g.2 0)), (1, .int (I x27)), (2, .int (I x28)), (3, .int (I x12)), (4, .int (I x13)), (5, .int (I x29))]) C0.1 C0.2.1 dX7_nodes_72 hl (by decide) rfl (fun ls hl => ?_)
              refine lv_iload_n C0.1 C0.2.1 dX7_nodes_74 rfl (lv_at hl 2 rfl) ?_
              refine lv_iload C0.1 C0.2.1 dX7_nodes_75 (lv_at hl 0 rfl) ?_
              obtain ⟨v36, e_v36, i_v36, h⟩ := oif_s h
              have kk_v36 : W p l e (rmk 4) s m args below meth c H locs 0 0 (MQ below (QCi D (wE g σr) r (in32 r ∧ R32 σr) (va_A (wE g σ) sz)) args s 0 0 (va_A (wE g σ) sz)) (F0 m 85 ls [.int (I v36), .int (I x27)]) := by
                obtain ⟨v37, e_v37, i_v37, h⟩ := oadd_s h
                refine x_add C0 e_v37 dX7_nodes_85 ?_
                refine lv_istore_n (lv' := [(1, .int (I v37)), (6, .int (I v34)), (0, .ref (g.2 0)), (2, .int (I x28)), (3, .int (I x12)), (4, .int (I x13)), (5, .int (I x29))]) C0.1 C0.2.1 dX7_nodes_86 rfl hl (by decide) rfl (fun ls hl => ?_)
                refine lv_iload_n C0.1 C0.2.1 dX7_nodes_87 rfl (lv_at hl 3 rfl) ?_
                refine lv_iload C0.1 C0.2.1 dX7_nodes_88 (lv_at hl 1 rfl) ?_
                refine lv_iconst (v := I 1) C0.1 C0.2.1 dX7_nodes_90 rfl ?_
                refine lv_iload C0.1 C0.2.1 dX7_nodes_91 (lv_at hl 5 rfl) ?_
                obtain ⟨v38, e_v38, i_v38, h⟩ := opure_s h (bshl_in _ _)
                refine x_shl C0 e_v38 dX7_nodes_93 ?_
                obtain ⟨v39, e_v39, i_v39, h⟩ := opure_s h (band_in _ _)
                refine x_and C0 e_v39 dX7_nodes_94 ?_
                obtain ⟨k41, e_k41, h⟩ := jn_s h
                have h_k41 : ∀ (x40 : Int) (i_x40 : in32 x40) (H : Heap) (locs : List Loc) (ls : Array Slot), EW D (va_A (wE g σ) sz) s.heap (wE g s35) H locs → lv_has ls 7 [(0, .ref (g.2 0)), (1, .int (I v37)), (3, .int (I x12)), (4, .int (I x13)), (5, .int (I x29))] → k41 x40 = some (r, σr) → W p l e (rmk 4) s m args below meth c H locs 0 0 (MQ below (QCi D (wE g σr) r (in32 r ∧ R32 σr) (va_A (wE g σ) sz)) args s 0 0 (va_A (wE g σ) sz)) (F0 m 112 ls [.int (I x40), .int (I x28)]) := by
                  intro x40 i_x40 H locs ls hE hl h
                  have h := (congrFun e_k41 x40).symm.trans h
                  obtain ⟨v42, e_v42, i_v42, h⟩ := oadd_s h
                  refine x_add C0 e_v42 dX7_nodes_112 ?_
                  refine lv_istore_n (lv' := [(2, .int (I v42)), (0, .ref (g.2 0)), (1, .int (I v37)), (3, .int (I x12)), (4, .int (I x13)), (5, .int (I x29))]) C0.1 C0.2.1 dX7_nodes_113 rfl hl (by decide) rfl (fun ls hl => ?_)
                  obtain ⟨v43, e_v43, i_v43, h⟩ := oadd_s h
                  refine x_iinc (lv' := [(5, .int (I v43)), (2, .int (I v42)), (0, .ref (g.2 0)), (1, .int (I v37)), (3, .int (I x12)), (4, .int (I x13))]) C0 dX7_nodes_114 hl (k := 5) rfl e_v43 (by decide) rfl (fun ls hl => ?_)
                  refine x_goto C0 dX7_nodes_117 (tgt := 47) (by decide) ?_
                  exact ih30 s35 hR v37 i_v37 v42 i_v42 v43 i_v43 _ _ _ hE (lv_sub hl [2, 3, 1, 4, 5, 0] rfl) h
                obtain ⟨k44, e_k44, h⟩ := jn_s h
                have h_k44 : ∀ (H : Heap) (locs : List Loc) (ls : Array Slot), EW D (va_A (wE g σ) sz) s.heap (wE g s35) H locs → lv_has ls 7 [(0, .ref (g.2 0)), (1, .int (I v37)), (3, .int (I x12)), (4, .int (I x13)), (5, .int (I x29))] → k44 = some (r, σr) → W p l e (rmk 4) s m args below meth c H locs 0 0 (MQ below (QCi D (wE g σr) r (in32 r ∧ R32 σr) (va_A (wE g σ) sz)) args s 0 0 (va_A (wE g σ) sz)) (F0 m 111 ls [.int (I x28)]) := by
                  intro H locs ls hE hl h
                  have h := e_k44.symm.trans h
                  refine lv_iconst (v := I 0) C0.1 C0.2.1 dX7_nodes_111 rfl ?_
                  exact h_k41 0 lit_0 _ _ _ hE (lv_sub hl [0, 1, 2, 3, 4] rfl) h
                refine x_if_ne C0 i_v39 dX7_nodes_95 (tgt := 111) (by decide) (fun c9 => ?_) (fun c9 => ?_)
                · have h := ite_f c9 h
                  exact h_k44 _ _ _ hE (lv_sub hl [2, 0, 4, 5, 6] rfl) h
                · have h := ite_t c9 h
                  refine lv_iload C0.1 C0.2.1 dX7_nodes_98 (lv_at hl 1 rfl) ?_
                  obtain ⟨v45, h_v45, h⟩ := bndp_s h
                  refine callS_i (rest := [.int (I x28)]) C0 hml hE (c_Jint_bitCount l D g (σ := s35) i_v34 h_v45) kw_X7_292 ⟨Nat.le_of_ble_eq_true rfl, Nat.le_of_ble_eq_true rfl⟩ rfl hl.1 rfl (Nat.le_of_ble_eq_true rfl) dX7_nodes_100 ⟨Nat.zero_le _, Nat.zero_le _⟩ (fun H locs hE i_v45 => ?_)
                  refine lv_iconst (v := I 1) C0.1 C0.2.1 dX7_nodes_103 rfl ?_
                  refine x_icmp_ne C0 i_v45 lit_1 dX7_nodes_104 (tgt := 111) (by decide) (fun c9 => ?_) (fun c9 => ?_)
                  · have h := ite_f c9 h
                    exact h_k44 _ _ _ hE (lv_sub hl [2, 0, 4, 5, 6] rfl) h
                  · have h := ite_t c9 h
                    refine lv_iconst (v := I 1) C0.1 C0.2.1 dX7_nodes_107 rfl ?_
                    refine x_goto C0 dX7_nodes_108 (tgt := 112) (by decide) ?_
                    exact h_k41 1 lit_1 _ _ _ hE (lv_sub hl [2, 0, 4, 5, 6] rfl) h
              refine x_if_ne C0 i_v34 dX7_nodes_77 (tgt := 84) (by decide) (fun c9 => ?_) (fun c9 => ?_)
              · have e9 := e_v36.trans (if_neg c9)
                refine lv_iconst (v := I 0) C0.1 C0.2.1 dX7_nodes_84 rfl ?_
                rw [e9] at kk_v36; exact kk_v36
              · have e9 := e_v36.trans (if_pos c9)
                refine lv_iconst (v := I 1) C0.1 C0.2.1 dX7_nodes_80 rfl ?_
                refine x_goto C0 dX7_nodes_81 (tgt := 85) (by decide) ?_
                rw [e9] at kk_v36; exact kk_v36
        exact hL47 FU s19 hR x10 i_x10 x11 i_x11 0 lit_0 _ _ _ hE (lv_sub hl [1, 2, 3, 4, 5, 0] rfl) h
  exact hL16 FU s2 hR 0 lit_0 0 lit_0 0 lit_0 0 lit_0 _ _ _ hE (lv_sub hl [4, 3, 2, 1, 0] rfl) h
set_option maxRecDepth 100000 in
set_option maxHeartbeats 4000000 in
theorem c_E_placesInUse (l : Launch) (D : va_G) (g : Ad) {σ : St} {r : Int} (hR : R32 σ) (h : E_placesInUse σ = some r) : CtI l D g yX7_placesInUse cX7_placesInUse 3 (some .int) 1 (wE g σ) (wE g σ) [.ref (g.2 0)] r (in32 r) := by
  intro sz
  refine met_of (by decide) (Nat.le_of_ble_eq_true rfl) (fun p e s m args below meth c ls H locs C0 hml hr hlk hE hl => ?_)
  have C0 : CX p c cX7_placesInUse m s args D g RX7 := C0
  have hl : lv_has ls 3 [(0, .ref (g.2 0))] := hl
  unfold E_placesInUse at h
  refine lv_iconst (v := I 0) C0.1 C0.2.1 dX7_placesInUse_0 rfl ?_
  refine lv_istore_n (lv' := [(1, .int (I 0)), (0, .ref (g.2 0))]) C0.1 C0.2.1 dX7_placesInUse_1 rfl hl (by decide) rfl (fun ls hl => ?_)
  refine lv_iconst (v := I 0) C0.1 C0.2.1 dX7_placesInUse_2 rfl ?_
  refine lv_istore_n (lv' := [(2, .int (I 0)), (1, .int (I 0)), (0, .ref (g.2 0))]) C0.1 C0.2.1 dX7_placesInUse_3 rfl hl (by decide) rfl (fun ls hl => ?_)
  have hL4 : ∀ (n : Nat) (x1 : Int) (i_x1 : in32 x1) (x2 : Int) (i_x2 : in32 x2) (H : Heap) (locs : List Loc) (ls : Array Slot), EW D (va_A (wE g σ) sz) s.heap (wE g σ) H locs → lv_has ls 3 [(0, .ref (g.2 0)), (1, .int (I x1)), (2, .int (I x2))] → E_placesInUse_L4 σ n x1 x2 = some r → W p l e (rmk 1) s m args below meth c H locs 0 0 (MQ below (QCi D (wE g σ) r (in32 r) (va_A (wE g σ) sz)) args s 0 0 (va_A (wE g σ) sz)) (F0 m 4 ls []) := by
    intro n
    induction n with
    | zero => intros; rename_i h; cases h
    | succ n ih3 =>
      intro x1 i_x1 x2 i_x2 H locs ls hE hl h
      unfold E_placesInUse_L4 at h
      refine lv_iload_n C0.1 C0.2.1 dX7_placesInUse_4 rfl (lv_at hl 2 rfl) ?_
      refine lv_bipush (v := I 6) C0.1 C0.2.1 dX7_placesInUse_5 (by decide +kernel) ?_
      refine x_icmp_ge C0 i_x2 lit_6 dX7_placesInUse_7 (tgt := 35) (by decide) (fun c9 => ?_) (fun c9 => ?_)
      · have h := ite_f c9 h
        refine lv_iload_n C0.1 C0.2.1 dX7_placesInUse_35 rfl (lv_at hl 1 rfl) ?_
        exact pret_i C0 hr hlk hE h i_x1 dX7_placesInUse_36
      · have h := ite_t c9 h
        refine lv_iload_n C0.1 C0.2.1 dX7_placesInUse_10 rfl (lv_at hl 1 rfl) ?_
        refine lv_aload_n C0.1 C0.2.1 dX7_placesInUse_11 rfl (lv_at hl 0 rfl) ?_
        refine E_g_sizes C0 hE fk_X7_53 dX7_placesInUse_12 ?_
        refine lv_iload_n C0.1 C0.2.1 dX7_placesInUse_15 rfl (lv_at hl 2 rfl) ?_
        obtain ⟨v4, e_v4, i_v4, h⟩ := rd_s hR h
        refine E_sizes_l C0 hE i_x2 e_v4 dX7_placesInUse_16 ?_
        obtain ⟨k6, e_k6, h⟩ := jn_s h
        have h_k6 : ∀ (x5 : Int) (i_x5 : in32 x5) (H : Heap) (locs : List Loc) (ls : Array Slot), EW D (va_A (wE g σ) sz) s.heap (wE g σ) H locs → lv_has ls 3 [(0, .ref (g.2 0)), (2, .int (I x2))] → k6 x5 = some r → W p l e (rmk 1) s m args below meth c H locs 0 0 (MQ below (QCi D (wE g σ) r (in32 r) (va_A (wE g σ) sz)) args s 0 0 (va_A (wE g σ) sz)) (F0 m 27 ls [.int (I x5), .int (I x1)]) := by
          intro x5 i_x5 H locs ls hE hl h
          have h := (congrFun e_k6 x5).symm.trans h
          obtain ⟨v7, e_v7, i_v7, h⟩ := opure_s h (bor_in _ _)
          refine x_or C0 e_v7 dX7_placesInUse_27 ?_
          refine lv_istore_n (lv' := [(1, .int (I v7)), (0, .ref (g.2 0)), (2, .int (I x2))]) C0.1 C0.2.1 dX7_placesInUse_28 rfl hl (by decide) rfl (fun ls hl => ?_)
          obtain ⟨v8, e_v8, i_v8, h⟩ := oadd_s h
          refine x_iinc (lv' := [(2, .int (I v8)), (1, .int (I v7)), (0, .ref (g.2 0))]) C0 dX7_placesInUse_29 hl (k := 2) rfl e_v8 (by decide) rfl (fun ls hl => ?_)
          refine x_goto C0 dX7_placesInUse_32 (tgt := 4) (by decide) ?_
          exact ih3 v7 i_v7 v8 i_v8 _ _ _ hE (lv_sub hl [2, 1, 0] rfl) h
        refine x_if_le C0 i_v4 dX7_placesInUse_17 (tgt := 26) (by decide) (fun c9 => ?_) (fun c9 => ?_)
        · have h := ite_f c9 h
          refine lv_iconst (v := I 0) C0.1 C0.2.1 dX7_placesInUse_26 rfl ?_
          exact h_k6 0 lit_0 _ _ _ hE (lv_sub hl [0, 2] rfl) h
        · have h := ite_t c9 h
          refine lv_iconst (v := I 1) C0.1 C0.2.1 dX7_placesInUse_20 rfl ?_
          refine lv_iload_n C0.1 C0.2.1 dX7_placesInUse_21 rfl (lv_at hl 2 rfl) ?_
          obtain ⟨v9, e_v9, i_v9, h⟩ := opure_s h (bshl_in _ _)
          refine x_shl C0 e_v9 dX7_placesInUse_22 ?_
          refine x_goto C0 dX7_placesInUse_23 (tgt := 27) (by decide) ?_
          exact h_k6 v9 i_v9 _ _ _ hE (lv_sub hl [0, 2] rfl) h
  exact hL4 FU 0 lit_0 0 lit_0 _ _ _ hE (lv_sub hl [2, 1, 0] rfl) h
set_option maxRecDepth 100000 in
set_option maxHeartbeats 4000000 in
theorem c_E_count (l : Launch) (D : va_G) (g : Ad) {σ : St} {p1 r : Int} (hR : R32 σ) (i_p1 : in32 p1) (h : E_count σ p1 = some r) : CtI l D g yX7_count cX7_count 2 (some .int) 2 (wE g σ) (wE g σ) [.ref (g.2 0), .int (I p1)] r (in32 r) := by
  intro sz
  refine met_of (by decide) (Nat.le_of_ble_eq_true rfl) (fun p e s m args below meth c ls H locs C0 hml hr hlk hE hl => ?_)
  have C0 : CX p c cX7_count m s args D g RX7 := C0
  have hl : lv_has ls 2 [(0, .ref (g.2 0)), (1, .int (I p1))] := hl
  unfold E_count at h
  refine lv_iload_n C0.1 C0.2.1 dX7_count_0 rfl (lv_at hl 1 rfl) ?_
  by_cases q1 : p1 = 0
  · have h := ite_t q1 h
    refine x_tabIn (tgt := 36) C0 0 i_p1 dX7_count_1 q1 ⟨by decide, by decide, by rfl⟩ (by decide) ?_
    refine lv_aload_n C0.1 C0.2.1 dX7_count_36 rfl (lv_at hl 0 rfl) ?_
    obtain ⟨v2, h_v2, h⟩ := bndp_s h
    refine callV_i (rest := []) C0 hml hE (E_rec C0 hE) (c_E_placesInUse l D g hR h_v2) kw_X7_300 ⟨Nat.le_of_ble_eq_true rfl, Nat.le_of_ble_eq_true rfl⟩ rfl hl.1 rfl (Nat.le_of_ble_eq_true rfl) dX7_count_37 ⟨Nat.zero_le _, Nat.zero_le _⟩ (fun H locs hE i_v2 => ?_)
    exact pret_i C0 hr hlk hE h i_v2 dX7_count_40
  have h := ite_f q1 h
  by_cases q3 : p1 = 1
  · have h := ite_t q3 h
    refine x_tabIn (tgt := 41) C0 1 i_p1 dX7_count_1 q3 ⟨by decide, by decide, by rfl⟩ (by decide) ?_
    refine lv_aload_n C0.1 C0.2.1 dX7_count_41 rfl (lv_at hl 0 rfl) ?_
    refine E_g_pool C0 hE fk_X7_10 dX7_count_42 ?_
    obtain ⟨v4, e_v4, i_v4, h⟩ := gf_s hR h
    refine Pool_n_made C0 hE e_v4 nk_X7_130 dX7_count_45 ?_
    exact pret_i C0 hr hlk hE h i_v4 dX7_count_48
  have h := ite_f q3 h
  by_cases q5 : p1 = 2
  · have h := ite_t q5 h
    refine x_tabIn (tgt := 49) C0 2 i_p1 dX7_count_1 q5 ⟨by decide, by decide, by rfl⟩ (by decide) ?_
    refine lv_aload_n C0.1 C0.2.1 dX7_count_49 rfl (lv_at hl 0 rfl) ?_
    refine E_g_told C0 hE fk_X7_19 dX7_count_50 ?_
    obtain ⟨v6, e_v6, i_v6, h⟩ := gf_s hR h
    refine Row_n_many C0 hE e_v6 nk_X7_303 dX7_count_53 ?_
    exact pret_i C0 hr hlk hE h i_v6 dX7_count_56
  have h := ite_f q5 h
  by_cases q7 : p1 = 3
  · have h := ite_t q7 h
    refine x_tabIn (tgt := 57) C0 3 i_p1 dX7_count_1 q7 ⟨by decide, by decide, by rfl⟩ (by decide) ?_
    refine lv_aload_n C0.1 C0.2.1 dX7_count_57 rfl (lv_at hl 0 rfl) ?_
    refine E_g_text C0 hE fk_X7_34 dX7_count_58 ?_
    obtain ⟨v8, e_v8, i_v8, h⟩ := gf_s hR h
    refine Text_n_many C0 hE e_v8 nk_X7_306 dX7_count_61 ?_
    exact pret_i C0 hr hlk hE h i_v8 dX7_count_64
  have h := ite_f q7 h
  by_cases q9 : p1 = 4
  · have h := ite_t q9 h
    refine x_tabIn (tgt := 65) C0 4 i_p1 dX7_count_1 q9 ⟨by decide, by decide, by rfl⟩ (by decide) ?_
    refine lv_iconst (v := I 1) C0.1 C0.2.1 dX7_count_65 rfl ?_
    exact pret_i C0 hr hlk hE h lit_1 dX7_count_66
  have h := ite_f q9 h
  refine x_tabOut (tgt := 67) C0 i_p1 dX7_count_1 (by omega) (by decide) ?_
  refine lv_iconst (v := I (-1)) C0.1 C0.2.1 dX7_count_67 rfl ?_
  exact pret_i C0 hr hlk hE h lit_m1 dX7_count_68
set_option maxRecDepth 100000 in
set_option maxHeartbeats 4000000 in
theorem c_E_row (l : Launch) (D : va_G) (g : Ad) {σ : St} {p1 r : Int} (hR : R32 σ) (i_p1 : in32 p1) (h : E_row σ p1 = some r) : CtL l D g yX7_row cX7_row 2 (some .long) 1 (wE g σ) (wE g σ) [.ref (g.2 0), .int (I p1)] r (in64 r) := by
  intro sz
  refine met_of (by decide) (Nat.le_of_ble_eq_true rfl) (fun p e s m args below meth c ls H locs C0 hml hr hlk hE hl => ?_)
  have C0 : CX p c cX7_row m s args D g RX7 := C0
  have hl : lv_has ls 2 [(0, .ref (g.2 0)), (1, .int (I p1))] := hl
  unfold E_row at h
  refine lv_iload_n C0.1 C0.2.1 dX7_row_0 rfl (lv_at hl 1 rfl) ?_
  obtain ⟨k1, e_k1, h⟩ := jn_s h
  have h_k1 : ∀ (H : Heap) (locs : List Loc) (ls : Array Slot), EW D (va_A (wE g σ) sz) s.heap (wE g σ) H locs → lv_has ls 2 [] → k1 = some r → W p l e (rmk 1) s m args below meth c H locs 0 0 (MQ below (QCl D (wE g σ) r (in64 r) (va_A (wE g σ) sz)) args s 0 0 (va_A (wE g σ) sz)) (F0 m 15 ls []) := by
    intro H locs ls hE hl h
    have h := e_k1.symm.trans h
    cases h
  refine x_if_lt C0 i_p1 dX7_row_1 (tgt := 15) (by decide) (fun c9 => ?_) (fun c9 => ?_)
  · have h := ite_t c9 h
    exact h_k1 _ _ _ hE (lv_sub hl [] rfl) h
  · have h := ite_f c9 h
    refine lv_iload_n C0.1 C0.2.1 dX7_row_4 rfl (lv_at hl 1 rfl) ?_
    refine lv_aload_n C0.1 C0.2.1 dX7_row_5 rfl (lv_at hl 0 rfl) ?_
    refine E_g_told C0 hE fk_X7_19 dX7_row_6 ?_
    obtain ⟨v2, e_v2, i_v2, h⟩ := gf_s hR h
    refine Row_n_many C0 hE e_v2 nk_X7_303 dX7_row_9 ?_
    refine x_icmp_lt C0 i_p1 i_v2 dX7_row_12 (tgt := 26) (by decide) (fun c9 => ?_) (fun c9 => ?_)
    · have h := ite_t c9 h
      refine lv_aload_n C0.1 C0.2.1 dX7_row_26 rfl (lv_at hl 0 rfl) ?_
      refine E_g_told C0 hE fk_X7_19 dX7_row_27 ?_
      refine Row_n_numbers C0 hE nk_X7_314 dX7_row_30 ?_
      refine lv_iload_n C0.1 C0.2.1 dX7_row_33 rfl (lv_at hl 1 rfl) ?_
      obtain ⟨v3, e_v3, i_v3, h⟩ := rd_s hR h
      refine Row_numbers_l C0 hE i_p1 e_v3 dX7_row_34 ?_
      exact pret_l C0 hr hlk hE h (in64_of i_v3) dX7_row_35
    · have h := ite_f c9 h
      exact h_k1 _ _ _ hE (lv_sub hl [] rfl) h
set_option maxRecDepth 100000 in
set_option maxHeartbeats 4000000 in
theorem c_Shape_stepsOfMore (l : Launch) (D : va_G) (g : Ad) {σ : St} {p1 p2 r : Int} (i_p1 : in32 p1) (i_p2 : in32 p2) (h : Shape_stepsOfMore p1 p2 = some r) : CtI l D g yX3_stepsOfMore cX3_stepsOfMore 5 (some .int) 2 (wE g σ) (wE g σ) [.int (I p1), .int (I p2)] r (in32 r) := by
  intro sz
  refine met_of (by decide) (Nat.le_of_ble_eq_true rfl) (fun p e s m args below meth c ls H locs C0 hml hr hlk hE hl => ?_)
  have C0 : CX p c cX3_stepsOfMore m s args D g RX3 := C0
  have hl : lv_has ls 5 [(0, .int (I p1)), (1, .int (I p2))] := hl
  unfold Shape_stepsOfMore at h
  refine lv_iconst (v := I 1) C0.1 C0.2.1 dX3_stepsOfMore_0 rfl ?_
  refine lv_istore_n (lv' := [(2, .int (I 1)), (0, .int (I p1)), (1, .int (I p2))]) C0.1 C0.2.1 dX3_stepsOfMore_1 rfl hl (by decide) rfl (fun ls hl => ?_)
  refine lv_iload_n C0.1 C0.2.1 dX3_stepsOfMore_2 rfl (lv_at hl 1 rfl) ?_
  refine lv_istore_n (lv' := [(3, .int (I p1)), (2, .int (I 1)), (0, .int (I p1)), (1, .int (I p2))]) C0.1 C0.2.1 dX3_stepsOfMore_3 rfl hl (by decide) rfl (fun ls hl => ?_)
  refine lv_iload_n C0.1 C0.2.1 dX3_stepsOfMore_4 rfl (lv_at hl 3 rfl) ?_
  refine lv_istore (lv' := [(4, .int (I p2)), (3, .int (I p1)), (2, .int (I 1)), (0, .int (I p1)), (1, .int (I p2))]) C0.1 C0.2.1 dX3_stepsOfMore_5 hl (by decide) rfl (fun ls hl => ?_)
  have hL7 : ∀ (n : Nat) (x1 : Int) (i_x1 : in32 x1) (x2 : Int) (i_x2 : in32 x2) (x3 : Int) (i_x3 : in32 x3) (H : Heap) (locs : List Loc) (ls : Array Slot), EW D (va_A (wE g σ) sz) s.heap (wE g σ) H locs → lv_has ls 5 [(2, .int (I x1)), (3, .int (I x2)), (4, .int (I x3))] → Shape_stepsOfMore_L7 n x1 x2 x3 = some r → W p l e (rmk 2) s m args below meth c H locs 0 0 (MQ below (QCi D (wE g σ) r (in32 r) (va_A (wE g σ) sz)) args s 0 0 (va_A (wE g σ) sz)) (F0 m 7 ls []) := by
    intro n
    induction n with
    | zero => intros; rename_i h; cases h
    | succ n ih4 =>
      intro x1 i_x1 x2 i_x2 x3 i_x3 H locs ls hE hl h
      unfold Shape_stepsOfMore_L7 at h
      refine lv_iload_n C0.1 C0.2.1 dX3_stepsOfMore_7 rfl (lv_at hl 1 rfl) ?_
      refine x_if_le C0 i_x2 dX3_stepsOfMore_8 (tgt := 50) (by decide) (fun c9 => ?_) (fun c9 => ?_)
      · have h := ite_f c9 h
        refine lv_iload_n C0.1 C0.2.1 dX3_stepsOfMore_50 rfl (lv_at hl 0 rfl) ?_
        exact pret_i C0 hr hlk hE h i_x1 dX3_stepsOfMore_51
      · have h := ite_t c9 h
        refine lv_iload C0.1 C0.2.1 dX3_stepsOfMore_11 (lv_at hl 2 rfl) ?_
        refine x_if_le C0 i_x3 dX3_stepsOfMore_13 (tgt := 50) (by decide) (fun c9 => ?_) (fun c9 => ?_)
        · have h := ite_f c9 h
          refine lv_iload_n C0.1 C0.2.1 dX3_stepsOfMore_50 rfl (lv_at hl 0 rfl) ?_
          exact pret_i C0 hr hlk hE h i_x1 dX3_stepsOfMore_51
        · have h := ite_t c9 h
          refine lv_iload C0.1 C0.2.1 dX3_stepsOfMore_16 (lv_at hl 2 rfl) ?_
          refine lv_iconst (v := I 2) C0.1 C0.2.1 dX3_stepsOfMore_18 rfl ?_
          obtain ⟨v5, e_v5, i_v5, h⟩ := orem_s lit_2 h
          refine x_rem C0 i_x3 lit_2 e_v5 dX3_stepsOfMore_19 ?_
          refine lv_iconst (v := I 1) C0.1 C0.2.1 dX3_stepsOfMore_20 rfl ?_
          obtain ⟨k7, e_k7, h⟩ := jn_s h
          have h_k7 : ∀ (x6 : Int) (i_x6 : in32 x6) (H : Heap) (locs : List Loc) (ls : Array Slot), EW D (va_A (wE g σ) sz) s.heap (wE g σ) H locs → lv_has ls 5 [(2, .int (I x1)), (4, .int (I x3))] → k7 x6 = some r → W p l e (rmk 2) s m args below meth c H locs 0 0 (MQ below (QCi D (wE g σ) r (in32 r) (va_A (wE g σ) sz)) args s 0 0 (va_A (wE g σ) sz)) (F0 m 35 ls [.int (I x6)]) := by
            intro x6 i_x6 H locs ls hE hl h
            have h := (congrFun e_k7 x6).symm.trans h
            refine lv_istore_n (lv' := [(3, .int (I x6)), (2, .int (I x1)), (4, .int (I x3))]) C0.1 C0.2.1 dX3_stepsOfMore_35 rfl hl (by decide) rfl (fun ls hl => ?_)
            obtain ⟨v8, e_v8, i_v8, h⟩ := oadd_s h
            refine x_iinc (lv' := [(2, .int (I v8)), (3, .int (I x6)), (4, .int (I x3))]) C0 dX3_stepsOfMore_36 hl (k := 1) rfl e_v8 (by decide) rfl (fun ls hl => ?_)
            refine lv_iload C0.1 C0.2.1 dX3_stepsOfMore_39 (lv_at hl 2 rfl) ?_
            refine lv_iconst (v := I 1) C0.1 C0.2.1 dX3_stepsOfMore_41 rfl ?_
            obtain ⟨v9, e_v9, i_v9, h⟩ := osub_s h
            refine x_sub C0 e_v9 dX3_stepsOfMore_42 ?_
            refine lv_iconst (v := I 2) C0.1 C0.2.1 dX3_stepsOfMore_43 rfl ?_
            obtain ⟨v10, e_v10, i_v10, h⟩ := odiv_s i_v9 h
            refine x_div C0 i_v9 lit_2 e_v10 dX3_stepsOfMore_44 ?_
            refine lv_istore (lv' := [(4, .int (I v10)), (2, .int (I v8)), (3, .int (I x6))]) C0.1 C0.2.1 dX3_stepsOfMore_45 hl (by decide) rfl (fun ls hl => ?_)
            refine x_goto C0 dX3_stepsOfMore_47 (tgt := 7) (by decide) ?_
            exact ih4 v8 i_v8 x6 i_x6 v10 i_v10 _ _ _ hE (lv_sub hl [1, 2, 0] rfl) h
          refine x_icmp_ne C0 i_v5 lit_1 dX3_stepsOfMore_21 (tgt := 31) (by decide) (fun c9 => ?_) (fun c9 => ?_)
          · have h := ite_f c9 h
            refine lv_iload_n C0.1 C0.2.1 dX3_stepsOfMore_31 rfl (lv_at hl 1 rfl) ?_
            obtain ⟨v11, h_v11, h⟩ := bndp_s h
            refine callS_i (rest := []) C0 hml hE (c_Shape_rightSize l D g (σ := σ) i_x2 h_v11) kw_X3_35 ⟨Nat.le_of_ble_eq_true rfl, Nat.le_of_ble_eq_true rfl⟩ rfl hl.1 rfl (Nat.le_of_ble_eq_true rfl) dX3_stepsOfMore_32 ⟨Nat.zero_le _, Nat.zero_le _⟩ (fun H locs hE i_v11 => ?_)
            exact h_k7 v11 i_v11 _ _ _ hE (lv_sub hl [0, 2] rfl) h
          · have h := ite_t c9 h
            refine lv_iload_n C0.1 C0.2.1 dX3_stepsOfMore_24 rfl (lv_at hl 1 rfl) ?_
            obtain ⟨v12, h_v12, h⟩ := bndp_s h
            refine callS_i (rest := []) C0 hml hE (c_Shape_leftSize l D g (σ := σ) i_x2 h_v12) kw_X3_32 ⟨Nat.le_of_ble_eq_true rfl, Nat.le_of_ble_eq_true rfl⟩ rfl hl.1 rfl (Nat.le_of_ble_eq_true rfl) dX3_stepsOfMore_25 ⟨Nat.zero_le _, Nat.zero_le _⟩ (fun H locs hE i_v12 => ?_)
            refine x_goto C0 dX3_stepsOfMore_28 (tgt := 35) (by decide) ?_
            exact h_k7 v12 i_v12 _ _ _ hE (lv_sub hl [0, 2] rfl) h
  exact hL7 FU 1 lit_1 p1 i_p1 p2 i_p2 _ _ _ hE (lv_sub hl [2, 1, 0] rfl) h
set_option maxRecDepth 100000 in
set_option maxHeartbeats 4000000 in
theorem c_Shape_steps (l : Launch) (D : va_G) (g : Ad) {σ : St} {p1 r : Int} (i_p1 : in32 p1) (h : Shape_steps p1 = some r) : CtI l D g yX3_steps cX3_steps 3 (some .int) 3 (wE g σ) (wE g σ) [.int (I p1)] r (in32 r) := by
  intro sz
  refine met_of (by decide) (Nat.le_of_ble_eq_true rfl) (fun p e s m args below meth c ls H locs C0 hml hr hlk hE hl => ?_)
  have C0 : CX p c cX3_steps m s args D g RX3 := C0
  have hl : lv_has ls 3 [(0, .int (I p1))] := hl
  unfold Shape_steps at h
  refine lv_iconst (v := I 1) C0.1 C0.2.1 dX3_steps_0 rfl ?_
  refine lv_istore_n (lv' := [(1, .int (I 1)), (0, .int (I p1))]) C0.1 C0.2.1 dX3_steps_1 rfl hl (by decide) rfl (fun ls hl => ?_)
  refine lv_iload_n C0.1 C0.2.1 dX3_steps_2 rfl (lv_at hl 1 rfl) ?_
  refine lv_istore_n (lv' := [(2, .int (I p1)), (1, .int (I 1)), (0, .int (I p1))]) C0.1 C0.2.1 dX3_steps_3 rfl hl (by decide) rfl (fun ls hl => ?_)
  have hL4 : ∀ (n : Nat) (x1 : Int) (i_x1 : in32 x1) (x2 : Int) (i_x2 : in32 x2) (H : Heap) (locs : List Loc) (ls : Array Slot), EW D (va_A (wE g σ) sz) s.heap (wE g σ) H locs → lv_has ls 3 [(1, .int (I x1)), (2, .int (I x2))] → Shape_steps_L4 n x1 x2 = some r → W p l e (rmk 3) s m args below meth c H locs 0 0 (MQ below (QCi D (wE g σ) r (in32 r) (va_A (wE g σ) sz)) args s 0 0 (va_A (wE g σ) sz)) (F0 m 4 ls []) := by
    intro n
    induction n with
    | zero => intros; rename_i h; cases h
    | succ n ih3 =>
      intro x1 i_x1 x2 i_x2 H locs ls hE hl h
      unfold Shape_steps_L4 at h
      refine lv_iload_n C0.1 C0.2.1 dX3_steps_4 rfl (lv_at hl 1 rfl) ?_
      refine x_if_le C0 i_x2 dX3_steps_5 (tgt := 33) (by decide) (fun c9 => ?_) (fun c9 => ?_)
      · have h := ite_f c9 h
        refine lv_iload_n C0.1 C0.2.1 dX3_steps_33 rfl (lv_at hl 0 rfl) ?_
        exact pret_i C0 hr hlk hE h i_x1 dX3_steps_34
      · have h := ite_t c9 h
        refine lv_iload_n C0.1 C0.2.1 dX3_steps_8 rfl (lv_at hl 0 rfl) ?_
        refine lv_iconst (v := I 1) C0.1 C0.2.1 dX3_steps_9 rfl ?_
        refine lv_iload_n C0.1 C0.2.1 dX3_steps_10 rfl (lv_at hl 1 rfl) ?_
        obtain ⟨v4, h_v4, h⟩ := bndp_s h
        refine callS_i (rest := [.int (I 1), .int (I x1)]) C0 hml hE (c_Shape_leftSize l D g (σ := σ) i_x2 h_v4) kw_X3_32 ⟨Nat.le_of_ble_eq_true rfl, Nat.le_of_ble_eq_true rfl⟩ rfl hl.1 rfl (Nat.le_of_ble_eq_true rfl) dX3_steps_11 ⟨Nat.zero_le _, Nat.zero_le _⟩ (fun H locs hE i_v4 => ?_)
        refine lv_iload_n C0.1 C0.2.1 dX3_steps_14 rfl (lv_at hl 1 rfl) ?_
        obtain ⟨v5, h_v5, h⟩ := bndp_s h
        refine callS_i (rest := [.int (I v4), .int (I 1), .int (I x1)]) C0 hml hE (c_Shape_rightSize l D g (σ := σ) i_x2 h_v5) kw_X3_35 ⟨Nat.le_of_ble_eq_true rfl, Nat.le_of_ble_eq_true rfl⟩ rfl hl.1 rfl (Nat.le_of_ble_eq_true rfl) dX3_steps_15 ⟨Nat.zero_le _, Nat.zero_le _⟩ (fun H locs hE i_v5 => ?_)
        obtain ⟨v6, h_v6, h⟩ := bndp_s h
        refine callS_i (rest := [.int (I 1), .int (I x1)]) C0 hml hE (c_Shape_stepsOfMore l D g (σ := σ) i_v4 i_v5 h_v6) kw_X3_38 ⟨Nat.le_of_ble_eq_true rfl, Nat.le_of_ble_eq_true rfl⟩ rfl hl.1 rfl (Nat.le_of_ble_eq_true rfl) dX3_steps_18 ⟨Nat.zero_le _, Nat.zero_le _⟩ (fun H locs hE i_v6 => ?_)
        obtain ⟨v7, e_v7, i_v7, h⟩ := oadd_s h
        refine x_add C0 e_v7 dX3_steps_21 ?_
        obtain ⟨v8, e_v8, i_v8, h⟩ := oadd_s h
        refine x_add C0 e_v8 dX3_steps_22 ?_
        refine lv_istore_n (lv' := [(1, .int (I v8)), (2, .int (I x2))]) C0.1 C0.2.1 dX3_steps_23 rfl hl (by decide) rfl (fun ls hl => ?_)
        refine lv_iload_n C0.1 C0.2.1 dX3_steps_24 rfl (lv_at hl 1 rfl) ?_
        refine lv_iconst (v := I 1) C0.1 C0.2.1 dX3_steps_25 rfl ?_
        obtain ⟨v9, e_v9, i_v9, h⟩ := osub_s h
        refine x_sub C0 e_v9 dX3_steps_26 ?_
        refine lv_iconst (v := I 2) C0.1 C0.2.1 dX3_steps_27 rfl ?_
        obtain ⟨v10, e_v10, i_v10, h⟩ := odiv_s i_v9 h
        refine x_div C0 i_v9 lit_2 e_v10 dX3_steps_28 ?_
        refine lv_istore_n (lv' := [(2, .int (I v10)), (1, .int (I v8))]) C0.1 C0.2.1 dX3_steps_29 rfl hl (by decide) rfl (fun ls hl => ?_)
        refine x_goto C0 dX3_steps_30 (tgt := 4) (by decide) ?_
        exact ih3 v8 i_v8 v10 i_v10 _ _ _ hE (lv_sub hl [1, 0] rfl) h
  exact hL4 FU 1 lit_1 p1 i_p1 _ _ _ hE (lv_sub hl [1, 0] rfl) h
set_option maxRecDepth 100000 in
set_option maxHeartbeats 4000000 in
theorem c_E_size (l : Launch) (D : va_G) (g : Ad) {σ σr : St} {p1 r : Int} (hR : R32 σ) (i_p1 : in32 p1) (h : E_size σ p1 = some (r, σr)) : CtI l D g yX7_size cX7_size 3 (some .int) 4 (wE g σ) (wE g σr) [.ref (g.2 0), .int (I p1)] r (in32 r ∧ R32 σr) := by
  intro sz
  refine met_of (by decide) (Nat.le_of_ble_eq_true rfl) (fun p e s m args below meth c ls H locs C0 hml hr hlk hE hl => ?_)
  have C0 : CX p c cX7_size m s args D g RX7 := C0
  have hl : lv_has ls 3 [(0, .ref (g.2 0)), (1, .int (I p1))] := hl
  unfold E_size at h
  refine lv_iload_n C0.1 C0.2.1 dX7_size_0 rfl (lv_at hl 1 rfl) ?_
  obtain ⟨v1, h_v1, h⟩ := bndp_s h
  refine callS_i (rest := []) C0 hml hE (c_E_isPlace l D g (σ := σ) i_p1 h_v1) kw_X7_86 ⟨Nat.le_of_ble_eq_true rfl, Nat.le_of_ble_eq_true rfl⟩ rfl hl.1 rfl (Nat.le_of_ble_eq_true rfl) dX7_size_1 ⟨Nat.zero_le _, Nat.zero_le _⟩ (fun H locs hE i_v1 => ?_)
  refine x_if_ne C0 i_v1 dX7_size_4 (tgt := 9) (by decide) (fun c9 => ?_) (fun c9 => ?_)
  · have h := ite_f c9 h
    refine lv_aload_n C0.1 C0.2.1 dX7_size_9 rfl (lv_at hl 0 rfl) ?_
    refine E_g_sizes C0 hE fk_X7_53 dX7_size_10 ?_
    refine lv_iload_n C0.1 C0.2.1 dX7_size_13 rfl (lv_at hl 1 rfl) ?_
    obtain ⟨v2, e_v2, i_v2, h⟩ := rd_s hR h
    refine E_sizes_l C0 hE i_p1 e_v2 dX7_size_14 ?_
    refine lv_istore_n (lv' := [(2, .int (I v2)), (0, .ref (g.2 0)), (1, .int (I p1))]) C0.1 C0.2.1 dX7_size_15 rfl hl (by decide) rfl (fun ls hl => ?_)
    refine lv_aload_n C0.1 C0.2.1 dX7_size_16 rfl (lv_at hl 1 rfl) ?_
    refine E_g_told C0 hE fk_X7_19 dX7_size_17 ?_
    refine lv_iload_n C0.1 C0.2.1 dX7_size_20 rfl (lv_at hl 0 rfl) ?_
    obtain ⟨v3, h_v3, h⟩ := bndp_s h
    refine callS_i (rest := [.ref (g.2 2)]) C0 hml hE (c_Shape_steps l D g (σ := σ) i_v2 h_v3) kw_X7_154 ⟨Nat.le_of_ble_eq_true rfl, Nat.le_of_ble_eq_true rfl⟩ rfl hl.1 rfl (Nat.le_of_ble_eq_true rfl) dX7_size_21 ⟨Nat.zero_le _, Nat.zero_le _⟩ (fun H locs hE i_v3 => ?_)
    refine x_i2l C0 i_v3 dX7_size_24 ?_
    refine lv_iload_n C0.1 C0.2.1 dX7_size_25 rfl (lv_at hl 0 rfl) ?_
    obtain ⟨k5, e_k5, h⟩ := jn_s h
    have h_k5 : ∀ (x4 : Int) (i_x4 : in64 x4) (H : Heap) (locs : List Loc) (ls : Array Slot), EW D (va_A (wE g σ) sz) s.heap (wE g σ) H locs → lv_has ls 3 [(2, .int (I v2))] → k5 x4 = some (r, σr) → W p l e (rmk 4) s m args below meth c H locs 0 0 (MQ below (QCi D (wE g σr) r (in32 r ∧ R32 σr) (va_A (wE g σ) sz)) args s 0 0 (va_A (wE g σ) sz)) (F0 m 42 ls [.long (J x4), .long (J v3), .ref (g.2 2)]) := by
      intro x4 i_x4 H locs ls hE hl h
      have h := (congrFun e_k5 x4).symm.trans h
      obtain ⟨v6, s7, h_v6, h⟩ := bnd_s h
      refine callV_v (rest := []) C0 hml hE (Row_rec C0 hE) (c_Row_tell1 l D g hR (in64_of i_v3) i_x4 h_v6) kw_X7_162 ⟨Nat.le_of_ble_eq_true rfl, Nat.le_of_ble_eq_true rfl⟩ rfl hl.1 rfl (Nat.le_of_ble_eq_true rfl) dX7_size_42 ⟨Nat.zero_le _, Nat.zero_le _⟩ (fun H locs hE hR => ?_)
      refine lv_iload_n C0.1 C0.2.1 dX7_size_45 rfl (lv_at hl 0 rfl) ?_
      exact ret_i (wf := wE g) C0 hr hlk hE h i_v2 hR dX7_size_46
    refine x_if_ne C0 i_v2 dX7_size_26 (tgt := 35) (by decide) (fun c9 => ?_) (fun c9 => ?_)
    · have h := ite_f c9 h
      refine lv_iload_n C0.1 C0.2.1 dX7_size_35 rfl (lv_at hl 0 rfl) ?_
      refine lv_iconst (v := I 1) C0.1 C0.2.1 dX7_size_36 rfl ?_
      obtain ⟨v8, e_v8, i_v8, h⟩ := osub_s h
      refine x_sub C0 e_v8 dX7_size_37 ?_
      obtain ⟨v9, h_v9, h⟩ := bndp_s h
      refine callS_i (rest := [.long (J v3), .ref (g.2 2)]) C0 hml hE (c_Shape_depth l D g (σ := σ) i_v8 h_v9) kw_X7_159 ⟨Nat.le_of_ble_eq_true rfl, Nat.le_of_ble_eq_true rfl⟩ rfl hl.1 rfl (Nat.le_of_ble_eq_true rfl) dX7_size_38 ⟨Nat.zero_le _, Nat.zero_le _⟩ (fun H locs hE i_v9 => ?_)
      refine x_i2l C0 i_v9 dX7_size_41 ?_
      exact h_k5 v9 (in64_of i_v9) _ _ _ hE (lv_sub hl [0] rfl) h
    · have h := ite_t c9 h
      refine x_ldc2 (v := (-1)) C0 ck_X7_157 (by decide +kernel) dX7_size_29 ?_
      refine x_goto C0 dX7_size_32 (tgt := 42) (by decide) ?_
      exact h_k5 (-1) (by decide) _ _ _ hE (lv_sub hl [0] rfl) h
  · have h := ite_t c9 h
    refine lv_iconst (v := I (-1)) C0.1 C0.2.1 dX7_size_7 rfl ?_
    exact ret_i (wf := wE g) C0 hr hlk hE h lit_m1 hR dX7_size_8
set_option maxRecDepth 100000 in
set_option maxHeartbeats 4000000 in
theorem c_E_own (l : Launch) (D : va_G) (g : Ad) {σ σr : St} {p1 r : Int} (hR : R32 σ) (i_p1 : in32 p1) (h : E_own σ p1 = some (r, σr)) : CtI l D g yX7_own cX7_own 6 (some .int) 5 (wE g σ) (wE g σr) [.ref (g.2 0), .int (I p1)] r (in32 r ∧ R32 σr) := by
  intro sz
  refine met_of (by decide) (Nat.le_of_ble_eq_true rfl) (fun p e s m args below meth c ls H locs C0 hml hr hlk hE hl => ?_)
  have C0 : CX p c cX7_own m s args D g RX7 := C0
  have hl : lv_has ls 6 [(0, .ref (g.2 0)), (1, .int (I p1))] := hl
  unfold E_own at h
  refine lv_iload_n C0.1 C0.2.1 dX7_own_0 rfl (lv_at hl 1 rfl) ?_
  obtain ⟨v1, h_v1, h⟩ := bndp_s h
  refine callS_i (rest := []) C0 hml hE (c_E_isPlace l D g (σ := σ) i_p1 h_v1) kw_X7_86 ⟨Nat.le_of_ble_eq_true rfl, Nat.le_of_ble_eq_true rfl⟩ rfl hl.1 rfl (Nat.le_of_ble_eq_true rfl) dX7_own_1 ⟨Nat.zero_le _, Nat.zero_le _⟩ (fun H locs hE i_v1 => ?_)
  refine x_if_ne C0 i_v1 dX7_own_4 (tgt := 9) (by decide) (fun c9 => ?_) (fun c9 => ?_)
  · have h := ite_f c9 h
    refine lv_aload_n C0.1 C0.2.1 dX7_own_9 rfl (lv_at hl 0 rfl) ?_
    refine E_g_pool C0 hE fk_X7_10 dX7_own_10 ?_
    obtain ⟨v2, s3, h_v2, h⟩ := bnd_s h
    refine callV_v (rest := []) C0 hml hE (Pool_rec C0 hE) (c_Pool_forget l D g hR h_v2) kw_X7_277 ⟨Nat.le_of_ble_eq_true rfl, Nat.le_of_ble_eq_true rfl⟩ rfl hl.1 rfl (Nat.le_of_ble_eq_true rfl) dX7_own_13 ⟨Nat.zero_le _, Nat.zero_le _⟩ (fun H locs hE hR => ?_)
    refine lv_iconst (v := I 0) C0.1 C0.2.1 dX7_own_16 rfl ?_
    refine lv_istore_n (lv' := [(2, .int (I 0)), (0, .ref (g.2 0)), (1, .int (I p1))]) C0.1 C0.2.1 dX7_own_17 rfl hl (by decide) rfl (fun ls hl => ?_)
    obtain ⟨k5, e_k5, h⟩ := jn_s h
    have h_k5 : ∀ (s4 : St) (hR : R32 s4) (H : Heap) (locs : List Loc) (ls : Array Slot), EW D (va_A (wE g σ) sz) s.heap (wE g s4) H locs → lv_has ls 6 [(0, .ref (g.2 0)), (1, .int (I p1))] → k5 s4 = some (r, σr) → W p l e (rmk 5) s m args below meth c H locs 0 0 (MQ below (QCi D (wE g σr) r (in32 r ∧ R32 σr) (va_A (wE g σ) sz)) args s 0 0 (va_A (wE g σ) sz)) (F0 m 41 ls []) := by
      intro s4 hR H locs ls hE hl h
      have h := (congrFun e_k5 s4).symm.trans h
      refine lv_aload_n C0.1 C0.2.1 dX7_own_41 rfl (lv_at hl 0 rfl) ?_
      refine E_g_pool C0 hE fk_X7_10 dX7_own_42 ?_
      refine lv_aload_n C0.1 C0.2.1 dX7_own_45 rfl (lv_at hl 0 rfl) ?_
      refine E_g_trees C0 hE fk_X7_49 dX7_own_46 ?_
      refine lv_iload_n C0.1 C0.2.1 dX7_own_49 rfl (lv_at hl 1 rfl) ?_
      obtain ⟨v6, e_v6, i_v6, h⟩ := rd_s hR h
      refine E_trees_l C0 hE i_p1 e_v6 dX7_own_50 ?_
      refine lv_aload_n C0.1 C0.2.1 dX7_own_51 rfl (lv_at hl 0 rfl) ?_
      refine E_g_sizes C0 hE fk_X7_53 dX7_own_52 ?_
      refine lv_iload_n C0.1 C0.2.1 dX7_own_55 rfl (lv_at hl 1 rfl) ?_
      obtain ⟨v7, e_v7, i_v7, h⟩ := rd_s hR h
      refine E_sizes_l C0 hE i_p1 e_v7 dX7_own_56 ?_
      obtain ⟨v8, s9, h_v8, h⟩ := bnd_s h
      refine callV_v (rest := []) C0 hml hE (Pool_rec C0 hE) (c_Pool_spread l D g hR i_v6 i_v7 h_v8) kw_X7_280 ⟨Nat.le_of_ble_eq_true rfl, Nat.le_of_ble_eq_true rfl⟩ rfl hl.1 rfl (Nat.le_of_ble_eq_true rfl) dX7_own_57 ⟨Nat.zero_le _, Nat.zero_le _⟩ (fun H locs hE hR => ?_)
      refine lv_iconst (v := I 0) C0.1 C0.2.1 dX7_own_60 rfl ?_
      refine lv_istore_n (lv' := [(2, .int (I 0)), (0, .ref (g.2 0)), (1, .int (I p1))]) C0.1 C0.2.1 dX7_own_61 rfl hl (by decide) rfl (fun ls hl => ?_)
      refine lv_iconst (v := I 0) C0.1 C0.2.1 dX7_own_62 rfl ?_
      refine lv_istore_n (lv' := [(3, .int (I 0)), (2, .int (I 0)), (0, .ref (g.2 0)), (1, .int (I p1))]) C0.1 C0.2.1 dX7_own_63 rfl hl (by decide) rfl (fun ls hl => ?_)
      refine lv_iconst (v := I 0) C0.1 C0.2.1 dX7_own_64 rfl ?_
      refine lv_istore (lv' := [(4, .int (I 0)), (3, .int (I 0)), (2, .int (I 0)), (0, .ref (g.2 0)), (1, .int (I p1))]) C0.1 C0.2.1 dX7_own_65 hl (by decide) rfl (fun ls hl => ?_)
      obtain ⟨k13, e_k13, h⟩ := jn_s h
      have h_k13 : ∀ (s10 : St) (hR : R32 s10) (x11 : Int) (i_x11 : in32 x11) (x12 : Int) (i_x12 : in32 x12) (H : Heap) (locs : List Loc) (ls : Array Slot), EW D (va_A (wE g σ) sz) s.heap (wE g s10) H locs → lv_has ls 6 [(0, .ref (g.2 0)), (2, .int (I x11)), (3, .int (I x12))] → k13 s10 x11 x12 = some (r, σr) → W p l e (rmk 5) s m args below meth c H locs 0 0 (MQ below (QCi D (wE g σr) r (in32 r ∧ R32 σr) (va_A (wE g σ) sz)) args s 0 0 (va_A (wE g σ) sz)) (F0 m 124 ls []) := by
        intro s10 hR x11 i_x11 x12 i_x12 H locs ls hE hl h
        have h := (congrFun (congrFun (congrFun e_k13 s10) x11) x12).symm.trans h
        refine lv_aload_n C0.1 C0.2.1 dX7_own_124 rfl (lv_at hl 0 rfl) ?_
        refine E_g_told C0 hE fk_X7_19 dX7_own_125 ?_
        refine lv_iload_n C0.1 C0.2.1 dX7_own_128 rfl (lv_at hl 2 rfl) ?_
        refine x_i2l C0 i_x12 dX7_own_129 ?_
        obtain ⟨v14, s15, h_v14, h⟩ := bnd_s h
        refine callV_v (rest := []) C0 hml hE (Row_rec C0 hE) (c_Row_tell l D g hR (in64_of i_x12) h_v14) kw_X7_171 ⟨Nat.le_of_ble_eq_true rfl, Nat.le_of_ble_eq_true rfl⟩ rfl hl.1 rfl (Nat.le_of_ble_eq_true rfl) dX7_own_130 ⟨Nat.zero_le _, Nat.zero_le _⟩ (fun H locs hE hR => ?_)
        refine lv_iload_n C0.1 C0.2.1 dX7_own_133 rfl (lv_at hl 1 rfl) ?_
        exact ret_i (wf := wE g) C0 hr hlk hE h i_x11 hR dX7_own_134
      have hL67 : ∀ (n : Nat) (s20 : St) (hR : R32 s20) (x16 : Int) (i_x16 : in32 x16) (x17 : Int) (i_x17 : in32 x17) (x18 : Int) (i_x18 : in32 x18) (H : Heap) (locs : List Loc) (ls : Array Slot), EW D (va_A (wE g σ) sz) s.heap (wE g s20) H locs → lv_has ls 6 [(0, .ref (g.2 0)), (1, .int (I p1)), (2, .int (I x16)), (3, .int (I x17)), (4, .int (I x18))] → E_own_L67 k13 p1 n s20 x16 x17 x18 = some (r, σr) → W p l e (rmk 5) s m args below meth c H locs 0 0 (MQ below (QCi D (wE g σr) r (in32 r ∧ R32 σr) (va_A (wE g σ) sz)) args s 0 0 (va_A (wE g σ) sz)) (F0 m 67 ls []) := by
        intro n
        induction n with
        | zero => intros; rename_i h; cases h
        | succ n ih19 =>
          intro s20 hR x16 i_x16 x17 i_x17 x18 i_x18 H locs ls hE hl h
          unfold E_own_L67 at h
          refine lv_iload C0.1 C0.2.1 dX7_own_67 (lv_at hl 4 rfl) ?_
          refine lv_aload_n C0.1 C0.2.1 dX7_own_69 rfl (lv_at hl 0 rfl) ?_
          refine E_g_sizes C0 hE fk_X7_53 dX7_own_70 ?_
          refine lv_iload_n C0.1 C0.2.1 dX7_own_73 rfl (lv_at hl 1 rfl) ?_
          obtain ⟨v21, e_v21, i_v21, h⟩ := rd_s hR h
          refine E_sizes_l C0 hE i_p1 e_v21 dX7_own_74 ?_
          refine x_icmp_ge C0 i_x18 i_v21 dX7_own_75 (tgt := 124) (by decide) (fun c9 => ?_) (fun c9 => ?_)
          · have h := ite_f c9 h
            exact h_k13 s20 hR x16 i_x16 x17 i_x17 _ _ _ hE (lv_sub hl [0, 2, 3] rfl) h
          · have h := ite_t c9 h
            refine lv_aload_n C0.1 C0.2.1 dX7_own_78 rfl (lv_at hl 0 rfl) ?_
            refine E_g_pool C0 hE fk_X7_10 dX7_own_79 ?_
            refine lv_iload C0.1 C0.2.1 dX7_own_82 (lv_at hl 4 rfl) ?_
            refine lv_iconst (v := I 2) C0.1 C0.2.1 dX7_own_84 rfl ?_
            obtain ⟨v22, s23, h_v22, h⟩ := bnd_s h
            refine callV_i (rest := []) C0 hml hE (Pool_rec C0 hE) (c_Pool_seeAt l D g hR i_x18 lit_2 h_v22) kw_X7_289 ⟨Nat.le_of_ble_eq_true rfl, Nat.le_of_ble_eq_true rfl⟩ rfl hl.1 rfl (Nat.le_of_ble_eq_true rfl) dX7_own_85 ⟨Nat.zero_le _, Nat.zero_le _⟩ (fun H locs hE ⟨i_v22, hR⟩ => ?_)
            refine lv_istore (lv' := [(5, .int (I v22)), (0, .ref (g.2 0)), (1, .int (I p1)), (2, .int (I x16)), (3, .int (I x17)), (4, .int (I x18))]) C0.1 C0.2.1 dX7_own_88 hl (by decide) rfl (fun ls hl => ?_)
            refine lv_iload_n C0.1 C0.2.1 dX7_own_90 rfl (lv_at hl 3 rfl) ?_
            refine lv_iload C0.1 C0.2.1 dX7_own_91 (lv_at hl 0 rfl) ?_
            refine lv_iconst (v := I 2) C0.1 C0.2.1 dX7_own_93 rfl ?_
            obtain ⟨v24, e_v24, i_v24, h⟩ := opure_s h (band_in _ _)
            refine x_and C0 e_v24 dX7_own_94 ?_
            obtain ⟨v25, e_v25, i_v25, h⟩ := oif_s h
            have kk_v25 : W p l e (rmk 5) s m args below meth c H locs 0 0 (MQ below (QCi D (wE g σr) r (in32 r ∧ R32 σr) (va_A (wE g σ) sz)) args s 0 0 (va_A (wE g σ) sz)) (F0 m 103 ls [.int (I v25), .int (I x16)]) := by
              obtain ⟨v26, e_v26, i_v26, h⟩ := oadd_s h
              refine x_add C0 e_v26 dX7_own_103 ?_
              refine lv_istore_n (lv' := [(2, .int (I v26)), (5, .int (I v22)), (0, .ref (g.2 0)), (1, .int (I p1)), (3, .int (I x17)), (4, .int (I x18))]) C0.1 C0.2.1 dX7_own_104 rfl hl (by decide) rfl (fun ls hl => ?_)
              refine lv_iload_n C0.1 C0.2.1 dX7_own_105 rfl (lv_at hl 4 rfl) ?_
              refine lv_iload C0.1 C0.2.1 dX7_own_106 (lv_at hl 1 rfl) ?_
              obtain ⟨v27, e_v27, i_v27, h⟩ := oif_s h
              have kk_v27 : W p l e (rmk 5) s m args below meth c H locs 0 0 (MQ below (QCi D (wE g σr) r (in32 r ∧ R32 σr) (va_A (wE g σ) sz)) args s 0 0 (va_A (wE g σ) sz)) (F0 m 116 ls [.int (I v27), .int (I x17)]) := by
                obtain ⟨v28, e_v28, i_v28, h⟩ := oadd_s h
                refine x_add C0 e_v28 dX7_own_116 ?_
                refine lv_istore_n (lv' := [(3, .int (I v28)), (2, .int (I v26)), (5, .int (I v22)), (0, .ref (g.2 0)), (1, .int (I p1)), (4, .int (I x18))]) C0.1 C0.2.1 dX7_own_117 rfl hl (by decide) rfl (fun ls hl => ?_)
                obtain ⟨v29, e_v29, i_v29, h⟩ := oadd_s h
                refine x_iinc (lv' := [(4, .int (I v29)), (3, .int (I v28)), (2, .int (I v26)), (5, .int (I v22)), (0, .ref (g.2 0)), (1, .int (I p1))]) C0 dX7_own_118 hl (k := 5) rfl e_v29 (by decide) rfl (fun ls hl => ?_)
                refine x_goto C0 dX7_own_121 (tgt := 67) (by decide) ?_
                exact ih19 s23 hR v26 i_v26 v28 i_v28 v29 i_v29 _ _ _ hE (lv_sub hl [4, 5, 2, 1, 0] rfl) h
              refine x_if_ne C0 i_v22 dX7_own_108 (tgt := 115) (by decide) (fun c9 => ?_) (fun c9 => ?_)
              · have e9 := e_v27.trans (if_neg c9)
                refine lv_iconst (v := I 0) C0.1 C0.2.1 dX7_own_115 rfl ?_
                rw [e9] at kk_v27; exact kk_v27
              · have e9 := e_v27.trans (if_pos c9)
                refine lv_iconst (v := I 1) C0.1 C0.2.1 dX7_own_111 rfl ?_
                refine x_goto C0 dX7_own_112 (tgt := 116) (by decide) ?_
                rw [e9] at kk_v27; exact kk_v27
            refine x_if_ne C0 i_v24 dX7_own_95 (tgt := 102) (by decide) (fun c9 => ?_) (fun c9 => ?_)
            · have e9 := e_v25.trans (if_neg c9)
              refine lv_iconst (v := I 0) C0.1 C0.2.1 dX7_own_102 rfl ?_
              rw [e9] at kk_v25; exact kk_v25
            · have e9 := e_v25.trans (if_pos c9)
              refine lv_iconst (v := I 1) C0.1 C0.2.1 dX7_own_98 rfl ?_
              refine x_goto C0 dX7_own_99 (tgt := 103) (by decide) ?_
              rw [e9] at kk_v25; exact kk_v25
      exact hL67 FU s9 hR 0 lit_0 0 lit_0 0 lit_0 _ _ _ hE (lv_sub hl [3, 4, 2, 1, 0] rfl) h
    have hL18 : ∀ (n : Nat) (s32 : St) (hR : R32 s32) (x30 : Int) (i_x30 : in32 x30) (H : Heap) (locs : List Loc) (ls : Array Slot), EW D (va_A (wE g σ) sz) s.heap (wE g s32) H locs → lv_has ls 6 [(0, .ref (g.2 0)), (1, .int (I p1)), (2, .int (I x30))] → E_own_L18 k5 p1 n s32 x30 = some (r, σr) → W p l e (rmk 5) s m args below meth c H locs 0 0 (MQ below (QCi D (wE g σr) r (in32 r ∧ R32 σr) (va_A (wE g σ) sz)) args s 0 0 (va_A (wE g σ) sz)) (F0 m 18 ls []) := by
      intro n
      induction n with
      | zero => intros; rename_i h; cases h
      | succ n ih31 =>
        intro s32 hR x30 i_x30 H locs ls hE hl h
        unfold E_own_L18 at h
        refine lv_iload_n C0.1 C0.2.1 dX7_own_18 rfl (lv_at hl 2 rfl) ?_
        refine lv_bipush (v := I 6) C0.1 C0.2.1 dX7_own_19 (by decide +kernel) ?_
        refine x_icmp_ge C0 i_x30 lit_6 dX7_own_21 (tgt := 41) (by decide) (fun c9 => ?_) (fun c9 => ?_)
        · have h := ite_f c9 h
          exact h_k5 s32 hR _ _ _ hE (lv_sub hl [0, 1] rfl) h
        · have h := ite_t c9 h
          refine lv_iload_n C0.1 C0.2.1 dX7_own_24 rfl (lv_at hl 2 rfl) ?_
          refine lv_iload_n C0.1 C0.2.1 dX7_own_25 rfl (lv_at hl 1 rfl) ?_
          obtain ⟨k34, e_k34, h⟩ := jn_s h
          have h_k34 : ∀ (s33 : St) (hR : R32 s33) (H : Heap) (locs : List Loc) (ls : Array Slot), EW D (va_A (wE g σ) sz) s.heap (wE g s33) H locs → lv_has ls 6 [(0, .ref (g.2 0)), (1, .int (I p1)), (2, .int (I x30))] → k34 s33 = some (r, σr) → W p l e (rmk 5) s m args below meth c H locs 0 0 (MQ below (QCi D (wE g σr) r (in32 r ∧ R32 σr) (va_A (wE g σ) sz)) args s 0 0 (va_A (wE g σ) sz)) (F0 m 35 ls []) := by
            intro s33 hR H locs ls hE hl h
            have h := (congrFun e_k34 s33).symm.trans h
            obtain ⟨v35, e_v35, i_v35, h⟩ := oadd_s h
            refine x_iinc (lv' := [(2, .int (I v35)), (0, .ref (g.2 0)), (1, .int (I p1))]) C0 dX7_own_35 hl (k := 2) rfl e_v35 (by decide) rfl (fun ls hl => ?_)
            refine x_goto C0 dX7_own_38 (tgt := 18) (by decide) ?_
            exact ih31 s33 hR v35 i_v35 _ _ _ hE (lv_sub hl [1, 2, 0] rfl) h
          refine x_icmp_eq C0 i_x30 i_p1 dX7_own_26 (tgt := 35) (by decide) (fun c9 => ?_) (fun c9 => ?_)
          · have h := ite_t c9 h
            exact h_k34 s32 hR _ _ _ hE (lv_sub hl [0, 1, 2] rfl) h
          · have h := ite_f c9 h
            refine lv_aload_n C0.1 C0.2.1 dX7_own_29 rfl (lv_at hl 0 rfl) ?_
            refine lv_iload_n C0.1 C0.2.1 dX7_own_30 rfl (lv_at hl 2 rfl) ?_
            refine lv_iconst (v := I 1) C0.1 C0.2.1 dX7_own_31 rfl ?_
            obtain ⟨v36, s37, h_v36, h⟩ := bnd_s h
            refine callV_v (rest := []) C0 hml hE (E_rec C0 hE) (c_E_seeAll l D g hR i_x30 lit_1 h_v36) kw_X7_297 ⟨Nat.le_of_ble_eq_true rfl, Nat.le_of_ble_eq_true rfl⟩ rfl hl.1 rfl (Nat.le_of_ble_eq_true rfl) dX7_own_32 ⟨Nat.zero_le _, Nat.zero_le _⟩ (fun H locs hE hR => ?_)
            exact h_k34 s37 hR _ _ _ hE (lv_sub hl [0, 1, 2] rfl) h
    exact hL18 FU s3 hR 0 lit_0 _ _ _ hE (lv_sub hl [1, 2, 0] rfl) h
  · have h := ite_t c9 h
    refine lv_iconst (v := I (-1)) C0.1 C0.2.1 dX7_own_7 rfl ?_
    exact ret_i (wf := wE g) C0 hr hlk hE h lit_m1 hR dX7_own_8
set_option maxRecDepth 100000 in
set_option maxHeartbeats 4000000 in
theorem c_Lw_held (l : Launch) (D : va_G) (g : Ad) {σ : St} {p1 r : Int} (i_p1 : in32 p1) (h : Lw_held p1 = some r) : CtI l D g yL_held cL_held 1 (some .int) 1 (wE g σ) (wE g σ) [.int (I p1)] r (in32 r) := by
  intro sz
  refine met_of (by decide) (Nat.le_of_ble_eq_true rfl) (fun p e s m args below meth c ls H locs C0 hml hr hlk hE hl => ?_)
  have C0 : CX p c cL_held m s args D g RL := C0
  have hl : lv_has ls 1 [(0, .int (I p1))] := hl
  unfold Lw_held at h
  refine lv_iload_n C0.1 C0.2.1 dL_held_0 rfl (lv_at hl 0 rfl) ?_
  refine lv_sipush (v := I 999) C0.1 C0.2.1 dL_held_1 (by decide +kernel) ?_
  refine x_icmp_le C0 i_p1 lit_999 dL_held_4 (tgt := 13) (by decide) (fun c9 => ?_) (fun c9 => ?_)
  · have h := ite_f c9 h
    refine lv_iload_n C0.1 C0.2.1 dL_held_13 rfl (lv_at hl 0 rfl) ?_
    refine lv_sipush (v := I (-999)) C0.1 C0.2.1 dL_held_14 (by decide +kernel) ?_
    refine x_icmp_ge C0 i_p1 lit_m999 dL_held_17 (tgt := 26) (by decide) (fun c9 => ?_) (fun c9 => ?_)
    · have h := ite_f c9 h
      refine lv_iload_n C0.1 C0.2.1 dL_held_26 rfl (lv_at hl 0 rfl) ?_
      exact pret_i C0 hr hlk hE h i_p1 dL_held_27
    · have h := ite_t c9 h
      refine lv_sipush (v := I (-999)) C0.1 C0.2.1 dL_held_20 (by decide +kernel) ?_
      refine x_goto C0 dL_held_23 (tgt := 27) (by decide) ?_
      exact pret_i C0 hr hlk hE h lit_m999 dL_held_27
  · have h := ite_t c9 h
    refine lv_sipush (v := I 999) C0.1 C0.2.1 dL_held_7 (by decide +kernel) ?_
    refine x_goto C0 dL_held_10 (tgt := 27) (by decide) ?_
    exact pret_i C0 hr hlk hE h lit_999 dL_held_27

-- THE WALKS, written by program
set_option maxRecDepth 100000 in
set_option maxHeartbeats 4000000 in
theorem c_M_sifts (l : Launch) (D : va_G) (g : Ad) {σ σr : St} {p1 r : Int} (hR : R32 σ) (i_p1 : in32 p1) (h : M_sifts σ p1 = some (r, σr)) : CtV l D g yX8_sifts cX8_sifts 12 none 2 (wM g σ) (wM g σr) [.ref (g.2 100), .int (I p1)] (R32 σr) := by
  intro sz
  refine met_of (by decide) (Nat.le_of_ble_eq_true rfl) (fun p e s m args below meth c ls H locs C0 hml hr hlk hE hl => ?_)
  have C0 : CX p c cX8_sifts m s args D g RX8 := C0
  have hl : lv_has ls 12 [(0, .ref (g.2 100)), (1, .int (I p1))] := hl
  unfold M_sifts at h
  refine lv_iconst (v := I 0) C0.1 C0.2.1 dX8_sifts_0 rfl ?_
  refine lv_istore_n (lv' := [(2, .int (I 0)), (0, .ref (g.2 100)), (1, .int (I p1))]) C0.1 C0.2.1 dX8_sifts_1 rfl hl (by decide) rfl (fun ls hl => ?_)
  refine lv_iconst (v := I 1) C0.1 C0.2.1 dX8_sifts_2 rfl ?_
  refine lv_istore_n (lv' := [(3, .int (I 1)), (2, .int (I 0)), (0, .ref (g.2 100)), (1, .int (I p1))]) C0.1 C0.2.1 dX8_sifts_3 rfl hl (by decide) rfl (fun ls hl => ?_)
  refine lv_aload_n C0.1 C0.2.1 dX8_sifts_4 rfl (lv_at hl 2 rfl) ?_
  refine M_g_sizes C0 hE fk_X8_16 dX8_sifts_5 ?_
  refine lv_bipush (v := I 7) C0.1 C0.2.1 dX8_sifts_8 (by decide +kernel) ?_
  obtain ⟨v1, e_v1, i_v1, h⟩ := rd_s hR h
  refine M_sizes_l C0 hE lit_7 e_v1 dX8_sifts_10 ?_
  refine lv_istore (lv' := [(4, .int (I v1)), (3, .int (I 1)), (2, .int (I 0)), (0, .ref (g.2 100)), (1, .int (I p1))]) C0.1 C0.2.1 dX8_sifts_11 hl (by decide) rfl (fun ls hl => ?_)
  refine lv_iconst (v := I 1) C0.1 C0.2.1 dX8_sifts_13 rfl ?_
  refine lv_istore (lv' := [(5, .int (I 1)), (4, .int (I v1)), (3, .int (I 1)), (2, .int (I 0)), (0, .ref (g.2 100)), (1, .int (I p1))]) C0.1 C0.2.1 dX8_sifts_14 hl (by decide) rfl (fun ls hl => ?_)
  have hL16 : ∀ (n : Nat) (s6 : St) (hR : R32 s6) (x2 : Int) (i_x2 : in32 x2) (x3 : Int) (i_x3 : in32 x3) (x4 : Int) (i_x4 : in32 x4) (x5 : Int) (i_x5 : in32 x5) (H : Heap) (locs : List Loc) (ls : Array Slot), EW D (va_A (wM g σ) sz) s.heap (wM g s6) H locs → lv_has ls 12 [(0, .ref (g.2 100)), (1, .int (I p1)), (2, .int (I x2)), (3, .int (I x3)), (4, .int (I x4)), (5, .int (I x5))] → M_sifts_L16 p1 n s6 x2 x3 x4 x5 = some (r, σr) → W p l e (rmk 2) s m args below meth c H locs 0 0 (MQ below (QCv D (wM g σr) (R32 σr) (va_A (wM g σ) sz)) args s 0 0 (va_A (wM g σ) sz)) (F0 m 16 ls []) := by
    intro n
    induction n with
    | zero => intros; rename_i h; cases h
    | succ n ih7 =>
      intro s6 hR x2 i_x2 x3 i_x3 x4 i_x4 x5 i_x5 H locs ls hE hl h
      unfold M_sifts_L16 at h
      refine lv_iload C0.1 C0.2.1 dX8_sifts_16 (lv_at hl 5 rfl) ?_
      refine x_if_eq C0 i_x5 dX8_sifts_18 (tgt := 208) (by decide) (fun c9 => ?_) (fun c9 => ?_)
      · have h := ite_t c9 h
        exact ret_v (wf := wM g) C0 hr hlk hE h hR dX8_sifts_208
      · have h := ite_f c9 h
        refine lv_iload_n C0.1 C0.2.1 dX8_sifts_21 rfl (lv_at hl 2 rfl) ?_
        refine lv_iload_n C0.1 C0.2.1 dX8_sifts_22 rfl (lv_at hl 3 rfl) ?_
        obtain ⟨v8, e_v8, i_v8, h⟩ := oadd_s h
        refine x_add C0 e_v8 dX8_sifts_23 ?_
        refine lv_istore (lv' := [(6, .int (I v8)), (0, .ref (g.2 100)), (1, .int (I p1)), (2, .int (I x2)), (3, .int (I x3)), (4, .int (I x4)), (5, .int (I x5))]) C0.1 C0.2.1 dX8_sifts_24 hl (by decide) rfl (fun ls hl => ?_)
        refine lv_iload_n C0.1 C0.2.1 dX8_sifts_26 rfl (lv_at hl 3 rfl) ?_
        refine lv_iconst (v := I 2) C0.1 C0.2.1 dX8_sifts_27 rfl ?_
        refine lv_iload_n C0.1 C0.2.1 dX8_sifts_28 rfl (lv_at hl 4 rfl) ?_
        obtain ⟨v9, e_v9, i_v9, h⟩ := omul_s h
        refine x_mul C0 e_v9 dX8_sifts_29 ?_
        obtain ⟨v10, e_v10, i_v10, h⟩ := oadd_s h
        refine x_add C0 e_v10 dX8_sifts_30 ?_
        refine lv_istore (lv' := [(7, .int (I v10)), (6, .int (I v8)), (0, .ref (g.2 100)), (1, .int (I p1)), (2, .int (I x2)), (3, .int (I x3)), (4, .int (I x4)), (5, .int (I x5))]) C0.1 C0.2.1 dX8_sifts_31 hl (by decide) rfl (fun ls hl => ?_)
        refine lv_iload C0.1 C0.2.1 dX8_sifts_33 (lv_at hl 6 rfl) ?_
        obtain ⟨v11, h_v11, h⟩ := bndp_s h
        refine callS_i (rest := []) C0 hml hE (c_M_leftSize l D g (σ := s6) i_x4 h_v11) kw_X8_169 ⟨Nat.le_of_ble_eq_true rfl, Nat.le_of_ble_eq_true rfl⟩ rfl hl.1 rfl (Nat.le_of_ble_eq_true rfl) dX8_sifts_35 ⟨Nat.zero_le _, Nat.zero_le _⟩ (fun H locs hE i_v11 => ?_)
        obtain ⟨v12, e_v12, i_v12, h⟩ := oif_s h
        have kk_v12 : W p l e (rmk 2) s m args below meth c H locs 0 0 (MQ below (QCv D (wM g σr) (R32 σr) (va_A (wM g σ) sz)) args s 0 0 (va_A (wM g σ) sz)) (F0 m 46 ls [.int (I v12)]) := by
          refine lv_istore (lv' := [(8, .int (I v12)), (7, .int (I v10)), (6, .int (I v8)), (0, .ref (g.2 100)), (1, .int (I p1)), (2, .int (I x2)), (3, .int (I x3)), (4, .int (I x4)), (5, .int (I x5))]) C0.1 C0.2.1 dX8_sifts_46 hl (by decide) rfl (fun ls hl => ?_)
          refine lv_iload C0.1 C0.2.1 dX8_sifts_48 (lv_at hl 7 rfl) ?_
          obtain ⟨v13, h_v13, h⟩ := bndp_s h
          refine callS_i (rest := []) C0 hml hE (c_M_rightSize l D g (σ := s6) i_x4 h_v13) kw_X8_173 ⟨Nat.le_of_ble_eq_true rfl, Nat.le_of_ble_eq_true rfl⟩ rfl hl.1 rfl (Nat.le_of_ble_eq_true rfl) dX8_sifts_50 ⟨Nat.zero_le _, Nat.zero_le _⟩ (fun H locs hE i_v13 => ?_)
          obtain ⟨v14, e_v14, i_v14, h⟩ := oif_s h
          have kk_v14 : W p l e (rmk 2) s m args below meth c H locs 0 0 (MQ below (QCv D (wM g σr) (R32 σr) (va_A (wM g σ) sz)) args s 0 0 (va_A (wM g σ) sz)) (F0 m 61 ls [.int (I v14)]) := by
            refine lv_istore (lv' := [(9, .int (I v14)), (8, .int (I v12)), (7, .int (I v10)), (6, .int (I v8)), (0, .ref (g.2 100)), (1, .int (I p1)), (2, .int (I x2)), (3, .int (I x3)), (4, .int (I x4)), (5, .int (I x5))]) C0.1 C0.2.1 dX8_sifts_61 hl (by decide) rfl (fun ls hl => ?_)
            refine lv_iload C0.1 C0.2.1 dX8_sifts_63 (lv_at hl 1 rfl) ?_
            obtain ⟨k16, e_k16, h⟩ := jn_s h
            have h_k16 : ∀ (x15 : Int) (i_x15 : in32 x15) (H : Heap) (locs : List Loc) (ls : Array Slot), EW D (va_A (wM g σ) sz) s.heap (wM g s6) H locs → lv_has ls 12 [(0, .ref (g.2 100)), (1, .int (I p1)), (2, .int (I x2)), (3, .int (I x3)), (4, .int (I x4)), (6, .int (I v8)), (7, .int (I v10)), (8, .int (I v12)), (9, .int (I v14))] → k16 x15 = some (r, σr) → W p l e (rmk 2) s m args below meth c H locs 0 0 (MQ below (QCv D (wM g σr) (R32 σr) (va_A (wM g σ) sz)) args s 0 0 (va_A (wM g σ) sz)) (F0 m 102 ls [.int (I x15)]) := by
              intro x15 i_x15 H locs ls hE hl h
              have h := (congrFun e_k16 x15).symm.trans h
              refine lv_istore (lv' := [(5, .int (I x15)), (0, .ref (g.2 100)), (1, .int (I p1)), (2, .int (I x2)), (3, .int (I x3)), (4, .int (I x4)), (6, .int (I v8)), (7, .int (I v10)), (8, .int (I v12)), (9, .int (I v14))]) C0.1 C0.2.1 dX8_sifts_102 hl (by decide) rfl (fun ls hl => ?_)
              refine lv_iload C0.1 C0.2.1 dX8_sifts_104 (lv_at hl 9 rfl) ?_
              obtain ⟨k18, e_k18, h⟩ := jn_s h
              have h_k18 : ∀ (x17 : Int) (i_x17 : in32 x17) (H : Heap) (locs : List Loc) (ls : Array Slot), EW D (va_A (wM g σ) sz) s.heap (wM g s6) H locs → lv_has ls 12 [(0, .ref (g.2 100)), (1, .int (I p1)), (2, .int (I x2)), (3, .int (I x3)), (4, .int (I x4)), (5, .int (I x15)), (6, .int (I v8)), (7, .int (I v10))] → k18 x17 = some (r, σr) → W p l e (rmk 2) s m args below meth c H locs 0 0 (MQ below (QCv D (wM g σr) (R32 σr) (va_A (wM g σ) sz)) args s 0 0 (va_A (wM g σ) sz)) (F0 m 138 ls [.int (I x17)]) := by
                intro x17 i_x17 H locs ls hE hl h
                have h := (congrFun e_k18 x17).symm.trans h
                refine lv_istore (lv' := [(10, .int (I x17)), (0, .ref (g.2 100)), (1, .int (I p1)), (2, .int (I x2)), (3, .int (I x3)), (4, .int (I x4)), (5, .int (I x15)), (6, .int (I v8)), (7, .int (I v10))]) C0.1 C0.2.1 dX8_sifts_138 hl (by decide) rfl (fun ls hl => ?_)
                refine lv_iload C0.1 C0.2.1 dX8_sifts_140 (lv_at hl 0 rfl) ?_
                obtain ⟨v19, e_v19, i_v19, h⟩ := oif_s h
                have kk_v19 : W p l e (rmk 2) s m args below meth c H locs 0 0 (MQ below (QCv D (wM g σr) (R32 σr) (va_A (wM g σ) sz)) args s 0 0 (va_A (wM g σ) sz)) (F0 m 152 ls [.int (I v19)]) := by
                  refine lv_istore (lv' := [(11, .int (I v19)), (10, .int (I x17)), (0, .ref (g.2 100)), (1, .int (I p1)), (2, .int (I x2)), (3, .int (I x3)), (4, .int (I x4)), (5, .int (I x15)), (6, .int (I v8)), (7, .int (I v10))]) C0.1 C0.2.1 dX8_sifts_152 hl (by decide) rfl (fun ls hl => ?_)
                  refine lv_aload_n C0.1 C0.2.1 dX8_sifts_154 rfl (lv_at hl 2 rfl) ?_
                  refine lv_bipush (v := I 7) C0.1 C0.2.1 dX8_sifts_155 (by decide +kernel) ?_
                  refine lv_iload_n C0.1 C0.2.1 dX8_sifts_157 rfl (lv_at hl 4 rfl) ?_
                  refine lv_iload C0.1 C0.2.1 dX8_sifts_158 (lv_at hl 7 rfl) ?_
                  obtain ⟨k21, e_k21, h⟩ := jn_s h
                  have h_k21 : ∀ (x20 : Int) (i_x20 : in32 x20) (H : Heap) (locs : List Loc) (ls : Array Slot), EW D (va_A (wM g σ) sz) s.heap (wM g s6) H locs → lv_has ls 12 [(0, .ref (g.2 100)), (1, .int (I p1)), (3, .int (I x3)), (4, .int (I x4)), (5, .int (I x15)), (10, .int (I x17)), (11, .int (I v19))] → k21 x20 = some (r, σr) → W p l e (rmk 2) s m args below meth c H locs 0 0 (MQ below (QCv D (wM g σr) (R32 σr) (va_A (wM g σ) sz)) args s 0 0 (va_A (wM g σ) sz)) (F0 m 175 ls [.int (I x20), .int (I x2), .int (I 7), .ref (g.2 100)]) := by
                    intro x20 i_x20 H locs ls hE hl h
                    have h := (congrFun e_k21 x20).symm.trans h
                    obtain ⟨v22, s23, h_v22, h⟩ := bnd_s h
                    refine callV_v (rest := []) C0 hml hE (M_rec C0 hE) (c_M_makes l D g hR lit_7 i_x2 i_x20 h_v22) kw_X8_103 ⟨Nat.le_of_ble_eq_true rfl, Nat.le_of_ble_eq_true rfl⟩ rfl hl.1 rfl (Nat.le_of_ble_eq_true rfl) dX8_sifts_175 ⟨Nat.zero_le _, Nat.zero_le _⟩ (fun H locs hE hR => ?_)
                    refine lv_iload C0.1 C0.2.1 dX8_sifts_178 (lv_at hl 6 rfl) ?_
                    refine lv_istore_n (lv' := [(2, .int (I v19)), (0, .ref (g.2 100)), (1, .int (I p1)), (3, .int (I x3)), (4, .int (I x4)), (5, .int (I x15)), (10, .int (I x17)), (11, .int (I v19))]) C0.1 C0.2.1 dX8_sifts_180 rfl hl (by decide) rfl (fun ls hl => ?_)
                    refine lv_iload_n C0.1 C0.2.1 dX8_sifts_181 rfl (lv_at hl 3 rfl) ?_
                    refine lv_iconst (v := I 2) C0.1 C0.2.1 dX8_sifts_182 rfl ?_
                    obtain ⟨v24, e_v24, i_v24, h⟩ := omul_s h
                    refine x_mul C0 e_v24 dX8_sifts_183 ?_
                    refine lv_istore_n (lv' := [(3, .int (I v24)), (2, .int (I v19)), (0, .ref (g.2 100)), (1, .int (I p1)), (4, .int (I x4)), (5, .int (I x15)), (10, .int (I x17)), (11, .int (I v19))]) C0.1 C0.2.1 dX8_sifts_184 rfl hl (by decide) rfl (fun ls hl => ?_)
                    refine lv_iload C0.1 C0.2.1 dX8_sifts_185 (lv_at hl 6 rfl) ?_
                    obtain ⟨k26, e_k26, h⟩ := jn_s h
                    have h_k26 : ∀ (x25 : Int) (i_x25 : in32 x25) (H : Heap) (locs : List Loc) (ls : Array Slot), EW D (va_A (wM g σ) sz) s.heap (wM g s23) H locs → lv_has ls 12 [(0, .ref (g.2 100)), (1, .int (I p1)), (2, .int (I v19)), (3, .int (I v24)), (5, .int (I x15))] → k26 x25 = some (r, σr) → W p l e (rmk 2) s m args below meth c H locs 0 0 (MQ below (QCv D (wM g σr) (R32 σr) (va_A (wM g σ) sz)) args s 0 0 (va_A (wM g σ) sz)) (F0 m 203 ls [.int (I x25)]) := by
                      intro x25 i_x25 H locs ls hE hl h
                      have h := (congrFun e_k26 x25).symm.trans h
                      refine lv_istore (lv' := [(4, .int (I x25)), (0, .ref (g.2 100)), (1, .int (I p1)), (2, .int (I v19)), (3, .int (I v24)), (5, .int (I x15))]) C0.1 C0.2.1 dX8_sifts_203 hl (by decide) rfl (fun ls hl => ?_)
                      refine x_goto C0 dX8_sifts_205 (tgt := 16) (by decide) ?_
                      exact ih7 s23 hR v19 i_v19 v24 i_v24 x25 i_x25 x15 i_x15 _ _ _ hE (lv_sub hl [1, 2, 3, 4, 0, 5] rfl) h
                    refine x_if_eq C0 i_x17 dX8_sifts_187 (tgt := 198) (by decide) (fun c9 => ?_) (fun c9 => ?_)
                    · have h := ite_t c9 h
                      refine lv_iload C0.1 C0.2.1 dX8_sifts_198 (lv_at hl 4 rfl) ?_
                      obtain ⟨v27, h_v27, h⟩ := bndp_s h
                      refine callS_i (rest := []) C0 hml hE (c_M_rightSize l D g (σ := s23) i_x4 h_v27) kw_X8_173 ⟨Nat.le_of_ble_eq_true rfl, Nat.le_of_ble_eq_true rfl⟩ rfl hl.1 rfl (Nat.le_of_ble_eq_true rfl) dX8_sifts_200 ⟨Nat.zero_le _, Nat.zero_le _⟩ (fun H locs hE i_v27 => ?_)
                      exact h_k26 v27 i_v27 _ _ _ hE (lv_sub hl [2, 3, 1, 0, 5] rfl) h
                    · have h := ite_f c9 h
                      refine lv_iload C0.1 C0.2.1 dX8_sifts_190 (lv_at hl 4 rfl) ?_
                      obtain ⟨v28, h_v28, h⟩ := bndp_s h
                      refine callS_i (rest := []) C0 hml hE (c_M_leftSize l D g (σ := s23) i_x4 h_v28) kw_X8_169 ⟨Nat.le_of_ble_eq_true rfl, Nat.le_of_ble_eq_true rfl⟩ rfl hl.1 rfl (Nat.le_of_ble_eq_true rfl) dX8_sifts_192 ⟨Nat.zero_le _, Nat.zero_le _⟩ (fun H locs hE i_v28 => ?_)
                      refine x_goto C0 dX8_sifts_195 (tgt := 203) (by decide) ?_
                      exact h_k26 v28 i_v28 _ _ _ hE (lv_sub hl [2, 3, 1, 0, 5] rfl) h
                  refine x_if_eq C0 i_x15 dX8_sifts_160 (tgt := 174) (by decide) (fun c9 => ?_) (fun c9 => ?_)
                  · have h := ite_t c9 h
                    refine lv_iload_n C0.1 C0.2.1 dX8_sifts_174 rfl (lv_at hl 3 rfl) ?_
                    exact h_k21 p1 i_p1 _ _ _ hE (lv_sub hl [2, 3, 5, 6, 7, 1, 0] rfl) h
                  · have h := ite_f c9 h
                    refine lv_aload_n C0.1 C0.2.1 dX8_sifts_163 rfl (lv_at hl 2 rfl) ?_
                    refine lv_bipush (v := I 7) C0.1 C0.2.1 dX8_sifts_164 (by decide +kernel) ?_
                    refine lv_iload C0.1 C0.2.1 dX8_sifts_166 (lv_at hl 0 rfl) ?_
                    obtain ⟨v29, h_v29, h⟩ := bndp_s h
                    refine callV_i (rest := [.int (I x2), .int (I 7), .ref (g.2 100)]) C0 hml hE (M_rec C0 hE) (c_M_number l D g hR lit_7 i_v19 h_v29) kw_X8_99 ⟨Nat.le_of_ble_eq_true rfl, Nat.le_of_ble_eq_true rfl⟩ rfl hl.1 rfl (Nat.le_of_ble_eq_true rfl) dX8_sifts_168 ⟨Nat.zero_le _, Nat.zero_le _⟩ (fun H locs hE i_v29 => ?_)
                    refine x_goto C0 dX8_sifts_171 (tgt := 175) (by decide) ?_
                    exact h_k21 v29 i_v29 _ _ _ hE (lv_sub hl [2, 3, 5, 6, 7, 1, 0] rfl) h
                refine x_if_eq C0 i_x17 dX8_sifts_142 (tgt := 150) (by decide) (fun c9 => ?_) (fun c9 => ?_)
                · have e9 := e_v19.trans (if_pos c9)
                  refine lv_iload C0.1 C0.2.1 dX8_sifts_150 (lv_at hl 8 rfl) ?_
                  rw [e9] at kk_v19; exact kk_v19
                · have e9 := e_v19.trans (if_neg c9)
                  refine lv_iload C0.1 C0.2.1 dX8_sifts_145 (lv_at hl 7 rfl) ?_
                  refine x_goto C0 dX8_sifts_147 (tgt := 152) (by decide) ?_
                  rw [e9] at kk_v19; exact kk_v19
              obtain ⟨k30, e_k30, h⟩ := jn_s h
              have h_k30 : ∀ (H : Heap) (locs : List Loc) (ls : Array Slot), EW D (va_A (wM g σ) sz) s.heap (wM g s6) H locs → lv_has ls 12 [(0, .ref (g.2 100)), (1, .int (I p1)), (2, .int (I x2)), (3, .int (I x3)), (4, .int (I x4)), (5, .int (I x15)), (6, .int (I v8)), (7, .int (I v10))] → k30 = some (r, σr) → W p l e (rmk 2) s m args below meth c H locs 0 0 (MQ below (QCv D (wM g σr) (R32 σr) (va_A (wM g σ) sz)) args s 0 0 (va_A (wM g σ) sz)) (F0 m 133 ls []) := by
                intro H locs ls hE hl h
                have h := e_k30.symm.trans h
                refine lv_iconst (v := I 1) C0.1 C0.2.1 dX8_sifts_133 rfl ?_
                refine x_goto C0 dX8_sifts_134 (tgt := 138) (by decide) ?_
                exact h_k18 1 lit_1 _ _ _ hE (lv_sub hl [0, 1, 2, 3, 4, 5, 6, 7] rfl) h
              refine x_if_eq C0 i_v14 dX8_sifts_106 (tgt := 133) (by decide) (fun c9 => ?_) (fun c9 => ?_)
              · have h := ite_t c9 h
                exact h_k30 _ _ _ hE (lv_sub hl [1, 2, 3, 4, 5, 0, 6, 7] rfl) h
              · have h := ite_f c9 h
                refine lv_iload C0.1 C0.2.1 dX8_sifts_109 (lv_at hl 8 rfl) ?_
                obtain ⟨k31, e_k31, h⟩ := jn_s h
                have h_k31 : ∀ (H : Heap) (locs : List Loc) (ls : Array Slot), EW D (va_A (wM g σ) sz) s.heap (wM g s6) H locs → lv_has ls 12 [(0, .ref (g.2 100)), (1, .int (I p1)), (2, .int (I x2)), (3, .int (I x3)), (4, .int (I x4)), (5, .int (I x15)), (6, .int (I v8)), (7, .int (I v10))] → k31 = some (r, σr) → W p l e (rmk 2) s m args below meth c H locs 0 0 (MQ below (QCv D (wM g σr) (R32 σr) (va_A (wM g σ) sz)) args s 0 0 (va_A (wM g σ) sz)) (F0 m 137 ls []) := by
                  intro H locs ls hE hl h
                  have h := e_k31.symm.trans h
                  refine lv_iconst (v := I 0) C0.1 C0.2.1 dX8_sifts_137 rfl ?_
                  exact h_k18 0 lit_0 _ _ _ hE (lv_sub hl [0, 1, 2, 3, 4, 5, 6, 7] rfl) h
                refine x_if_eq C0 i_v12 dX8_sifts_111 (tgt := 137) (by decide) (fun c9 => ?_) (fun c9 => ?_)
                · have h := ite_t c9 h
                  exact h_k31 _ _ _ hE (lv_sub hl [1, 2, 3, 4, 5, 0, 6, 7] rfl) h
                · have h := ite_f c9 h
                  refine lv_aload_n C0.1 C0.2.1 dX8_sifts_114 rfl (lv_at hl 1 rfl) ?_
                  refine lv_bipush (v := I 7) C0.1 C0.2.1 dX8_sifts_115 (by decide +kernel) ?_
                  refine lv_iload C0.1 C0.2.1 dX8_sifts_117 (lv_at hl 6 rfl) ?_
                  obtain ⟨v32, h_v32, h⟩ := bndp_s h
                  refine callV_i (rest := []) C0 hml hE (M_rec C0 hE) (c_M_number l D g hR lit_7 i_v8 h_v32) kw_X8_99 ⟨Nat.le_of_ble_eq_true rfl, Nat.le_of_ble_eq_true rfl⟩ rfl hl.1 rfl (Nat.le_of_ble_eq_true rfl) dX8_sifts_119 ⟨Nat.zero_le _, Nat.zero_le _⟩ (fun H locs hE i_v32 => ?_)
                  refine lv_aload_n C0.1 C0.2.1 dX8_sifts_122 rfl (lv_at hl 1 rfl) ?_
                  refine lv_bipush (v := I 7) C0.1 C0.2.1 dX8_sifts_123 (by decide +kernel) ?_
                  refine lv_iload C0.1 C0.2.1 dX8_sifts_125 (lv_at hl 7 rfl) ?_
                  obtain ⟨v33, h_v33, h⟩ := bndp_s h
                  refine callV_i (rest := [.int (I v32)]) C0 hml hE (M_rec C0 hE) (c_M_number l D g hR lit_7 i_v10 h_v33) kw_X8_99 ⟨Nat.le_of_ble_eq_true rfl, Nat.le_of_ble_eq_true rfl⟩ rfl hl.1 rfl (Nat.le_of_ble_eq_true rfl) dX8_sifts_127 ⟨Nat.zero_le _, Nat.zero_le _⟩ (fun H locs hE i_v33 => ?_)
                  refine x_icmp_gt C0 i_v32 i_v33 dX8_sifts_130 (tgt := 137) (by decide) (fun c9 => ?_) (fun c9 => ?_)
                  · have h := ite_t c9 h
                    exact h_k31 _ _ _ hE (lv_sub hl [1, 2, 3, 4, 5, 0, 6, 7] rfl) h
                  · have h := ite_f c9 h
                    exact h_k30 _ _ _ hE (lv_sub hl [1, 2, 3, 4, 5, 0, 6, 7] rfl) h
            obtain ⟨k34, e_k34, h⟩ := jn_s h
            have h_k34 : ∀ (H : Heap) (locs : List Loc) (ls : Array Slot), EW D (va_A (wM g σ) sz) s.heap (wM g s6) H locs → lv_has ls 12 [(0, .ref (g.2 100)), (1, .int (I p1)), (2, .int (I x2)), (3, .int (I x3)), (4, .int (I x4)), (6, .int (I v8)), (7, .int (I v10)), (8, .int (I v12)), (9, .int (I v14))] → k34 = some (r, σr) → W p l e (rmk 2) s m args below meth c H locs 0 0 (MQ below (QCv D (wM g σr) (R32 σr) (va_A (wM g σ) sz)) args s 0 0 (va_A (wM g σ) sz)) (F0 m 101 ls []) := by
              intro H locs ls hE hl h
              have h := e_k34.symm.trans h
              refine lv_iconst (v := I 0) C0.1 C0.2.1 dX8_sifts_101 rfl ?_
              exact h_k16 0 lit_0 _ _ _ hE (lv_sub hl [0, 1, 2, 3, 4, 5, 6, 7, 8] rfl) h
            refine x_if_eq C0 i_v12 dX8_sifts_65 (tgt := 101) (by decide) (fun c9 => ?_) (fun c9 => ?_)
            · have h := ite_t c9 h
              exact h_k34 _ _ _ hE (lv_sub hl [4, 5, 6, 7, 8, 3, 2, 1, 0] rfl) h
            · have h := ite_f c9 h
              refine lv_iload_n C0.1 C0.2.1 dX8_sifts_68 rfl (lv_at hl 5 rfl) ?_
              refine lv_aload_n C0.1 C0.2.1 dX8_sifts_69 rfl (lv_at hl 4 rfl) ?_
              refine lv_bipush (v := I 7) C0.1 C0.2.1 dX8_sifts_70 (by decide +kernel) ?_
              refine lv_iload C0.1 C0.2.1 dX8_sifts_72 (lv_at hl 3 rfl) ?_
              obtain ⟨v35, h_v35, h⟩ := bndp_s h
              refine callV_i (rest := [.int (I p1)]) C0 hml hE (M_rec C0 hE) (c_M_number l D g hR lit_7 i_v8 h_v35) kw_X8_99 ⟨Nat.le_of_ble_eq_true rfl, Nat.le_of_ble_eq_true rfl⟩ rfl hl.1 rfl (Nat.le_of_ble_eq_true rfl) dX8_sifts_74 ⟨Nat.zero_le _, Nat.zero_le _⟩ (fun H locs hE i_v35 => ?_)
              obtain ⟨k36, e_k36, h⟩ := jn_s h
              have h_k36 : ∀ (H : Heap) (locs : List Loc) (ls : Array Slot), EW D (va_A (wM g σ) sz) s.heap (wM g s6) H locs → lv_has ls 12 [(0, .ref (g.2 100)), (1, .int (I p1)), (2, .int (I x2)), (3, .int (I x3)), (4, .int (I x4)), (6, .int (I v8)), (7, .int (I v10)), (8, .int (I v12)), (9, .int (I v14))] → k36 = some (r, σr) → W p l e (rmk 2) s m args below meth c H locs 0 0 (MQ below (QCv D (wM g σr) (R32 σr) (va_A (wM g σ) sz)) args s 0 0 (va_A (wM g σ) sz)) (F0 m 97 ls []) := by
                intro H locs ls hE hl h
                have h := e_k36.symm.trans h
                refine lv_iconst (v := I 1) C0.1 C0.2.1 dX8_sifts_97 rfl ?_
                refine x_goto C0 dX8_sifts_98 (tgt := 102) (by decide) ?_
                exact h_k16 1 lit_1 _ _ _ hE (lv_sub hl [0, 1, 2, 3, 4, 5, 6, 7, 8] rfl) h
              refine x_icmp_gt C0 i_p1 i_v35 dX8_sifts_77 (tgt := 97) (by decide) (fun c9 => ?_) (fun c9 => ?_)
              · have h := ite_t c9 h
                exact h_k36 _ _ _ hE (lv_sub hl [4, 5, 6, 7, 8, 3, 2, 1, 0] rfl) h
              · have h := ite_f c9 h
                refine lv_iload C0.1 C0.2.1 dX8_sifts_80 (lv_at hl 0 rfl) ?_
                refine x_if_eq C0 i_v14 dX8_sifts_82 (tgt := 101) (by decide) (fun c9 => ?_) (fun c9 => ?_)
                · have h := ite_t c9 h
                  exact h_k34 _ _ _ hE (lv_sub hl [4, 5, 6, 7, 8, 3, 2, 1, 0] rfl) h
                · have h := ite_f c9 h
                  refine lv_iload_n C0.1 C0.2.1 dX8_sifts_85 rfl (lv_at hl 5 rfl) ?_
                  refine lv_aload_n C0.1 C0.2.1 dX8_sifts_86 rfl (lv_at hl 4 rfl) ?_
                  refine lv_bipush (v := I 7) C0.1 C0.2.1 dX8_sifts_87 (by decide +kernel) ?_
                  refine lv_iload C0.1 C0.2.1 dX8_sifts_89 (lv_at hl 2 rfl) ?_
                  obtain ⟨v37, h_v37, h⟩ := bndp_s h
                  refine callV_i (rest := [.int (I p1)]) C0 hml hE (M_rec C0 hE) (c_M_number l D g hR lit_7 i_v10 h_v37) kw_X8_99 ⟨Nat.le_of_ble_eq_true rfl, Nat.le_of_ble_eq_true rfl⟩ rfl hl.1 rfl (Nat.le_of_ble_eq_true rfl) dX8_sifts_91 ⟨Nat.zero_le _, Nat.zero_le _⟩ (fun H locs hE i_v37 => ?_)
                  refine x_icmp_le C0 i_p1 i_v37 dX8_sifts_94 (tgt := 101) (by decide) (fun c9 => ?_) (fun c9 => ?_)
                  · have h := ite_f c9 h
                    exact h_k34 _ _ _ hE (lv_sub hl [4, 5, 6, 7, 8, 3, 2, 1, 0] rfl) h
                  · have h := ite_t c9 h
                    exact h_k36 _ _ _ hE (lv_sub hl [4, 5, 6, 7, 8, 3, 2, 1, 0] rfl) h
          refine x_if_le C0 i_v13 dX8_sifts_53 (tgt := 60) (by decide) (fun c9 => ?_) (fun c9 => ?_)
          · have e9 := e_v14.trans (if_neg c9)
            refine lv_iconst (v := I 0) C0.1 C0.2.1 dX8_sifts_60 rfl ?_
            rw [e9] at kk_v14; exact kk_v14
          · have e9 := e_v14.trans (if_pos c9)
            refine lv_iconst (v := I 1) C0.1 C0.2.1 dX8_sifts_56 rfl ?_
            refine x_goto C0 dX8_sifts_57 (tgt := 61) (by decide) ?_
            rw [e9] at kk_v14; exact kk_v14
        refine x_if_le C0 i_v11 dX8_sifts_38 (tgt := 45) (by decide) (fun c9 => ?_) (fun c9 => ?_)
        · have e9 := e_v12.trans (if_neg c9)
          refine lv_iconst (v := I 0) C0.1 C0.2.1 dX8_sifts_45 rfl ?_
          rw [e9] at kk_v12; exact kk_v12
        · have e9 := e_v12.trans (if_pos c9)
          refine lv_iconst (v := I 1) C0.1 C0.2.1 dX8_sifts_41 rfl ?_
          refine x_goto C0 dX8_sifts_42 (tgt := 46) (by decide) ?_
          rw [e9] at kk_v12; exact kk_v12
  exact hL16 FU σ hR 0 lit_0 1 lit_1 v1 i_v1 1 lit_1 _ _ _ hE (lv_sub hl [4, 5, 3, 2, 1, 0] rfl) h
set_option maxRecDepth 100000 in
set_option maxHeartbeats 4000000 in
theorem c_M_pop (l : Launch) (D : va_G) (g : Ad) {σ σr : St} {p1 p2 r : Int} (hR : R32 σ) (i_p1 : in32 p1) (i_p2 : in32 p2) (h : M_pop σ p1 p2 = some (r, σr)) : CtI l D g yX8_pop cX8_pop 3 (some .int) 15 (wM g σ) (wM g σr) [.ref (g.2 100), .int (I p1), .int (I p2)] r (in32 r ∧ R32 σr) := by
  intro sz
  refine met_of (by decide) (Nat.le_of_ble_eq_true rfl) (fun p e s m args below meth c ls H locs C0 hml hr hlk hE hl => ?_)
  have C0 : CX p c cX8_pop m s args D g RX8 := C0
  have hl : lv_has ls 3 [(0, .ref (g.2 100)), (1, .int (I p1)), (2, .int (I p2))] := hl
  unfold M_pop at h
  refine lv_aload_n C0.1 C0.2.1 dX8_pop_0 rfl (lv_at hl 0 rfl) ?_
  refine lv_iconst (v := I 0) C0.1 C0.2.1 dX8_pop_1 rfl ?_
  obtain ⟨s1, e_s1, hR, h⟩ := pf_s hR lit_0 h
  refine M_p_thrown C0 hE e_s1 fk_X8_55 dX8_pop_2 (fun H locs hE => ?_)
  refine lv_iload_n C0.1 C0.2.1 dX8_pop_5 rfl (lv_at hl 1 rfl) ?_
  obtain ⟨v2, h_v2, h⟩ := bndp_s h
  refine callS_i (rest := []) C0 hml hE (c_M_isPlace l D g (σ := s1) i_p1 h_v2) kw_X8_134 ⟨Nat.le_of_ble_eq_true rfl, Nat.le_of_ble_eq_true rfl⟩ rfl hl.1 rfl (Nat.le_of_ble_eq_true rfl) dX8_pop_6 ⟨Nat.zero_le _, Nat.zero_le _⟩ (fun H locs hE i_v2 => ?_)
  refine x_if_eq C0 i_v2 dX8_pop_9 (tgt := 19) (by decide) (fun c9 => ?_) (fun c9 => ?_)
  · have h := ite_t c9 h
    refine lv_iconst (v := I (-1)) C0.1 C0.2.1 dX8_pop_19 rfl ?_
    exact ret_i (wf := wM g) C0 hr hlk hE h lit_m1 hR dX8_pop_20
  · have h := ite_f c9 h
    refine lv_iload_n C0.1 C0.2.1 dX8_pop_12 rfl (lv_at hl 2 rfl) ?_
    obtain ⟨v3, h_v3, h⟩ := bndp_s h
    refine callS_i (rest := []) C0 hml hE (c_M_isPlace l D g (σ := s1) i_p2 h_v3) kw_X8_134 ⟨Nat.le_of_ble_eq_true rfl, Nat.le_of_ble_eq_true rfl⟩ rfl hl.1 rfl (Nat.le_of_ble_eq_true rfl) dX8_pop_13 ⟨Nat.zero_le _, Nat.zero_le _⟩ (fun H locs hE i_v3 => ?_)
    refine x_if_ne C0 i_v3 dX8_pop_16 (tgt := 21) (by decide) (fun c9 => ?_) (fun c9 => ?_)
    · have h := ite_f c9 h
      refine lv_aload_n C0.1 C0.2.1 dX8_pop_21 rfl (lv_at hl 0 rfl) ?_
      refine M_g_sizes C0 hE fk_X8_16 dX8_pop_22 ?_
      refine lv_iload_n C0.1 C0.2.1 dX8_pop_25 rfl (lv_at hl 1 rfl) ?_
      obtain ⟨v4, e_v4, i_v4, h⟩ := rd_s hR h
      refine M_sizes_l C0 hE i_p1 e_v4 dX8_pop_26 ?_
      refine x_if_ne C0 i_v4 dX8_pop_27 (tgt := 33) (by decide) (fun c9 => ?_) (fun c9 => ?_)
      · have h := ite_f c9 h
        refine lv_aload_n C0.1 C0.2.1 dX8_pop_33 rfl (lv_at hl 0 rfl) ?_
        refine lv_iconst (v := I 0) C0.1 C0.2.1 dX8_pop_34 rfl ?_
        obtain ⟨s5, e_s5, hR, h⟩ := pf_s hR lit_0 h
        refine M_p_rowMany C0 hE e_s5 fk_X8_59 dX8_pop_35 (fun H locs hE => ?_)
        refine lv_aload_n C0.1 C0.2.1 dX8_pop_38 rfl (lv_at hl 0 rfl) ?_
        refine lv_aload_n C0.1 C0.2.1 dX8_pop_39 rfl (lv_at hl 0 rfl) ?_
        refine lv_iload_n C0.1 C0.2.1 dX8_pop_40 rfl (lv_at hl 1 rfl) ?_
        refine lv_iconst (v := I 0) C0.1 C0.2.1 dX8_pop_41 rfl ?_
        obtain ⟨v6, h_v6, h⟩ := bndp_s h
        refine callV_i (rest := [.ref (g.2 100)]) C0 hml hE (M_rec C0 hE) (c_M_number l D g hR i_p1 lit_0 h_v6) kw_X8_99 ⟨Nat.le_of_ble_eq_true rfl, Nat.le_of_ble_eq_true rfl⟩ rfl hl.1 rfl (Nat.le_of_ble_eq_true rfl) dX8_pop_42 ⟨Nat.zero_le _, Nat.zero_le _⟩ (fun H locs hE i_v6 => ?_)
        refine x_i2l C0 i_v6 dX8_pop_45 ?_
        obtain ⟨v7, s8, h_v7, h⟩ := bnd_s h
        refine callV_v (rest := []) C0 hml hE (M_rec C0 hE) (c_M_tell l D g hR (in64_of i_v6) h_v7) kw_X8_150 ⟨Nat.le_of_ble_eq_true rfl, Nat.le_of_ble_eq_true rfl⟩ rfl hl.1 rfl (Nat.le_of_ble_eq_true rfl) dX8_pop_46 ⟨Nat.zero_le _, Nat.zero_le _⟩ (fun H locs hE hR => ?_)
        refine lv_aload_n C0.1 C0.2.1 dX8_pop_49 rfl (lv_at hl 0 rfl) ?_
        refine lv_iload_n C0.1 C0.2.1 dX8_pop_50 rfl (lv_at hl 1 rfl) ?_
        obtain ⟨v9, s10, h_v9, h⟩ := bnd_s h
        refine callV_v (rest := []) C0 hml hE (M_rec C0 hE) (c_M_asks l D g hR i_p1 h_v9) kw_X8_176 ⟨Nat.le_of_ble_eq_true rfl, Nat.le_of_ble_eq_true rfl⟩ rfl hl.1 rfl (Nat.le_of_ble_eq_true rfl) dX8_pop_51 ⟨Nat.zero_le _, Nat.zero_le _⟩ (fun H locs hE hR => ?_)
        refine lv_aload_n C0.1 C0.2.1 dX8_pop_54 rfl (lv_at hl 0 rfl) ?_
        obtain ⟨v11, s12, h_v11, h⟩ := bnd_s h
        refine callV_v (rest := []) C0 hml hE (M_rec C0 hE) (c_M_begins l D g hR h_v11) kw_X8_166 ⟨Nat.le_of_ble_eq_true rfl, Nat.le_of_ble_eq_true rfl⟩ rfl hl.1 rfl (Nat.le_of_ble_eq_true rfl) dX8_pop_55 ⟨Nat.zero_le _, Nat.zero_le _⟩ (fun H locs hE hR => ?_)
        refine lv_aload_n C0.1 C0.2.1 dX8_pop_58 rfl (lv_at hl 0 rfl) ?_
        refine M_g_sizes C0 hE fk_X8_16 dX8_pop_59 ?_
        refine lv_bipush (v := I 7) C0.1 C0.2.1 dX8_pop_62 (by decide +kernel) ?_
        refine lv_aload_n C0.1 C0.2.1 dX8_pop_64 rfl (lv_at hl 0 rfl) ?_
        refine M_g_sizes C0 hE fk_X8_16 dX8_pop_65 ?_
        refine lv_bipush (v := I 6) C0.1 C0.2.1 dX8_pop_68 (by decide +kernel) ?_
        obtain ⟨v13, e_v13, i_v13, h⟩ := rd_s hR h
        refine M_sizes_l C0 hE lit_6 e_v13 dX8_pop_70 ?_
        refine lv_iconst (v := I 1) C0.1 C0.2.1 dX8_pop_71 rfl ?_
        obtain ⟨v14, e_v14, i_v14, h⟩ := osub_s h
        refine x_sub C0 e_v14 dX8_pop_72 ?_
        obtain ⟨s15, e_s15, hR, h⟩ := wr_s hR i_v14 h
        refine M_sizes_st C0 hE lit_7 e_s15 dX8_pop_73 (fun H locs hE => ?_)
        refine lv_aload_n C0.1 C0.2.1 dX8_pop_74 rfl (lv_at hl 0 rfl) ?_
        refine M_g_sizes C0 hE fk_X8_16 dX8_pop_75 ?_
        refine lv_bipush (v := I 7) C0.1 C0.2.1 dX8_pop_78 (by decide +kernel) ?_
        obtain ⟨v16, e_v16, i_v16, h⟩ := rd_s hR h
        refine M_sizes_l C0 hE lit_7 e_v16 dX8_pop_80 ?_
        obtain ⟨k18, e_k18, h⟩ := jn_s h
        have h_k18 : ∀ (s17 : St) (hR : R32 s17) (H : Heap) (locs : List Loc) (ls : Array Slot), EW D (va_A (wM g σ) sz) s.heap (wM g s17) H locs → lv_has ls 3 [(0, .ref (g.2 100)), (2, .int (I p2))] → k18 s17 = some (r, σr) → W p l e (rmk 15) s m args below meth c H locs 0 0 (MQ below (QCi D (wM g σr) r (in32 r ∧ R32 σr) (va_A (wM g σ) sz)) args s 0 0 (va_A (wM g σ) sz)) (F0 m 132 ls []) := by
          intro s17 hR H locs ls hE hl h
          have h := (congrFun e_k18 s17).symm.trans h
          refine lv_aload_n C0.1 C0.2.1 dX8_pop_132 rfl (lv_at hl 0 rfl) ?_
          refine lv_iload_n C0.1 C0.2.1 dX8_pop_133 rfl (lv_at hl 1 rfl) ?_
          obtain ⟨v19, s20, h_v19, h⟩ := bnd_s h
          refine callV_i (rest := []) C0 hml hE (M_rec C0 hE) (c_M_ends l D g hR i_p2 h_v19) kw_X8_205 ⟨Nat.le_of_ble_eq_true rfl, Nat.le_of_ble_eq_true rfl⟩ rfl hl.1 rfl (Nat.le_of_ble_eq_true rfl) dX8_pop_134 ⟨Nat.zero_le _, Nat.zero_le _⟩ (fun H locs hE ⟨i_v19, hR⟩ => ?_)
          exact ret_i (wf := wM g) C0 hr hlk hE h i_v19 hR dX8_pop_137
        refine x_if_le C0 i_v16 dX8_pop_81 (tgt := 132) (by decide) (fun c9 => ?_) (fun c9 => ?_)
        · have h := ite_f c9 h
          exact h_k18 s15 hR _ _ _ hE (lv_sub hl [0, 2] rfl) h
        · have h := ite_t c9 h
          refine lv_aload_n C0.1 C0.2.1 dX8_pop_84 rfl (lv_at hl 0 rfl) ?_
          refine lv_bipush (v := I 6) C0.1 C0.2.1 dX8_pop_85 (by decide +kernel) ?_
          refine lv_iconst (v := I 2) C0.1 C0.2.1 dX8_pop_87 rfl ?_
          refine lv_iconst (v := I 2) C0.1 C0.2.1 dX8_pop_88 rfl ?_
          refine lv_aload_n C0.1 C0.2.1 dX8_pop_89 rfl (lv_at hl 0 rfl) ?_
          refine M_g_sizes C0 hE fk_X8_16 dX8_pop_90 ?_
          refine lv_bipush (v := I 6) C0.1 C0.2.1 dX8_pop_93 (by decide +kernel) ?_
          obtain ⟨v21, e_v21, i_v21, h⟩ := rd_s hR h
          refine M_sizes_l C0 hE lit_6 e_v21 dX8_pop_95 ?_
          obtain ⟨v22, h_v22, h⟩ := bndp_s h
          refine callS_i (rest := [.int (I 2), .int (I 2), .int (I 6), .ref (g.2 100)]) C0 hml hE (c_M_rightSize l D g (σ := s15) i_v21 h_v22) kw_X8_173 ⟨Nat.le_of_ble_eq_true rfl, Nat.le_of_ble_eq_true rfl⟩ rfl hl.1 rfl (Nat.le_of_ble_eq_true rfl) dX8_pop_96 ⟨Nat.zero_le _, Nat.zero_le _⟩ (fun H locs hE i_v22 => ?_)
          refine lv_bipush (v := I 7) C0.1 C0.2.1 dX8_pop_99 (by decide +kernel) ?_
          refine lv_iconst (v := I 1) C0.1 C0.2.1 dX8_pop_101 rfl ?_
          refine lv_iconst (v := I 2) C0.1 C0.2.1 dX8_pop_102 rfl ?_
          obtain ⟨v23, s24, h_v23, h⟩ := bnd_s h
          refine callV_v (rest := []) C0 hml hE (M_rec C0 hE) (c_M_shares l D g hR lit_6 lit_2 lit_2 i_v22 lit_7 lit_1 lit_2 h_v23) kw_X8_78 ⟨Nat.le_of_ble_eq_true rfl, Nat.le_of_ble_eq_true rfl⟩ rfl hl.1 rfl (Nat.le_of_ble_eq_true rfl) dX8_pop_103 ⟨Nat.zero_le _, Nat.zero_le _⟩ (fun H locs hE hR => ?_)
          refine lv_aload_n C0.1 C0.2.1 dX8_pop_106 rfl (lv_at hl 0 rfl) ?_
          refine lv_iconst (v := I 1) C0.1 C0.2.1 dX8_pop_107 rfl ?_
          refine lv_iconst (v := I 2) C0.1 C0.2.1 dX8_pop_108 rfl ?_
          refine lv_aload_n C0.1 C0.2.1 dX8_pop_109 rfl (lv_at hl 0 rfl) ?_
          refine M_g_sizes C0 hE fk_X8_16 dX8_pop_110 ?_
          refine lv_bipush (v := I 6) C0.1 C0.2.1 dX8_pop_113 (by decide +kernel) ?_
          obtain ⟨v25, e_v25, i_v25, h⟩ := rd_s hR h
          refine M_sizes_l C0 hE lit_6 e_v25 dX8_pop_115 ?_
          obtain ⟨v26, h_v26, h⟩ := bndp_s h
          refine callS_i (rest := [.int (I 2), .int (I 1), .ref (g.2 100)]) C0 hml hE (c_M_leftSize l D g (σ := s24) i_v25 h_v26) kw_X8_169 ⟨Nat.le_of_ble_eq_true rfl, Nat.le_of_ble_eq_true rfl⟩ rfl hl.1 rfl (Nat.le_of_ble_eq_true rfl) dX8_pop_116 ⟨Nat.zero_le _, Nat.zero_le _⟩ (fun H locs hE i_v26 => ?_)
          refine lv_iconst (v := I 2) C0.1 C0.2.1 dX8_pop_119 rfl ?_
          refine lv_iconst (v := I 2) C0.1 C0.2.1 dX8_pop_120 rfl ?_
          obtain ⟨v27, s28, h_v27, h⟩ := bnd_s h
          refine callV_v (rest := []) C0 hml hE (M_rec C0 hE) (c_M_lifts l D g RD hR lit_1 lit_2 i_v26 lit_2 lit_2 h_v27) kw_X8_267 ⟨Nat.le_of_ble_eq_true rfl, Nat.le_of_ble_eq_true rfl⟩ rfl hl.1 rfl (Nat.le_of_ble_eq_true rfl) dX8_pop_121 ⟨Nat.zero_le _, Nat.zero_le _⟩ (fun H locs hE hR => ?_)
          refine lv_aload_n C0.1 C0.2.1 dX8_pop_124 rfl (lv_at hl 0 rfl) ?_
          refine lv_aload_n C0.1 C0.2.1 dX8_pop_125 rfl (lv_at hl 0 rfl) ?_
          obtain ⟨v29, e_v29, i_v29, h⟩ := gf_s hR h
          refine M_g_lifted C0 hE e_v29 fk_X8_264 dX8_pop_126 ?_
          obtain ⟨v30, s31, h_v30, h⟩ := bnd_s h
          refine callV_v (rest := []) C0 hml hE (M_rec C0 hE) (c_M_sifts l D g hR i_v29 h_v30) kw_X8_270 ⟨Nat.le_of_ble_eq_true rfl, Nat.le_of_ble_eq_true rfl⟩ rfl hl.1 rfl (Nat.le_of_ble_eq_true rfl) dX8_pop_129 ⟨Nat.zero_le _, Nat.zero_le _⟩ (fun H locs hE hR => ?_)
          exact h_k18 s31 hR _ _ _ hE (lv_sub hl [0, 2] rfl) h
      · have h := ite_t c9 h
        refine lv_bipush (v := I (-2)) C0.1 C0.2.1 dX8_pop_30 (by decide +kernel) ?_
        exact ret_i (wf := wM g) C0 hr hlk hE h lit_m2 hR dX8_pop_32
    · have h := ite_t c9 h
      refine lv_iconst (v := I (-1)) C0.1 C0.2.1 dX8_pop_19 rfl ?_
      exact ret_i (wf := wM g) C0 hr hlk hE h lit_m1 hR dX8_pop_20
set_option maxRecDepth 100000 in
set_option maxHeartbeats 4000000 in
theorem c_M_heaps (l : Launch) (D : va_G) (g : Ad) {σ σr : St} {p1 p2 r : Int} (hR : R32 σ) (i_p1 : in32 p1) (i_p2 : in32 p2) (h : M_heaps σ p1 p2 = some (r, σr)) : CtI l D g yX8_heaps cX8_heaps 4 (some .int) 16 (wM g σ) (wM g σr) [.ref (g.2 100), .int (I p1), .int (I p2)] r (in32 r ∧ R32 σr) := by
  intro sz
  refine met_of (by decide) (Nat.le_of_ble_eq_true rfl) (fun p e s m args below meth c ls H locs C0 hml hr hlk hE hl => ?_)
  have C0 : CX p c cX8_heaps m s args D g RX8 := C0
  have hl : lv_has ls 4 [(0, .ref (g.2 100)), (1, .int (I p1)), (2, .int (I p2))] := hl
  unfold M_heaps at h
  refine lv_aload_n C0.1 C0.2.1 dX8_heaps_0 rfl (lv_at hl 0 rfl) ?_
  refine lv_iconst (v := I 0) C0.1 C0.2.1 dX8_heaps_1 rfl ?_
  obtain ⟨s1, e_s1, hR, h⟩ := pf_s hR lit_0 h
  refine M_p_thrown C0 hE e_s1 fk_X8_55 dX8_heaps_2 (fun H locs hE => ?_)
  refine lv_iload_n C0.1 C0.2.1 dX8_heaps_5 rfl (lv_at hl 1 rfl) ?_
  obtain ⟨v2, h_v2, h⟩ := bndp_s h
  refine callS_i (rest := []) C0 hml hE (c_M_isPlace l D g (σ := s1) i_p1 h_v2) kw_X8_134 ⟨Nat.le_of_ble_eq_true rfl, Nat.le_of_ble_eq_true rfl⟩ rfl hl.1 rfl (Nat.le_of_ble_eq_true rfl) dX8_heaps_6 ⟨Nat.zero_le _, Nat.zero_le _⟩ (fun H locs hE i_v2 => ?_)
  refine x_if_eq C0 i_v2 dX8_heaps_9 (tgt := 19) (by decide) (fun c9 => ?_) (fun c9 => ?_)
  · have h := ite_t c9 h
    refine lv_iconst (v := I (-1)) C0.1 C0.2.1 dX8_heaps_19 rfl ?_
    exact ret_i (wf := wM g) C0 hr hlk hE h lit_m1 hR dX8_heaps_20
  · have h := ite_f c9 h
    refine lv_iload_n C0.1 C0.2.1 dX8_heaps_12 rfl (lv_at hl 2 rfl) ?_
    obtain ⟨v3, h_v3, h⟩ := bndp_s h
    refine callS_i (rest := []) C0 hml hE (c_M_isPlace l D g (σ := s1) i_p2 h_v3) kw_X8_134 ⟨Nat.le_of_ble_eq_true rfl, Nat.le_of_ble_eq_true rfl⟩ rfl hl.1 rfl (Nat.le_of_ble_eq_true rfl) dX8_heaps_13 ⟨Nat.zero_le _, Nat.zero_le _⟩ (fun H locs hE i_v3 => ?_)
    refine x_if_ne C0 i_v3 dX8_heaps_16 (tgt := 21) (by decide) (fun c9 => ?_) (fun c9 => ?_)
    · have h := ite_f c9 h
      refine lv_aload_n C0.1 C0.2.1 dX8_heaps_21 rfl (lv_at hl 0 rfl) ?_
      refine lv_iload_n C0.1 C0.2.1 dX8_heaps_22 rfl (lv_at hl 1 rfl) ?_
      refine lv_bipush (v := I 8) C0.1 C0.2.1 dX8_heaps_23 (by decide +kernel) ?_
      obtain ⟨v4, s5, h_v4, h⟩ := bnd_s h
      refine callV_v (rest := []) C0 hml hE (M_rec C0 hE) (c_M_takes l D g hR i_p1 lit_8 h_v4) kw_X8_82 ⟨Nat.le_of_ble_eq_true rfl, Nat.le_of_ble_eq_true rfl⟩ rfl hl.1 rfl (Nat.le_of_ble_eq_true rfl) dX8_heaps_25 ⟨Nat.zero_le _, Nat.zero_le _⟩ (fun H locs hE hR => ?_)
      refine lv_aload_n C0.1 C0.2.1 dX8_heaps_28 rfl (lv_at hl 0 rfl) ?_
      obtain ⟨v6, s7, h_v6, h⟩ := bnd_s h
      refine callV_v (rest := []) C0 hml hE (M_rec C0 hE) (c_M_begins l D g hR h_v6) kw_X8_166 ⟨Nat.le_of_ble_eq_true rfl, Nat.le_of_ble_eq_true rfl⟩ rfl hl.1 rfl (Nat.le_of_ble_eq_true rfl) dX8_heaps_29 ⟨Nat.zero_le _, Nat.zero_le _⟩ (fun H locs hE hR => ?_)
      refine lv_aload_n C0.1 C0.2.1 dX8_heaps_32 rfl (lv_at hl 0 rfl) ?_
      refine M_g_sizes C0 hE fk_X8_16 dX8_heaps_33 ?_
      refine lv_bipush (v := I 7) C0.1 C0.2.1 dX8_heaps_36 (by decide +kernel) ?_
      refine lv_iconst (v := I 0) C0.1 C0.2.1 dX8_heaps_38 rfl ?_
      obtain ⟨s8, e_s8, hR, h⟩ := wr_s hR lit_0 h
      refine M_sizes_st C0 hE lit_7 e_s8 dX8_heaps_39 (fun H locs hE => ?_)
      refine lv_iconst (v := I 0) C0.1 C0.2.1 dX8_heaps_40 rfl ?_
      refine lv_istore_n (lv' := [(3, .int (I 0)), (0, .ref (g.2 100)), (1, .int (I p1)), (2, .int (I p2))]) C0.1 C0.2.1 dX8_heaps_41 rfl hl (by decide) rfl (fun ls hl => ?_)
      obtain ⟨k10, e_k10, h⟩ := jn_s h
      have h_k10 : ∀ (s9 : St) (hR : R32 s9) (H : Heap) (locs : List Loc) (ls : Array Slot), EW D (va_A (wM g σ) sz) s.heap (wM g s9) H locs → lv_has ls 4 [(0, .ref (g.2 100)), (2, .int (I p2))] → k10 s9 = some (r, σr) → W p l e (rmk 16) s m args below meth c H locs 0 0 (MQ below (QCi D (wM g σr) r (in32 r ∧ R32 σr) (va_A (wM g σ) sz)) args s 0 0 (va_A (wM g σ) sz)) (F0 m 70 ls []) := by
        intro s9 hR H locs ls hE hl h
        have h := (congrFun e_k10 s9).symm.trans h
        refine lv_aload_n C0.1 C0.2.1 dX8_heaps_70 rfl (lv_at hl 0 rfl) ?_
        refine lv_iload_n C0.1 C0.2.1 dX8_heaps_71 rfl (lv_at hl 1 rfl) ?_
        obtain ⟨v11, s12, h_v11, h⟩ := bnd_s h
        refine callV_i (rest := []) C0 hml hE (M_rec C0 hE) (c_M_ends l D g hR i_p2 h_v11) kw_X8_205 ⟨Nat.le_of_ble_eq_true rfl, Nat.le_of_ble_eq_true rfl⟩ rfl hl.1 rfl (Nat.le_of_ble_eq_true rfl) dX8_heaps_72 ⟨Nat.zero_le _, Nat.zero_le _⟩ (fun H locs hE ⟨i_v11, hR⟩ => ?_)
        exact ret_i (wf := wM g) C0 hr hlk hE h i_v11 hR dX8_heaps_75
      have hL42 : ∀ (n : Nat) (s14 : St) (hR : R32 s14) (x13 : Int) (i_x13 : in32 x13) (H : Heap) (locs : List Loc) (ls : Array Slot), EW D (va_A (wM g σ) sz) s.heap (wM g s14) H locs → lv_has ls 4 [(0, .ref (g.2 100)), (2, .int (I p2)), (3, .int (I x13))] → M_heaps_L42 k10 n s14 x13 = some (r, σr) → W p l e (rmk 16) s m args below meth c H locs 0 0 (MQ below (QCi D (wM g σr) r (in32 r ∧ R32 σr) (va_A (wM g σ) sz)) args s 0 0 (va_A (wM g σ) sz)) (F0 m 42 ls []) := by
        intro n
        induction n with
        | zero => intros; rename_i h; cases h
        | succ n ih15 =>
          intro s14 hR x13 i_x13 H locs ls hE hl h
          unfold M_heaps_L42 at h
          refine lv_iload_n C0.1 C0.2.1 dX8_heaps_42 rfl (lv_at hl 2 rfl) ?_
          refine lv_aload_n C0.1 C0.2.1 dX8_heaps_43 rfl (lv_at hl 0 rfl) ?_
          refine M_g_sizes C0 hE fk_X8_16 dX8_heaps_44 ?_
          refine lv_bipush (v := I 8) C0.1 C0.2.1 dX8_heaps_47 (by decide +kernel) ?_
          obtain ⟨v16, e_v16, i_v16, h⟩ := rd_s hR h
          refine M_sizes_l C0 hE lit_8 e_v16 dX8_heaps_49 ?_
          refine x_icmp_ge C0 i_x13 i_v16 dX8_heaps_50 (tgt := 70) (by decide) (fun c9 => ?_) (fun c9 => ?_)
          · have h := ite_f c9 h
            exact h_k10 s14 hR _ _ _ hE (lv_sub hl [0, 1] rfl) h
          · have h := ite_t c9 h
            refine lv_aload_n C0.1 C0.2.1 dX8_heaps_53 rfl (lv_at hl 0 rfl) ?_
            refine lv_aload_n C0.1 C0.2.1 dX8_heaps_54 rfl (lv_at hl 0 rfl) ?_
            refine lv_bipush (v := I 8) C0.1 C0.2.1 dX8_heaps_55 (by decide +kernel) ?_
            refine lv_iload_n C0.1 C0.2.1 dX8_heaps_57 rfl (lv_at hl 2 rfl) ?_
            obtain ⟨v17, h_v17, h⟩ := bndp_s h
            refine callV_i (rest := [.ref (g.2 100)]) C0 hml hE (M_rec C0 hE) (c_M_number l D g hR lit_8 i_x13 h_v17) kw_X8_99 ⟨Nat.le_of_ble_eq_true rfl, Nat.le_of_ble_eq_true rfl⟩ rfl hl.1 rfl (Nat.le_of_ble_eq_true rfl) dX8_heaps_58 ⟨Nat.zero_le _, Nat.zero_le _⟩ (fun H locs hE i_v17 => ?_)
            obtain ⟨v18, s19, h_v18, h⟩ := bnd_s h
            refine callV_v (rest := []) C0 hml hE (M_rec C0 hE) (c_M_goesPush l D g hR i_v17 h_v18) kw_X8_261 ⟨Nat.le_of_ble_eq_true rfl, Nat.le_of_ble_eq_true rfl⟩ rfl hl.1 rfl (Nat.le_of_ble_eq_true rfl) dX8_heaps_61 ⟨Nat.zero_le _, Nat.zero_le _⟩ (fun H locs hE hR => ?_)
            obtain ⟨v20, e_v20, i_v20, h⟩ := oadd_s h
            refine x_iinc (lv' := [(3, .int (I v20)), (0, .ref (g.2 100)), (2, .int (I p2))]) C0 dX8_heaps_64 hl (k := 2) rfl e_v20 (by decide) rfl (fun ls hl => ?_)
            refine x_goto C0 dX8_heaps_67 (tgt := 42) (by decide) ?_
            exact ih15 s19 hR v20 i_v20 _ _ _ hE (lv_sub hl [1, 2, 0] rfl) h
      exact hL42 FU s8 hR 0 lit_0 _ _ _ hE (lv_sub hl [1, 3, 0] rfl) h
    · have h := ite_t c9 h
      refine lv_iconst (v := I (-1)) C0.1 C0.2.1 dX8_heaps_19 rfl ?_
      exact ret_i (wf := wM g) C0 hr hlk hE h lit_m1 hR dX8_heaps_20
set_option maxRecDepth 100000 in
set_option maxHeartbeats 4000000 in
theorem c_M_numbers (l : Launch) (D : va_G) (g : Ad) {σ σr : St} {p1 p2 r : Int} (hR : R32 σ) (i_p1 : in32 p1) (i_p2 : in32 p2) (h : M_numbers σ p1 p2 = some (r, σr)) : CtI l D g yX8_numbers cX8_numbers 4 (some .int) 3 (wM g σ) (wM g σr) [.ref (g.2 100), .int (I p1), .int (I p2)] r (in32 r ∧ R32 σr) := by
  intro sz
  refine met_of (by decide) (Nat.le_of_ble_eq_true rfl) (fun p e s m args below meth c ls H locs C0 hml hr hlk hE hl => ?_)
  have C0 : CX p c cX8_numbers m s args D g RX8 := C0
  have hl : lv_has ls 4 [(0, .ref (g.2 100)), (1, .int (I p1)), (2, .int (I p2))] := hl
  unfold M_numbers at h
  refine lv_aload_n C0.1 C0.2.1 dX8_numbers_0 rfl (lv_at hl 0 rfl) ?_
  refine lv_iconst (v := I 0) C0.1 C0.2.1 dX8_numbers_1 rfl ?_
  obtain ⟨s1, e_s1, hR, h⟩ := pf_s hR lit_0 h
  refine M_p_thrown C0 hE e_s1 fk_X8_55 dX8_numbers_2 (fun H locs hE => ?_)
  refine lv_iload_n C0.1 C0.2.1 dX8_numbers_5 rfl (lv_at hl 1 rfl) ?_
  obtain ⟨v2, h_v2, h⟩ := bndp_s h
  refine callS_i (rest := []) C0 hml hE (c_M_isPlace l D g (σ := s1) i_p1 h_v2) kw_X8_134 ⟨Nat.le_of_ble_eq_true rfl, Nat.le_of_ble_eq_true rfl⟩ rfl hl.1 rfl (Nat.le_of_ble_eq_true rfl) dX8_numbers_6 ⟨Nat.zero_le _, Nat.zero_le _⟩ (fun H locs hE i_v2 => ?_)
  refine x_if_eq C0 i_v2 dX8_numbers_9 (tgt := 28) (by decide) (fun c9 => ?_) (fun c9 => ?_)
  · have h := ite_t c9 h
    refine lv_iconst (v := I (-1)) C0.1 C0.2.1 dX8_numbers_28 rfl ?_
    exact ret_i (wf := wM g) C0 hr hlk hE h lit_m1 hR dX8_numbers_29
  · have h := ite_f c9 h
    refine lv_iload_n C0.1 C0.2.1 dX8_numbers_12 rfl (lv_at hl 2 rfl) ?_
    refine x_i2l C0 i_p2 dX8_numbers_13 ?_
    refine lv_lconst (v := J 0) C0.1 C0.2.1 dX8_numbers_14 (by decide +kernel) ?_
    refine lv_aload_n C0.1 C0.2.1 dX8_numbers_15 rfl (lv_at hl 0 rfl) ?_
    refine M_g_sizes C0 hE fk_X8_16 dX8_numbers_16 ?_
    refine lv_iload_n C0.1 C0.2.1 dX8_numbers_19 rfl (lv_at hl 1 rfl) ?_
    obtain ⟨v3, e_v3, i_v3, h⟩ := rd_s hR h
    refine M_sizes_l C0 hE i_p1 e_v3 dX8_numbers_20 ?_
    refine x_i2l C0 i_v3 dX8_numbers_21 ?_
    obtain ⟨v4, h_v4, h⟩ := bndp_s h
    refine callS_i (rest := []) C0 hml hE (c_M_in l D g (σ := s1) (in64_of i_p2) (by decide) (in64_of i_v3) h_v4) kw_X8_65 ⟨Nat.le_of_ble_eq_true rfl, Nat.le_of_ble_eq_true rfl⟩ rfl hl.1 rfl (Nat.le_of_ble_eq_true rfl) dX8_numbers_22 ⟨Nat.zero_le _, Nat.zero_le _⟩ (fun H locs hE i_v4 => ?_)
    refine x_if_ne C0 i_v4 dX8_numbers_25 (tgt := 30) (by decide) (fun c9 => ?_) (fun c9 => ?_)
    · have h := ite_f c9 h
      refine lv_aload_n C0.1 C0.2.1 dX8_numbers_30 rfl (lv_at hl 0 rfl) ?_
      refine lv_iconst (v := I 0) C0.1 C0.2.1 dX8_numbers_31 rfl ?_
      obtain ⟨s5, e_s5, hR, h⟩ := pf_s hR lit_0 h
      refine M_p_rowMany C0 hE e_s5 fk_X8_59 dX8_numbers_32 (fun H locs hE => ?_)
      refine lv_iload_n C0.1 C0.2.1 dX8_numbers_35 rfl (lv_at hl 2 rfl) ?_
      refine lv_istore_n (lv' := [(3, .int (I p2)), (0, .ref (g.2 100)), (1, .int (I p1)), (2, .int (I p2))]) C0.1 C0.2.1 dX8_numbers_36 rfl hl (by decide) rfl (fun ls hl => ?_)
      obtain ⟨k7, e_k7, h⟩ := jn_s h
      have h_k7 : ∀ (s6 : St) (hR : R32 s6) (H : Heap) (locs : List Loc) (ls : Array Slot), EW D (va_A (wM g σ) sz) s.heap (wM g s6) H locs → lv_has ls 4 [(0, .ref (g.2 100))] → k7 s6 = some (r, σr) → W p l e (rmk 3) s m args below meth c H locs 0 0 (MQ below (QCi D (wM g σr) r (in32 r ∧ R32 σr) (va_A (wM g σ) sz)) args s 0 0 (va_A (wM g σ) sz)) (F0 m 73 ls []) := by
        intro s6 hR H locs ls hE hl h
        have h := (congrFun e_k7 s6).symm.trans h
        refine lv_aload_n C0.1 C0.2.1 dX8_numbers_73 rfl (lv_at hl 0 rfl) ?_
        obtain ⟨v8, e_v8, i_v8, h⟩ := gf_s hR h
        refine M_g_rowMany C0 hE e_v8 fk_X8_59 dX8_numbers_74 ?_
        exact ret_i (wf := wM g) C0 hr hlk hE h i_v8 hR dX8_numbers_77
      have hL37 : ∀ (n : Nat) (s10 : St) (hR : R32 s10) (x9 : Int) (i_x9 : in32 x9) (H : Heap) (locs : List Loc) (ls : Array Slot), EW D (va_A (wM g σ) sz) s.heap (wM g s10) H locs → lv_has ls 4 [(0, .ref (g.2 100)), (1, .int (I p1)), (3, .int (I x9))] → M_numbers_L37 k7 p1 n s10 x9 = some (r, σr) → W p l e (rmk 3) s m args below meth c H locs 0 0 (MQ below (QCi D (wM g σr) r (in32 r ∧ R32 σr) (va_A (wM g σ) sz)) args s 0 0 (va_A (wM g σ) sz)) (F0 m 37 ls []) := by
        intro n
        induction n with
        | zero => intros; rename_i h; cases h
        | succ n ih11 =>
          intro s10 hR x9 i_x9 H locs ls hE hl h
          unfold M_numbers_L37 at h
          refine lv_iload_n C0.1 C0.2.1 dX8_numbers_37 rfl (lv_at hl 2 rfl) ?_
          refine lv_aload_n C0.1 C0.2.1 dX8_numbers_38 rfl (lv_at hl 0 rfl) ?_
          refine M_g_sizes C0 hE fk_X8_16 dX8_numbers_39 ?_
          refine lv_iload_n C0.1 C0.2.1 dX8_numbers_42 rfl (lv_at hl 1 rfl) ?_
          obtain ⟨v12, e_v12, i_v12, h⟩ := rd_s hR h
          refine M_sizes_l C0 hE i_p1 e_v12 dX8_numbers_43 ?_
          refine x_icmp_ge C0 i_x9 i_v12 dX8_numbers_44 (tgt := 73) (by decide) (fun c9 => ?_) (fun c9 => ?_)
          · have h := ite_f c9 h
            exact h_k7 s10 hR _ _ _ hE (lv_sub hl [0] rfl) h
          · have h := ite_t c9 h
            refine lv_aload_n C0.1 C0.2.1 dX8_numbers_47 rfl (lv_at hl 0 rfl) ?_
            obtain ⟨v13, e_v13, i_v13, h⟩ := gf_s hR h
            refine M_g_rowMany C0 hE e_v13 fk_X8_59 dX8_numbers_48 ?_
            refine lv_bipush (v := I 16) C0.1 C0.2.1 dX8_numbers_51 (by decide +kernel) ?_
            refine x_icmp_ge C0 i_v13 lit_16 dX8_numbers_53 (tgt := 73) (by decide) (fun c9 => ?_) (fun c9 => ?_)
            · have h := ite_f c9 h
              exact h_k7 s10 hR _ _ _ hE (lv_sub hl [0] rfl) h
            · have h := ite_t c9 h
              refine lv_aload_n C0.1 C0.2.1 dX8_numbers_56 rfl (lv_at hl 0 rfl) ?_
              refine lv_aload_n C0.1 C0.2.1 dX8_numbers_57 rfl (lv_at hl 0 rfl) ?_
              refine lv_iload_n C0.1 C0.2.1 dX8_numbers_58 rfl (lv_at hl 1 rfl) ?_
              refine lv_iload_n C0.1 C0.2.1 dX8_numbers_59 rfl (lv_at hl 2 rfl) ?_
              obtain ⟨v14, h_v14, h⟩ := bndp_s h
              refine callV_i (rest := [.ref (g.2 100)]) C0 hml hE (M_rec C0 hE) (c_M_number l D g hR i_p1 i_x9 h_v14) kw_X8_99 ⟨Nat.le_of_ble_eq_true rfl, Nat.le_of_ble_eq_true rfl⟩ rfl hl.1 rfl (Nat.le_of_ble_eq_true rfl) dX8_numbers_60 ⟨Nat.zero_le _, Nat.zero_le _⟩ (fun H locs hE i_v14 => ?_)
              refine x_i2l C0 i_v14 dX8_numbers_63 ?_
              obtain ⟨v15, s16, h_v15, h⟩ := bnd_s h
              refine callV_v (rest := []) C0 hml hE (M_rec C0 hE) (c_M_tell l D g hR (in64_of i_v14) h_v15) kw_X8_150 ⟨Nat.le_of_ble_eq_true rfl, Nat.le_of_ble_eq_true rfl⟩ rfl hl.1 rfl (Nat.le_of_ble_eq_true rfl) dX8_numbers_64 ⟨Nat.zero_le _, Nat.zero_le _⟩ (fun H locs hE hR => ?_)
              obtain ⟨v17, e_v17, i_v17, h⟩ := oadd_s h
              refine x_iinc (lv' := [(3, .int (I v17)), (0, .ref (g.2 100)), (1, .int (I p1))]) C0 dX8_numbers_67 hl (k := 2) rfl e_v17 (by decide) rfl (fun ls hl => ?_)
              refine x_goto C0 dX8_numbers_70 (tgt := 37) (by decide) ?_
              exact ih11 s16 hR v17 i_v17 _ _ _ hE (lv_sub hl [1, 2, 0] rfl) h
      exact hL37 FU s5 hR p2 i_p2 _ _ _ hE (lv_sub hl [1, 2, 0] rfl) h
    · have h := ite_t c9 h
      refine lv_iconst (v := I (-1)) C0.1 C0.2.1 dX8_numbers_28 rfl ?_
      exact ret_i (wf := wM g) C0 hr hlk hE h lit_m1 hR dX8_numbers_29
set_option maxRecDepth 100000 in
set_option maxHeartbeats 4000000 in
theorem c_M_firstOf (l : Launch) (D : va_G) (g : Ad) {σ : St} {p1 p2 p3 p4 r : Int} (hR : R32 σ) (i_p1 : in32 p1) (i_p2 : in32 p2) (i_p3 : in32 p3) (i_p4 : in32 p4) (h : M_firstOf σ p1 p2 p3 p4 = some r) : CtI l D g yX8_firstOf cX8_firstOf 6 (some .int) 2 (wM g σ) (wM g σ) [.ref (g.2 100), .int (I p1), .int (I p2), .int (I p3), .int (I p4)] r (in32 r) := by
  intro sz
  refine met_of (by decide) (Nat.le_of_ble_eq_true rfl) (fun p e s m args below meth c ls H locs C0 hml hr hlk hE hl => ?_)
  have C0 : CX p c cX8_firstOf m s args D g RX8 := C0
  have hl : lv_has ls 6 [(0, .ref (g.2 100)), (1, .int (I p1)), (2, .int (I p2)), (3, .int (I p3)), (4, .int (I p4))] := hl
  unfold M_firstOf at h
  refine lv_iload_n C0.1 C0.2.1 dX8_firstOf_0 rfl (lv_at hl 3 rfl) ?_
  refine lv_istore (lv' := [(5, .int (I p3)), (0, .ref (g.2 100)), (1, .int (I p1)), (2, .int (I p2)), (3, .int (I p3)), (4, .int (I p4))]) C0.1 C0.2.1 dX8_firstOf_1 hl (by decide) rfl (fun ls hl => ?_)
  have hL3 : ∀ (n : Nat) (x1 : Int) (i_x1 : in32 x1) (H : Heap) (locs : List Loc) (ls : Array Slot), EW D (va_A (wM g σ) sz) s.heap (wM g σ) H locs → lv_has ls 6 [(0, .ref (g.2 100)), (1, .int (I p1)), (2, .int (I p2)), (4, .int (I p4)), (5, .int (I x1))] → M_firstOf_L3 σ p1 p2 p4 n x1 = some r → W p l e (rmk 2) s m args below meth c H locs 0 0 (MQ below (QCi D (wM g σ) r (in32 r) (va_A (wM g σ) sz)) args s 0 0 (va_A (wM g σ) sz)) (F0 m 3 ls []) := by
    intro n
    induction n with
    | zero => intros; rename_i h; cases h
    | succ n ih2 =>
      intro x1 i_x1 H locs ls hE hl h
      unfold M_firstOf_L3 at h
      refine lv_iload C0.1 C0.2.1 dX8_firstOf_3 (lv_at hl 4 rfl) ?_
      refine lv_iload C0.1 C0.2.1 dX8_firstOf_5 (lv_at hl 3 rfl) ?_
      refine x_icmp_ge C0 i_x1 i_p4 dX8_firstOf_7 (tgt := 30) (by decide) (fun c9 => ?_) (fun c9 => ?_)
      · have h := ite_f c9 h
        refine lv_iconst (v := I (-1)) C0.1 C0.2.1 dX8_firstOf_30 rfl ?_
        exact pret_i C0 hr hlk hE h lit_m1 dX8_firstOf_31
      · have h := ite_t c9 h
        refine lv_aload_n C0.1 C0.2.1 dX8_firstOf_10 rfl (lv_at hl 0 rfl) ?_
        refine lv_iload_n C0.1 C0.2.1 dX8_firstOf_11 rfl (lv_at hl 1 rfl) ?_
        refine lv_iload C0.1 C0.2.1 dX8_firstOf_12 (lv_at hl 4 rfl) ?_
        obtain ⟨v3, h_v3, h⟩ := bndp_s h
        refine callV_i (rest := []) C0 hml hE (M_rec C0 hE) (c_M_number l D g hR i_p1 i_x1 h_v3) kw_X8_99 ⟨Nat.le_of_ble_eq_true rfl, Nat.le_of_ble_eq_true rfl⟩ rfl hl.1 rfl (Nat.le_of_ble_eq_true rfl) dX8_firstOf_14 ⟨Nat.zero_le _, Nat.zero_le _⟩ (fun H locs hE i_v3 => ?_)
        refine lv_iload_n C0.1 C0.2.1 dX8_firstOf_17 rfl (lv_at hl 2 rfl) ?_
        refine x_icmp_ne C0 i_v3 i_p2 dX8_firstOf_18 (tgt := 24) (by decide) (fun c9 => ?_) (fun c9 => ?_)
        · have h := ite_f c9 h
          obtain ⟨v4, e_v4, i_v4, h⟩ := oadd_s h
          refine x_iinc (lv' := [(5, .int (I v4)), (0, .ref (g.2 100)), (1, .int (I p1)), (2, .int (I p2)), (4, .int (I p4))]) C0 dX8_firstOf_24 hl (k := 4) rfl e_v4 (by decide) rfl (fun ls hl => ?_)
          refine x_goto C0 dX8_firstOf_27 (tgt := 3) (by decide) ?_
          exact ih2 v4 i_v4 _ _ _ hE (lv_sub hl [1, 2, 3, 4, 0] rfl) h
        · have h := ite_t c9 h
          refine lv_iload C0.1 C0.2.1 dX8_firstOf_21 (lv_at hl 4 rfl) ?_
          exact pret_i C0 hr hlk hE h i_x1 dX8_firstOf_23
  exact hL3 FU p3 i_p3 _ _ _ hE (lv_sub hl [1, 2, 3, 5, 0] rfl) h
set_option maxRecDepth 100000 in
set_option maxHeartbeats 4000000 in
theorem c_M_sum (l : Launch) (D : va_G) (g : Ad) {σ σr : St} {p1 p2 p3 r : Int} (hR : R32 σ) (i_p1 : in32 p1) (i_p2 : in32 p2) (i_p3 : in32 p3) (h : M_sum σ p1 p2 p3 = some (r, σr)) : CtI l D g yX8_sum cX8_sum 8 (some .int) 3 (wM g σ) (wM g σr) [.ref (g.2 100), .int (I p1), .int (I p2), .int (I p3)] r (in32 r ∧ R32 σr) := by
  intro sz
  refine met_of (by decide) (Nat.le_of_ble_eq_true rfl) (fun p e s m args below meth c ls H locs C0 hml hr hlk hE hl => ?_)
  have C0 : CX p c cX8_sum m s args D g RX8 := C0
  have hl : lv_has ls 8 [(0, .ref (g.2 100)), (1, .int (I p1)), (2, .int (I p2)), (3, .int (I p3))] := hl
  unfold M_sum at h
  refine lv_aload_n C0.1 C0.2.1 dX8_sum_0 rfl (lv_at hl 0 rfl) ?_
  refine lv_iconst (v := I 0) C0.1 C0.2.1 dX8_sum_1 rfl ?_
  obtain ⟨s1, e_s1, hR, h⟩ := pf_s hR lit_0 h
  refine M_p_thrown C0 hE e_s1 fk_X8_55 dX8_sum_2 (fun H locs hE => ?_)
  refine lv_iload_n C0.1 C0.2.1 dX8_sum_5 rfl (lv_at hl 1 rfl) ?_
  obtain ⟨v2, h_v2, h⟩ := bndp_s h
  refine callS_i (rest := []) C0 hml hE (c_M_isPlace l D g (σ := s1) i_p1 h_v2) kw_X8_134 ⟨Nat.le_of_ble_eq_true rfl, Nat.le_of_ble_eq_true rfl⟩ rfl hl.1 rfl (Nat.le_of_ble_eq_true rfl) dX8_sum_6 ⟨Nat.zero_le _, Nat.zero_le _⟩ (fun H locs hE i_v2 => ?_)
  obtain ⟨k3, e_k3, h⟩ := jn_s h
  have h_k3 : ∀ (H : Heap) (locs : List Loc) (ls : Array Slot), EW D (va_A (wM g σ) sz) s.heap (wM g s1) H locs → lv_has ls 8 [] → k3 = some (r, σr) → W p l e (rmk 3) s m args below meth c H locs 0 0 (MQ below (QCi D (wM g σr) r (in32 r ∧ R32 σr) (va_A (wM g σ) sz)) args s 0 0 (va_A (wM g σ) sz)) (F0 m 22 ls []) := by
    intro H locs ls hE hl h
    have h := e_k3.symm.trans h
    refine x_ldcw (v := (-1000000)) C0 ck_X8_273 (by decide +kernel) dX8_sum_22 ?_
    exact ret_i (wf := wM g) C0 hr hlk hE h lit_m1000000 hR dX8_sum_25
  refine x_if_eq C0 i_v2 dX8_sum_9 (tgt := 22) (by decide) (fun c9 => ?_) (fun c9 => ?_)
  · have h := ite_t c9 h
    exact h_k3 _ _ _ hE (lv_sub hl [] rfl) h
  · have h := ite_f c9 h
    refine lv_aload_n C0.1 C0.2.1 dX8_sum_12 rfl (lv_at hl 0 rfl) ?_
    refine lv_iload_n C0.1 C0.2.1 dX8_sum_13 rfl (lv_at hl 1 rfl) ?_
    refine lv_iload_n C0.1 C0.2.1 dX8_sum_14 rfl (lv_at hl 2 rfl) ?_
    refine lv_iload_n C0.1 C0.2.1 dX8_sum_15 rfl (lv_at hl 3 rfl) ?_
    obtain ⟨v4, h_v4, h⟩ := bndp_s h
    refine callV_i (rest := []) C0 hml hE (M_rec C0 hE) (c_M_isSpan l D g hR i_p1 i_p2 i_p3 h_v4) kw_X8_225 ⟨Nat.le_of_ble_eq_true rfl, Nat.le_of_ble_eq_true rfl⟩ rfl hl.1 rfl (Nat.le_of_ble_eq_true rfl) dX8_sum_16 ⟨Nat.zero_le _, Nat.zero_le _⟩ (fun H locs hE i_v4 => ?_)
    refine x_if_ne C0 i_v4 dX8_sum_19 (tgt := 26) (by decide) (fun c9 => ?_) (fun c9 => ?_)
    · have h := ite_f c9 h
      refine lv_iconst (v := I 0) C0.1 C0.2.1 dX8_sum_26 rfl ?_
      refine lv_istore (lv' := [(4, .int (I 0)), (0, .ref (g.2 100)), (1, .int (I p1)), (2, .int (I p2)), (3, .int (I p3))]) C0.1 C0.2.1 dX8_sum_27 hl (by decide) rfl (fun ls hl => ?_)
      refine lv_sipush (v := I 999) C0.1 C0.2.1 dX8_sum_29 (by decide +kernel) ?_
      refine lv_istore (lv' := [(5, .int (I 999)), (4, .int (I 0)), (0, .ref (g.2 100)), (1, .int (I p1)), (2, .int (I p2)), (3, .int (I p3))]) C0.1 C0.2.1 dX8_sum_32 hl (by decide) rfl (fun ls hl => ?_)
      refine lv_sipush (v := I (-999)) C0.1 C0.2.1 dX8_sum_34 (by decide +kernel) ?_
      refine lv_istore (lv' := [(6, .int (I (-999))), (5, .int (I 999)), (4, .int (I 0)), (0, .ref (g.2 100)), (1, .int (I p1)), (2, .int (I p2)), (3, .int (I p3))]) C0.1 C0.2.1 dX8_sum_37 hl (by decide) rfl (fun ls hl => ?_)
      refine lv_iload_n C0.1 C0.2.1 dX8_sum_39 rfl (lv_at hl 5 rfl) ?_
      refine lv_istore (lv' := [(7, .int (I p2)), (6, .int (I (-999))), (5, .int (I 999)), (4, .int (I 0)), (0, .ref (g.2 100)), (1, .int (I p1)), (2, .int (I p2)), (3, .int (I p3))]) C0.1 C0.2.1 dX8_sum_40 hl (by decide) rfl (fun ls hl => ?_)
      obtain ⟨k8, e_k8, h⟩ := jn_s h
      have h_k8 : ∀ (x5 : Int) (i_x5 : in32 x5) (x6 : Int) (i_x6 : in32 x6) (x7 : Int) (i_x7 : in32 x7) (H : Heap) (locs : List Loc) (ls : Array Slot), EW D (va_A (wM g σ) sz) s.heap (wM g s1) H locs → lv_has ls 8 [(0, .ref (g.2 100)), (1, .int (I p1)), (2, .int (I p2)), (3, .int (I p3)), (4, .int (I x5)), (5, .int (I x6)), (6, .int (I x7))] → k8 x5 x6 x7 = some (r, σr) → W p l e (rmk 3) s m args below meth c H locs 0 0 (MQ below (QCi D (wM g σr) r (in32 r ∧ R32 σr) (va_A (wM g σ) sz)) args s 0 0 (va_A (wM g σ) sz)) (F0 m 94 ls []) := by
        intro x5 i_x5 x6 i_x6 x7 i_x7 H locs ls hE hl h
        have h := (congrFun (congrFun (congrFun e_k8 x5) x6) x7).symm.trans h
        refine lv_aload_n C0.1 C0.2.1 dX8_sum_94 rfl (lv_at hl 0 rfl) ?_
        refine lv_iconst (v := I 0) C0.1 C0.2.1 dX8_sum_95 rfl ?_
        obtain ⟨s9, e_s9, hR, h⟩ := pf_s hR lit_0 h
        refine M_p_rowMany C0 hE e_s9 fk_X8_59 dX8_sum_96 (fun H locs hE => ?_)
        refine lv_iload_n C0.1 C0.2.1 dX8_sum_99 rfl (lv_at hl 2 rfl) ?_
        refine lv_iload_n C0.1 C0.2.1 dX8_sum_100 rfl (lv_at hl 3 rfl) ?_
        refine x_icmp_ge C0 i_p2 i_p3 dX8_sum_101 (tgt := 146) (by decide) (fun c9 => ?_) (fun c9 => ?_)
        · have h := ite_f c9 h
          refine lv_iload C0.1 C0.2.1 dX8_sum_146 (lv_at hl 4 rfl) ?_
          exact ret_i (wf := wM g) C0 hr hlk hE h i_x5 hR dX8_sum_148
        · have h := ite_t c9 h
          refine lv_aload_n C0.1 C0.2.1 dX8_sum_104 rfl (lv_at hl 0 rfl) ?_
          refine lv_iload C0.1 C0.2.1 dX8_sum_105 (lv_at hl 5 rfl) ?_
          refine x_i2l C0 i_x6 dX8_sum_107 ?_
          obtain ⟨v10, s11, h_v10, h⟩ := bnd_s h
          refine callV_v (rest := []) C0 hml hE (M_rec C0 hE) (c_M_tell l D g hR (in64_of i_x6) h_v10) kw_X8_150 ⟨Nat.le_of_ble_eq_true rfl, Nat.le_of_ble_eq_true rfl⟩ rfl hl.1 rfl (Nat.le_of_ble_eq_true rfl) dX8_sum_108 ⟨Nat.zero_le _, Nat.zero_le _⟩ (fun H locs hE hR => ?_)
          refine lv_aload_n C0.1 C0.2.1 dX8_sum_111 rfl (lv_at hl 0 rfl) ?_
          refine lv_iload C0.1 C0.2.1 dX8_sum_112 (lv_at hl 6 rfl) ?_
          refine x_i2l C0 i_x7 dX8_sum_114 ?_
          obtain ⟨v12, s13, h_v12, h⟩ := bnd_s h
          refine callV_v (rest := []) C0 hml hE (M_rec C0 hE) (c_M_tell l D g hR (in64_of i_x7) h_v12) kw_X8_150 ⟨Nat.le_of_ble_eq_true rfl, Nat.le_of_ble_eq_true rfl⟩ rfl hl.1 rfl (Nat.le_of_ble_eq_true rfl) dX8_sum_115 ⟨Nat.zero_le _, Nat.zero_le _⟩ (fun H locs hE hR => ?_)
          refine lv_aload_n C0.1 C0.2.1 dX8_sum_118 rfl (lv_at hl 0 rfl) ?_
          refine lv_aload_n C0.1 C0.2.1 dX8_sum_119 rfl (lv_at hl 0 rfl) ?_
          refine lv_iload_n C0.1 C0.2.1 dX8_sum_120 rfl (lv_at hl 1 rfl) ?_
          refine lv_iload C0.1 C0.2.1 dX8_sum_121 (lv_at hl 5 rfl) ?_
          refine lv_iload_n C0.1 C0.2.1 dX8_sum_123 rfl (lv_at hl 2 rfl) ?_
          refine lv_iload_n C0.1 C0.2.1 dX8_sum_124 rfl (lv_at hl 3 rfl) ?_
          obtain ⟨v14, h_v14, h⟩ := bndp_s h
          refine callV_i (rest := [.ref (g.2 100)]) C0 hml hE (M_rec C0 hE) (c_M_firstOf l D g hR i_p1 i_x6 i_p2 i_p3 h_v14) kw_X8_274 ⟨Nat.le_of_ble_eq_true rfl, Nat.le_of_ble_eq_true rfl⟩ rfl hl.1 rfl (Nat.le_of_ble_eq_true rfl) dX8_sum_125 ⟨Nat.zero_le _, Nat.zero_le _⟩ (fun H locs hE i_v14 => ?_)
          refine x_i2l C0 i_v14 dX8_sum_128 ?_
          obtain ⟨v15, s16, h_v15, h⟩ := bnd_s h
          refine callV_v (rest := []) C0 hml hE (M_rec C0 hE) (c_M_tell l D g hR (in64_of i_v14) h_v15) kw_X8_150 ⟨Nat.le_of_ble_eq_true rfl, Nat.le_of_ble_eq_true rfl⟩ rfl hl.1 rfl (Nat.le_of_ble_eq_true rfl) dX8_sum_129 ⟨Nat.zero_le _, Nat.zero_le _⟩ (fun H locs hE hR => ?_)
          refine lv_aload_n C0.1 C0.2.1 dX8_sum_132 rfl (lv_at hl 0 rfl) ?_
          refine lv_aload_n C0.1 C0.2.1 dX8_sum_133 rfl (lv_at hl 0 rfl) ?_
          refine lv_iload_n C0.1 C0.2.1 dX8_sum_134 rfl (lv_at hl 1 rfl) ?_
          refine lv_iload C0.1 C0.2.1 dX8_sum_135 (lv_at hl 6 rfl) ?_
          refine lv_iload_n C0.1 C0.2.1 dX8_sum_137 rfl (lv_at hl 2 rfl) ?_
          refine lv_iload_n C0.1 C0.2.1 dX8_sum_138 rfl (lv_at hl 3 rfl) ?_
          obtain ⟨v17, h_v17, h⟩ := bndp_s h
          refine callV_i (rest := [.ref (g.2 100)]) C0 hml hE (M_rec C0 hE) (c_M_firstOf l D g hR i_p1 i_x7 i_p2 i_p3 h_v17) kw_X8_274 ⟨Nat.le_of_ble_eq_true rfl, Nat.le_of_ble_eq_true rfl⟩ rfl hl.1 rfl (Nat.le_of_ble_eq_true rfl) dX8_sum_139 ⟨Nat.zero_le _, Nat.zero_le _⟩ (fun H locs hE i_v17 => ?_)
          refine x_i2l C0 i_v17 dX8_sum_142 ?_
          obtain ⟨v18, s19, h_v18, h⟩ := bnd_s h
          refine callV_v (rest := []) C0 hml hE (M_rec C0 hE) (c_M_tell l D g hR (in64_of i_v17) h_v18) kw_X8_150 ⟨Nat.le_of_ble_eq_true rfl, Nat.le_of_ble_eq_true rfl⟩ rfl hl.1 rfl (Nat.le_of_ble_eq_true rfl) dX8_sum_143 ⟨Nat.zero_le _, Nat.zero_le _⟩ (fun H locs hE hR => ?_)
          refine lv_iload C0.1 C0.2.1 dX8_sum_146 (lv_at hl 4 rfl) ?_
          exact ret_i (wf := wM g) C0 hr hlk hE h i_x5 hR dX8_sum_148
      have hL42 : ∀ (n : Nat) (x20 : Int) (i_x20 : in32 x20) (x21 : Int) (i_x21 : in32 x21) (x22 : Int) (i_x22 : in32 x22) (x23 : Int) (i_x23 : in32 x23) (H : Heap) (locs : List Loc) (ls : Array Slot), EW D (va_A (wM g σ) sz) s.heap (wM g s1) H locs → lv_has ls 8 [(0, .ref (g.2 100)), (1, .int (I p1)), (2, .int (I p2)), (3, .int (I p3)), (4, .int (I x20)), (5, .int (I x21)), (6, .int (I x22)), (7, .int (I x23))] → M_sum_L42 k8 s1 p1 p3 n x20 x21 x22 x23 = some (r, σr) → W p l e (rmk 3) s m args below meth c H locs 0 0 (MQ below (QCi D (wM g σr) r (in32 r ∧ R32 σr) (va_A (wM g σ) sz)) args s 0 0 (va_A (wM g σ) sz)) (F0 m 42 ls []) := by
        intro n
        induction n with
        | zero => intros; rename_i h; cases h
        | succ n ih24 =>
          intro x20 i_x20 x21 i_x21 x22 i_x22 x23 i_x23 H locs ls hE hl h
          unfold M_sum_L42 at h
          refine lv_iload C0.1 C0.2.1 dX8_sum_42 (lv_at hl 7 rfl) ?_
          refine lv_iload_n C0.1 C0.2.1 dX8_sum_44 rfl (lv_at hl 3 rfl) ?_
          refine x_icmp_ge C0 i_x23 i_p3 dX8_sum_45 (tgt := 94) (by decide) (fun c9 => ?_) (fun c9 => ?_)
          · have h := ite_f c9 h
            exact h_k8 x20 i_x20 x21 i_x21 x22 i_x22 _ _ _ hE (lv_sub hl [0, 1, 2, 3, 4, 5, 6] rfl) h
          · have h := ite_t c9 h
            refine lv_iload C0.1 C0.2.1 dX8_sum_48 (lv_at hl 4 rfl) ?_
            refine lv_aload_n C0.1 C0.2.1 dX8_sum_50 rfl (lv_at hl 0 rfl) ?_
            refine lv_iload_n C0.1 C0.2.1 dX8_sum_51 rfl (lv_at hl 1 rfl) ?_
            refine lv_iload C0.1 C0.2.1 dX8_sum_52 (lv_at hl 7 rfl) ?_
            obtain ⟨v25, h_v25, h⟩ := bndp_s h
            refine callV_i (rest := [.int (I x20)]) C0 hml hE (M_rec C0 hE) (c_M_number l D g hR i_p1 i_x23 h_v25) kw_X8_99 ⟨Nat.le_of_ble_eq_true rfl, Nat.le_of_ble_eq_true rfl⟩ rfl hl.1 rfl (Nat.le_of_ble_eq_true rfl) dX8_sum_54 ⟨Nat.zero_le _, Nat.zero_le _⟩ (fun H locs hE i_v25 => ?_)
            obtain ⟨v26, e_v26, i_v26, h⟩ := oadd_s h
            refine x_add C0 e_v26 dX8_sum_57 ?_
            refine lv_istore (lv' := [(4, .int (I v26)), (0, .ref (g.2 100)), (1, .int (I p1)), (2, .int (I p2)), (3, .int (I p3)), (5, .int (I x21)), (6, .int (I x22)), (7, .int (I x23))]) C0.1 C0.2.1 dX8_sum_58 hl (by decide) rfl (fun ls hl => ?_)
            refine lv_iload C0.1 C0.2.1 dX8_sum_60 (lv_at hl 5 rfl) ?_
            refine lv_aload_n C0.1 C0.2.1 dX8_sum_62 rfl (lv_at hl 1 rfl) ?_
            refine lv_iload_n C0.1 C0.2.1 dX8_sum_63 rfl (lv_at hl 2 rfl) ?_
            refine lv_iload C0.1 C0.2.1 dX8_sum_64 (lv_at hl 7 rfl) ?_
            obtain ⟨v27, h_v27, h⟩ := bndp_s h
            refine callV_i (rest := [.int (I x21)]) C0 hml hE (M_rec C0 hE) (c_M_number l D g hR i_p1 i_x23 h_v27) kw_X8_99 ⟨Nat.le_of_ble_eq_true rfl, Nat.le_of_ble_eq_true rfl⟩ rfl hl.1 rfl (Nat.le_of_ble_eq_true rfl) dX8_sum_66 ⟨Nat.zero_le _, Nat.zero_le _⟩ (fun H locs hE i_v27 => ?_)
            obtain ⟨v28, e_v28, i_v28, h⟩ := opure_s h (imin_in i_x21 i_v27)
            refine x_min C0 kw_X8_229 (hml.trans hl.1.symm) i_x21 i_v27 e_v28 ⟨Nat.le_of_ble_eq_true rfl, Nat.le_of_ble_eq_true rfl⟩ ⟨Nat.zero_le _, Nat.zero_le _⟩ dX8_sum_69 ?_
            refine lv_istore (lv' := [(5, .int (I v28)), (4, .int (I v26)), (0, .ref (g.2 100)), (1, .int (I p1)), (2, .int (I p2)), (3, .int (I p3)), (6, .int (I x22)), (7, .int (I x23))]) C0.1 C0.2.1 dX8_sum_72 hl (by decide) rfl (fun ls hl => ?_)
            refine lv_iload C0.1 C0.2.1 dX8_sum_74 (lv_at hl 6 rfl) ?_
            refine lv_aload_n C0.1 C0.2.1 dX8_sum_76 rfl (lv_at hl 2 rfl) ?_
            refine lv_iload_n C0.1 C0.2.1 dX8_sum_77 rfl (lv_at hl 3 rfl) ?_
            refine lv_iload C0.1 C0.2.1 dX8_sum_78 (lv_at hl 7 rfl) ?_
            obtain ⟨v29, h_v29, h⟩ := bndp_s h
            refine callV_i (rest := [.int (I x22)]) C0 hml hE (M_rec C0 hE) (c_M_number l D g hR i_p1 i_x23 h_v29) kw_X8_99 ⟨Nat.le_of_ble_eq_true rfl, Nat.le_of_ble_eq_true rfl⟩ rfl hl.1 rfl (Nat.le_of_ble_eq_true rfl) dX8_sum_80 ⟨Nat.zero_le _, Nat.zero_le _⟩ (fun H locs hE i_v29 => ?_)
            obtain ⟨v30, e_v30, i_v30, h⟩ := opure_s h (imax_in i_x22 i_v29)
            refine x_max C0 kw_X8_234 (hml.trans hl.1.symm) i_x22 i_v29 e_v30 ⟨Nat.le_of_ble_eq_true rfl, Nat.le_of_ble_eq_true rfl⟩ ⟨Nat.zero_le _, Nat.zero_le _⟩ dX8_sum_83 ?_
            refine lv_istore (lv' := [(6, .int (I v30)), (5, .int (I v28)), (4, .int (I v26)), (0, .ref (g.2 100)), (1, .int (I p1)), (2, .int (I p2)), (3, .int (I p3)), (7, .int (I x23))]) C0.1 C0.2.1 dX8_sum_86 hl (by decide) rfl (fun ls hl => ?_)
            obtain ⟨v31, e_v31, i_v31, h⟩ := oadd_s h
            refine x_iinc (lv' := [(7, .int (I v31)), (6, .int (I v30)), (5, .int (I v28)), (4, .int (I v26)), (0, .ref (g.2 100)), (1, .int (I p1)), (2, .int (I p2)), (3, .int (I p3))]) C0 dX8_sum_88 hl (k := 7) rfl e_v31 (by decide) rfl (fun ls hl => ?_)
            refine x_goto C0 dX8_sum_91 (tgt := 42) (by decide) ?_
            exact ih24 v26 i_v26 v28 i_v28 v30 i_v30 v31 i_v31 _ _ _ hE (lv_sub hl [4, 5, 6, 7, 3, 2, 1, 0] rfl) h
      exact hL42 FU 0 lit_0 999 lit_999 (-999) lit_m999 p2 i_p2 _ _ _ hE (lv_sub hl [4, 5, 6, 7, 3, 2, 1, 0] rfl) h
    · have h := ite_t c9 h
      exact h_k3 _ _ _ hE (lv_sub hl [] rfl) h
set_option maxRecDepth 100000 in
set_option maxHeartbeats 4000000 in
theorem c_M_finds (l : Launch) (D : va_G) (g : Ad) {σ σr : St} {p1 p2 r : Int} (hR : R32 σ) (i_p1 : in32 p1) (i_p2 : in32 p2) (h : M_finds σ p1 p2 = some (r, σr)) : CtI l D g yX8_finds cX8_finds 7 (some .int) 3 (wM g σ) (wM g σr) [.ref (g.2 100), .int (I p1), .int (I p2)] r (in32 r ∧ R32 σr) := by
  intro sz
  refine met_of (by decide) (Nat.le_of_ble_eq_true rfl) (fun p e s m args below meth c ls H locs C0 hml hr hlk hE hl => ?_)
  have C0 : CX p c cX8_finds m s args D g RX8 := C0
  have hl : lv_has ls 7 [(0, .ref (g.2 100)), (1, .int (I p1)), (2, .int (I p2))] := hl
  unfold M_finds at h
  refine lv_aload_n C0.1 C0.2.1 dX8_finds_0 rfl (lv_at hl 0 rfl) ?_
  refine lv_iconst (v := I 0) C0.1 C0.2.1 dX8_finds_1 rfl ?_
  obtain ⟨s1, e_s1, hR, h⟩ := pf_s hR lit_0 h
  refine M_p_thrown C0 hE e_s1 fk_X8_55 dX8_finds_2 (fun H locs hE => ?_)
  refine lv_iload_n C0.1 C0.2.1 dX8_finds_5 rfl (lv_at hl 1 rfl) ?_
  obtain ⟨v2, h_v2, h⟩ := bndp_s h
  refine callS_i (rest := []) C0 hml hE (c_M_isPlace l D g (σ := s1) i_p1 h_v2) kw_X8_134 ⟨Nat.le_of_ble_eq_true rfl, Nat.le_of_ble_eq_true rfl⟩ rfl hl.1 rfl (Nat.le_of_ble_eq_true rfl) dX8_finds_6 ⟨Nat.zero_le _, Nat.zero_le _⟩ (fun H locs hE i_v2 => ?_)
  refine x_if_eq C0 i_v2 dX8_finds_9 (tgt := 19) (by decide) (fun c9 => ?_) (fun c9 => ?_)
  · have h := ite_t c9 h
    refine lv_iconst (v := I (-1)) C0.1 C0.2.1 dX8_finds_19 rfl ?_
    exact ret_i (wf := wM g) C0 hr hlk hE h lit_m1 hR dX8_finds_20
  · have h := ite_f c9 h
    refine lv_iload_n C0.1 C0.2.1 dX8_finds_12 rfl (lv_at hl 2 rfl) ?_
    obtain ⟨v3, h_v3, h⟩ := bndp_s h
    refine callS_i (rest := []) C0 hml hE (c_M_isNumber l D g (σ := s1) i_p2 h_v3) kw_X8_163 ⟨Nat.le_of_ble_eq_true rfl, Nat.le_of_ble_eq_true rfl⟩ rfl hl.1 rfl (Nat.le_of_ble_eq_true rfl) dX8_finds_13 ⟨Nat.zero_le _, Nat.zero_le _⟩ (fun H locs hE i_v3 => ?_)
    refine x_if_ne C0 i_v3 dX8_finds_16 (tgt := 21) (by decide) (fun c9 => ?_) (fun c9 => ?_)
    · have h := ite_f c9 h
      refine lv_aload_n C0.1 C0.2.1 dX8_finds_21 rfl (lv_at hl 0 rfl) ?_
      refine lv_iload_n C0.1 C0.2.1 dX8_finds_22 rfl (lv_at hl 1 rfl) ?_
      refine lv_iload_n C0.1 C0.2.1 dX8_finds_23 rfl (lv_at hl 2 rfl) ?_
      refine lv_iconst (v := I 0) C0.1 C0.2.1 dX8_finds_24 rfl ?_
      refine lv_aload_n C0.1 C0.2.1 dX8_finds_25 rfl (lv_at hl 0 rfl) ?_
      refine M_g_sizes C0 hE fk_X8_16 dX8_finds_26 ?_
      refine lv_iload_n C0.1 C0.2.1 dX8_finds_29 rfl (lv_at hl 1 rfl) ?_
      obtain ⟨v4, e_v4, i_v4, h⟩ := rd_s hR h
      refine M_sizes_l C0 hE i_p1 e_v4 dX8_finds_30 ?_
      obtain ⟨v5, h_v5, h⟩ := bndp_s h
      refine callV_i (rest := []) C0 hml hE (M_rec C0 hE) (c_M_firstOf l D g hR i_p1 i_p2 lit_0 i_v4 h_v5) kw_X8_274 ⟨Nat.le_of_ble_eq_true rfl, Nat.le_of_ble_eq_true rfl⟩ rfl hl.1 rfl (Nat.le_of_ble_eq_true rfl) dX8_finds_31 ⟨Nat.zero_le _, Nat.zero_le _⟩ (fun H locs hE i_v5 => ?_)
      refine lv_istore_n (lv' := [(3, .int (I v5)), (0, .ref (g.2 100)), (1, .int (I p1)), (2, .int (I p2))]) C0.1 C0.2.1 dX8_finds_34 rfl hl (by decide) rfl (fun ls hl => ?_)
      refine lv_iload_n C0.1 C0.2.1 dX8_finds_35 rfl (lv_at hl 0 rfl) ?_
      refine lv_iconst (v := I (-1)) C0.1 C0.2.1 dX8_finds_36 rfl ?_
      refine x_icmp_ne C0 i_v5 lit_m1 dX8_finds_37 (tgt := 43) (by decide) (fun c9 => ?_) (fun c9 => ?_)
      · have h := ite_f c9 h
        refine lv_iconst (v := I 0) C0.1 C0.2.1 dX8_finds_43 rfl ?_
        refine lv_istore (lv' := [(4, .int (I 0)), (3, .int (I v5)), (0, .ref (g.2 100)), (1, .int (I p1)), (2, .int (I p2))]) C0.1 C0.2.1 dX8_finds_44 hl (by decide) rfl (fun ls hl => ?_)
        refine lv_iload_n C0.1 C0.2.1 dX8_finds_46 rfl (lv_at hl 1 rfl) ?_
        refine lv_istore (lv' := [(5, .int (I v5)), (4, .int (I 0)), (3, .int (I v5)), (0, .ref (g.2 100)), (1, .int (I p1)), (2, .int (I p2))]) C0.1 C0.2.1 dX8_finds_47 hl (by decide) rfl (fun ls hl => ?_)
        refine lv_iload_n C0.1 C0.2.1 dX8_finds_49 rfl (lv_at hl 2 rfl) ?_
        refine lv_istore (lv' := [(6, .int (I v5)), (5, .int (I v5)), (4, .int (I 0)), (3, .int (I v5)), (0, .ref (g.2 100)), (1, .int (I p1)), (2, .int (I p2))]) C0.1 C0.2.1 dX8_finds_50 hl (by decide) rfl (fun ls hl => ?_)
        obtain ⟨k8, e_k8, h⟩ := jn_s h
        have h_k8 : ∀ (x6 : Int) (i_x6 : in32 x6) (x7 : Int) (i_x7 : in32 x7) (H : Heap) (locs : List Loc) (ls : Array Slot), EW D (va_A (wM g σ) sz) s.heap (wM g s1) H locs → lv_has ls 7 [(0, .ref (g.2 100)), (3, .int (I v5)), (4, .int (I x6)), (5, .int (I x7))] → k8 x6 x7 = some (r, σr) → W p l e (rmk 3) s m args below meth c H locs 0 0 (MQ below (QCi D (wM g σr) r (in32 r ∧ R32 σr) (va_A (wM g σ) sz)) args s 0 0 (va_A (wM g σ) sz)) (F0 m 90 ls []) := by
          intro x6 i_x6 x7 i_x7 H locs ls hE hl h
          have h := (congrFun (congrFun e_k8 x6) x7).symm.trans h
          refine lv_aload_n C0.1 C0.2.1 dX8_finds_90 rfl (lv_at hl 0 rfl) ?_
          refine lv_iconst (v := I 0) C0.1 C0.2.1 dX8_finds_91 rfl ?_
          obtain ⟨s9, e_s9, hR, h⟩ := pf_s hR lit_0 h
          refine M_p_rowMany C0 hE e_s9 fk_X8_59 dX8_finds_92 (fun H locs hE => ?_)
          refine lv_aload_n C0.1 C0.2.1 dX8_finds_95 rfl (lv_at hl 0 rfl) ?_
          refine lv_iload C0.1 C0.2.1 dX8_finds_96 (lv_at hl 2 rfl) ?_
          refine x_i2l C0 i_x6 dX8_finds_98 ?_
          obtain ⟨v10, s11, h_v10, h⟩ := bnd_s h
          refine callV_v (rest := []) C0 hml hE (M_rec C0 hE) (c_M_tell l D g hR (in64_of i_x6) h_v10) kw_X8_150 ⟨Nat.le_of_ble_eq_true rfl, Nat.le_of_ble_eq_true rfl⟩ rfl hl.1 rfl (Nat.le_of_ble_eq_true rfl) dX8_finds_99 ⟨Nat.zero_le _, Nat.zero_le _⟩ (fun H locs hE hR => ?_)
          refine lv_aload_n C0.1 C0.2.1 dX8_finds_102 rfl (lv_at hl 0 rfl) ?_
          refine lv_iload C0.1 C0.2.1 dX8_finds_103 (lv_at hl 3 rfl) ?_
          refine x_i2l C0 i_x7 dX8_finds_105 ?_
          obtain ⟨v12, s13, h_v12, h⟩ := bnd_s h
          refine callV_v (rest := []) C0 hml hE (M_rec C0 hE) (c_M_tell l D g hR (in64_of i_x7) h_v12) kw_X8_150 ⟨Nat.le_of_ble_eq_true rfl, Nat.le_of_ble_eq_true rfl⟩ rfl hl.1 rfl (Nat.le_of_ble_eq_true rfl) dX8_finds_106 ⟨Nat.zero_le _, Nat.zero_le _⟩ (fun H locs hE hR => ?_)
          refine lv_iload_n C0.1 C0.2.1 dX8_finds_109 rfl (lv_at hl 1 rfl) ?_
          exact ret_i (wf := wM g) C0 hr hlk hE h i_v5 hR dX8_finds_110
        have hL52 : ∀ (n : Nat) (x14 : Int) (i_x14 : in32 x14) (x15 : Int) (i_x15 : in32 x15) (x16 : Int) (i_x16 : in32 x16) (H : Heap) (locs : List Loc) (ls : Array Slot), EW D (va_A (wM g σ) sz) s.heap (wM g s1) H locs → lv_has ls 7 [(0, .ref (g.2 100)), (1, .int (I p1)), (2, .int (I p2)), (3, .int (I v5)), (4, .int (I x14)), (5, .int (I x15)), (6, .int (I x16))] → M_finds_L52 k8 s1 p1 p2 n x14 x15 x16 = some (r, σr) → W p l e (rmk 3) s m args below meth c H locs 0 0 (MQ below (QCi D (wM g σr) r (in32 r ∧ R32 σr) (va_A (wM g σ) sz)) args s 0 0 (va_A (wM g σ) sz)) (F0 m 52 ls []) := by
          intro n
          induction n with
          | zero => intros; rename_i h; cases h
          | succ n ih17 =>
            intro x14 i_x14 x15 i_x15 x16 i_x16 H locs ls hE hl h
            unfold M_finds_L52 at h
            refine lv_iload C0.1 C0.2.1 dX8_finds_52 (lv_at hl 6 rfl) ?_
            refine lv_aload_n C0.1 C0.2.1 dX8_finds_54 rfl (lv_at hl 0 rfl) ?_
            refine M_g_sizes C0 hE fk_X8_16 dX8_finds_55 ?_
            refine lv_iload_n C0.1 C0.2.1 dX8_finds_58 rfl (lv_at hl 1 rfl) ?_
            obtain ⟨v18, e_v18, i_v18, h⟩ := rd_s hR h
            refine M_sizes_l C0 hE i_p1 e_v18 dX8_finds_59 ?_
            refine x_icmp_ge C0 i_x16 i_v18 dX8_finds_60 (tgt := 90) (by decide) (fun c9 => ?_) (fun c9 => ?_)
            · have h := ite_f c9 h
              exact h_k8 x14 i_x14 x15 i_x15 _ _ _ hE (lv_sub hl [0, 3, 4, 5] rfl) h
            · have h := ite_t c9 h
              refine lv_aload_n C0.1 C0.2.1 dX8_finds_63 rfl (lv_at hl 0 rfl) ?_
              refine lv_iload_n C0.1 C0.2.1 dX8_finds_64 rfl (lv_at hl 1 rfl) ?_
              refine lv_iload C0.1 C0.2.1 dX8_finds_65 (lv_at hl 6 rfl) ?_
              obtain ⟨v19, h_v19, h⟩ := bndp_s h
              refine callV_i (rest := []) C0 hml hE (M_rec C0 hE) (c_M_number l D g hR i_p1 i_x16 h_v19) kw_X8_99 ⟨Nat.le_of_ble_eq_true rfl, Nat.le_of_ble_eq_true rfl⟩ rfl hl.1 rfl (Nat.le_of_ble_eq_true rfl) dX8_finds_67 ⟨Nat.zero_le _, Nat.zero_le _⟩ (fun H locs hE i_v19 => ?_)
              refine lv_iload_n C0.1 C0.2.1 dX8_finds_70 rfl (lv_at hl 2 rfl) ?_
              obtain ⟨k22, e_k22, h⟩ := jn_s h
              have h_k22 : ∀ (x20 : Int) (i_x20 : in32 x20) (x21 : Int) (i_x21 : in32 x21) (H : Heap) (locs : List Loc) (ls : Array Slot), EW D (va_A (wM g σ) sz) s.heap (wM g s1) H locs → lv_has ls 7 [(0, .ref (g.2 100)), (1, .int (I p1)), (2, .int (I p2)), (3, .int (I v5)), (4, .int (I x20)), (5, .int (I x21)), (6, .int (I x16))] → k22 x20 x21 = some (r, σr) → W p l e (rmk 3) s m args below meth c H locs 0 0 (MQ below (QCi D (wM g σr) r (in32 r ∧ R32 σr) (va_A (wM g σ) sz)) args s 0 0 (va_A (wM g σ) sz)) (F0 m 84 ls []) := by
                intro x20 i_x20 x21 i_x21 H locs ls hE hl h
                have h := (congrFun (congrFun e_k22 x20) x21).symm.trans h
                obtain ⟨v23, e_v23, i_v23, h⟩ := oadd_s h
                refine x_iinc (lv' := [(6, .int (I v23)), (0, .ref (g.2 100)), (1, .int (I p1)), (2, .int (I p2)), (3, .int (I v5)), (4, .int (I x20)), (5, .int (I x21))]) C0 dX8_finds_84 hl (k := 6) rfl e_v23 (by decide) rfl (fun ls hl => ?_)
                refine x_goto C0 dX8_finds_87 (tgt := 52) (by decide) ?_
                exact ih17 x20 i_x20 x21 i_x21 v23 i_v23 _ _ _ hE (lv_sub hl [1, 2, 3, 4, 5, 6, 0] rfl) h
              refine x_icmp_eq C0 i_v19 i_p2 dX8_finds_71 (tgt := 77) (by decide) (fun c9 => ?_) (fun c9 => ?_)
              · have h := ite_t c9 h
                obtain ⟨v24, e_v24, i_v24, h⟩ := oadd_s h
                refine x_iinc (lv' := [(4, .int (I v24)), (0, .ref (g.2 100)), (1, .int (I p1)), (2, .int (I p2)), (3, .int (I v5)), (5, .int (I x15)), (6, .int (I x16))]) C0 dX8_finds_77 hl (k := 4) rfl e_v24 (by decide) rfl (fun ls hl => ?_)
                refine lv_iload C0.1 C0.2.1 dX8_finds_80 (lv_at hl 6 rfl) ?_
                refine lv_istore (lv' := [(5, .int (I x16)), (4, .int (I v24)), (0, .ref (g.2 100)), (1, .int (I p1)), (2, .int (I p2)), (3, .int (I v5)), (6, .int (I x16))]) C0.1 C0.2.1 dX8_finds_82 hl (by decide) rfl (fun ls hl => ?_)
                exact h_k22 v24 i_v24 x16 i_x16 _ _ _ hE (lv_sub hl [2, 3, 4, 5, 1, 0, 6] rfl) h
              · have h := ite_f c9 h
                refine x_goto C0 dX8_finds_74 (tgt := 84) (by decide) ?_
                exact h_k22 x14 i_x14 x15 i_x15 _ _ _ hE (lv_sub hl [0, 1, 2, 3, 4, 5, 6] rfl) h
        exact hL52 FU 0 lit_0 v5 i_v5 v5 i_v5 _ _ _ hE (lv_sub hl [4, 5, 6, 3, 2, 1, 0] rfl) h
      · have h := ite_t c9 h
        refine lv_bipush (v := I (-2)) C0.1 C0.2.1 dX8_finds_40 (by decide +kernel) ?_
        exact ret_i (wf := wM g) C0 hr hlk hE h lit_m2 hR dX8_finds_42
    · have h := ite_t c9 h
      refine lv_iconst (v := I (-1)) C0.1 C0.2.1 dX8_finds_19 rfl ?_
      exact ret_i (wf := wM g) C0 hr hlk hE h lit_m1 hR dX8_finds_20
set_option maxRecDepth 100000 in
set_option maxHeartbeats 4000000 in
theorem c_M_search (l : Launch) (D : va_G) (g : Ad) {σ σr : St} {p1 p2 r : Int} (hR : R32 σ) (i_p1 : in32 p1) (i_p2 : in32 p2) (h : M_search σ p1 p2 = some (r, σr)) : CtI l D g yX8_search cX8_search 7 (some .int) 3 (wM g σ) (wM g σr) [.ref (g.2 100), .int (I p1), .int (I p2)] r (in32 r ∧ R32 σr) := by
  intro sz
  refine met_of (by decide) (Nat.le_of_ble_eq_true rfl) (fun p e s m args below meth c ls H locs C0 hml hr hlk hE hl => ?_)
  have C0 : CX p c cX8_search m s args D g RX8 := C0
  have hl : lv_has ls 7 [(0, .ref (g.2 100)), (1, .int (I p1)), (2, .int (I p2))] := hl
  unfold M_search at h
  refine lv_aload_n C0.1 C0.2.1 dX8_search_0 rfl (lv_at hl 0 rfl) ?_
  refine lv_iconst (v := I 0) C0.1 C0.2.1 dX8_search_1 rfl ?_
  obtain ⟨s1, e_s1, hR, h⟩ := pf_s hR lit_0 h
  refine M_p_thrown C0 hE e_s1 fk_X8_55 dX8_search_2 (fun H locs hE => ?_)
  refine lv_iload_n C0.1 C0.2.1 dX8_search_5 rfl (lv_at hl 1 rfl) ?_
  obtain ⟨v2, h_v2, h⟩ := bndp_s h
  refine callS_i (rest := []) C0 hml hE (c_M_isPlace l D g (σ := s1) i_p1 h_v2) kw_X8_134 ⟨Nat.le_of_ble_eq_true rfl, Nat.le_of_ble_eq_true rfl⟩ rfl hl.1 rfl (Nat.le_of_ble_eq_true rfl) dX8_search_6 ⟨Nat.zero_le _, Nat.zero_le _⟩ (fun H locs hE i_v2 => ?_)
  refine x_if_eq C0 i_v2 dX8_search_9 (tgt := 19) (by decide) (fun c9 => ?_) (fun c9 => ?_)
  · have h := ite_t c9 h
    refine lv_iconst (v := I (-1)) C0.1 C0.2.1 dX8_search_19 rfl ?_
    exact ret_i (wf := wM g) C0 hr hlk hE h lit_m1 hR dX8_search_20
  · have h := ite_f c9 h
    refine lv_iload_n C0.1 C0.2.1 dX8_search_12 rfl (lv_at hl 2 rfl) ?_
    obtain ⟨v3, h_v3, h⟩ := bndp_s h
    refine callS_i (rest := []) C0 hml hE (c_M_isNumber l D g (σ := s1) i_p2 h_v3) kw_X8_163 ⟨Nat.le_of_ble_eq_true rfl, Nat.le_of_ble_eq_true rfl⟩ rfl hl.1 rfl (Nat.le_of_ble_eq_true rfl) dX8_search_13 ⟨Nat.zero_le _, Nat.zero_le _⟩ (fun H locs hE i_v3 => ?_)
    refine x_if_ne C0 i_v3 dX8_search_16 (tgt := 21) (by decide) (fun c9 => ?_) (fun c9 => ?_)
    · have h := ite_f c9 h
      refine lv_iconst (v := I 0) C0.1 C0.2.1 dX8_search_21 rfl ?_
      refine lv_istore_n (lv' := [(3, .int (I 0)), (0, .ref (g.2 100)), (1, .int (I p1)), (2, .int (I p2))]) C0.1 C0.2.1 dX8_search_22 rfl hl (by decide) rfl (fun ls hl => ?_)
      refine lv_aload_n C0.1 C0.2.1 dX8_search_23 rfl (lv_at hl 1 rfl) ?_
      refine M_g_sizes C0 hE fk_X8_16 dX8_search_24 ?_
      refine lv_iload_n C0.1 C0.2.1 dX8_search_27 rfl (lv_at hl 2 rfl) ?_
      obtain ⟨v4, e_v4, i_v4, h⟩ := rd_s hR h
      refine M_sizes_l C0 hE i_p1 e_v4 dX8_search_28 ?_
      refine lv_istore (lv' := [(4, .int (I v4)), (3, .int (I 0)), (0, .ref (g.2 100)), (1, .int (I p1)), (2, .int (I p2))]) C0.1 C0.2.1 dX8_search_29 hl (by decide) rfl (fun ls hl => ?_)
      refine lv_iconst (v := I 0) C0.1 C0.2.1 dX8_search_31 rfl ?_
      refine lv_istore (lv' := [(5, .int (I 0)), (4, .int (I v4)), (3, .int (I 0)), (0, .ref (g.2 100)), (1, .int (I p1)), (2, .int (I p2))]) C0.1 C0.2.1 dX8_search_32 hl (by decide) rfl (fun ls hl => ?_)
      obtain ⟨k7, e_k7, h⟩ := jn_s h
      have h_k7 : ∀ (x5 : Int) (i_x5 : in32 x5) (x6 : Int) (i_x6 : in32 x6) (H : Heap) (locs : List Loc) (ls : Array Slot), EW D (va_A (wM g σ) sz) s.heap (wM g s1) H locs → lv_has ls 7 [(0, .ref (g.2 100)), (1, .int (I p1)), (2, .int (I p2)), (3, .int (I x5)), (5, .int (I x6))] → k7 x5 x6 = some (r, σr) → W p l e (rmk 3) s m args below meth c H locs 0 0 (MQ below (QCi D (wM g σr) r (in32 r ∧ R32 σr) (va_A (wM g σ) sz)) args s 0 0 (va_A (wM g σ) sz)) (F0 m 77 ls []) := by
        intro x5 i_x5 x6 i_x6 H locs ls hE hl h
        have h := (congrFun (congrFun e_k7 x5) x6).symm.trans h
        refine lv_aload_n C0.1 C0.2.1 dX8_search_77 rfl (lv_at hl 0 rfl) ?_
        refine lv_iconst (v := I 0) C0.1 C0.2.1 dX8_search_78 rfl ?_
        obtain ⟨s8, e_s8, hR, h⟩ := pf_s hR lit_0 h
        refine M_p_rowMany C0 hE e_s8 fk_X8_59 dX8_search_79 (fun H locs hE => ?_)
        refine lv_aload_n C0.1 C0.2.1 dX8_search_82 rfl (lv_at hl 0 rfl) ?_
        refine lv_iload C0.1 C0.2.1 dX8_search_83 (lv_at hl 4 rfl) ?_
        refine x_i2l C0 i_x6 dX8_search_85 ?_
        obtain ⟨v9, s10, h_v9, h⟩ := bnd_s h
        refine callV_v (rest := []) C0 hml hE (M_rec C0 hE) (c_M_tell l D g hR (in64_of i_x6) h_v9) kw_X8_150 ⟨Nat.le_of_ble_eq_true rfl, Nat.le_of_ble_eq_true rfl⟩ rfl hl.1 rfl (Nat.le_of_ble_eq_true rfl) dX8_search_86 ⟨Nat.zero_le _, Nat.zero_le _⟩ (fun H locs hE hR => ?_)
        refine lv_aload_n C0.1 C0.2.1 dX8_search_89 rfl (lv_at hl 0 rfl) ?_
        refine lv_iload_n C0.1 C0.2.1 dX8_search_90 rfl (lv_at hl 3 rfl) ?_
        refine lv_aload_n C0.1 C0.2.1 dX8_search_91 rfl (lv_at hl 0 rfl) ?_
        refine M_g_sizes C0 hE fk_X8_16 dX8_search_92 ?_
        refine lv_iload_n C0.1 C0.2.1 dX8_search_95 rfl (lv_at hl 1 rfl) ?_
        obtain ⟨v11, e_v11, i_v11, h⟩ := rd_s hR h
        refine M_sizes_l C0 hE i_p1 e_v11 dX8_search_96 ?_
        obtain ⟨k13, e_k13, h⟩ := jn_s h
        have h_k13 : ∀ (x12 : Int) (i_x12 : in64 x12) (H : Heap) (locs : List Loc) (ls : Array Slot), EW D (va_A (wM g σ) sz) s.heap (wM g s10) H locs → lv_has ls 7 [(3, .int (I x5))] → k13 x12 = some (r, σr) → W p l e (rmk 3) s m args below meth c H locs 0 0 (MQ below (QCi D (wM g σr) r (in32 r ∧ R32 σr) (va_A (wM g σ) sz)) args s 0 0 (va_A (wM g σ) sz)) (F0 m 115 ls [.long (J x12), .ref (g.2 100)]) := by
          intro x12 i_x12 H locs ls hE hl h
          have h := (congrFun e_k13 x12).symm.trans h
          obtain ⟨v14, s15, h_v14, h⟩ := bnd_s h
          refine callV_v (rest := []) C0 hml hE (M_rec C0 hE) (c_M_tell l D g hR i_x12 h_v14) kw_X8_150 ⟨Nat.le_of_ble_eq_true rfl, Nat.le_of_ble_eq_true rfl⟩ rfl hl.1 rfl (Nat.le_of_ble_eq_true rfl) dX8_search_115 ⟨Nat.zero_le _, Nat.zero_le _⟩ (fun H locs hE hR => ?_)
          refine lv_iload_n C0.1 C0.2.1 dX8_search_118 rfl (lv_at hl 0 rfl) ?_
          exact ret_i (wf := wM g) C0 hr hlk hE h i_x5 hR dX8_search_119
        obtain ⟨k16, e_k16, h⟩ := jn_s h
        have h_k16 : ∀ (H : Heap) (locs : List Loc) (ls : Array Slot), EW D (va_A (wM g σ) sz) s.heap (wM g s10) H locs → lv_has ls 7 [(3, .int (I x5))] → k16 = some (r, σr) → W p l e (rmk 3) s m args below meth c H locs 0 0 (MQ below (QCi D (wM g σr) r (in32 r ∧ R32 σr) (va_A (wM g σ) sz)) args s 0 0 (va_A (wM g σ) sz)) (F0 m 114 ls [.ref (g.2 100)]) := by
          intro H locs ls hE hl h
          have h := e_k16.symm.trans h
          refine lv_lconst (v := J 0) C0.1 C0.2.1 dX8_search_114 (by decide +kernel) ?_
          exact h_k13 0 (by decide) _ _ _ hE (lv_sub hl [0] rfl) h
        refine x_icmp_ge C0 i_x5 i_v11 dX8_search_97 (tgt := 114) (by decide) (fun c9 => ?_) (fun c9 => ?_)
        · have h := ite_f c9 h
          exact h_k16 _ _ _ hE (lv_sub hl [3] rfl) h
        · have h := ite_t c9 h
          refine lv_aload_n C0.1 C0.2.1 dX8_search_100 rfl (lv_at hl 0 rfl) ?_
          refine lv_iload_n C0.1 C0.2.1 dX8_search_101 rfl (lv_at hl 1 rfl) ?_
          refine lv_iload_n C0.1 C0.2.1 dX8_search_102 rfl (lv_at hl 3 rfl) ?_
          obtain ⟨v17, h_v17, h⟩ := bndp_s h
          refine callV_i (rest := [.ref (g.2 100)]) C0 hml hE (M_rec C0 hE) (c_M_number l D g hR i_p1 i_x5 h_v17) kw_X8_99 ⟨Nat.le_of_ble_eq_true rfl, Nat.le_of_ble_eq_true rfl⟩ rfl hl.1 rfl (Nat.le_of_ble_eq_true rfl) dX8_search_103 ⟨Nat.zero_le _, Nat.zero_le _⟩ (fun H locs hE i_v17 => ?_)
          refine lv_iload_n C0.1 C0.2.1 dX8_search_106 rfl (lv_at hl 2 rfl) ?_
          refine x_icmp_ne C0 i_v17 i_p2 dX8_search_107 (tgt := 114) (by decide) (fun c9 => ?_) (fun c9 => ?_)
          · have h := ite_f c9 h
            exact h_k16 _ _ _ hE (lv_sub hl [3] rfl) h
          · have h := ite_t c9 h
            refine lv_lconst (v := J 1) C0.1 C0.2.1 dX8_search_110 (by decide +kernel) ?_
            refine x_goto C0 dX8_search_111 (tgt := 115) (by decide) ?_
            exact h_k13 1 (by decide) _ _ _ hE (lv_sub hl [3] rfl) h
      have hL34 : ∀ (n : Nat) (x18 : Int) (i_x18 : in32 x18) (x19 : Int) (i_x19 : in32 x19) (x20 : Int) (i_x20 : in32 x20) (H : Heap) (locs : List Loc) (ls : Array Slot), EW D (va_A (wM g σ) sz) s.heap (wM g s1) H locs → lv_has ls 7 [(0, .ref (g.2 100)), (1, .int (I p1)), (2, .int (I p2)), (3, .int (I x18)), (4, .int (I x19)), (5, .int (I x20))] → M_search_L34 k7 s1 p1 p2 n x18 x19 x20 = some (r, σr) → W p l e (rmk 3) s m args below meth c H locs 0 0 (MQ below (QCi D (wM g σr) r (in32 r ∧ R32 σr) (va_A (wM g σ) sz)) args s 0 0 (va_A (wM g σ) sz)) (F0 m 34 ls []) := by
        intro n
        induction n with
        | zero => intros; rename_i h; cases h
        | succ n ih21 =>
          intro x18 i_x18 x19 i_x19 x20 i_x20 H locs ls hE hl h
          unfold M_search_L34 at h
          refine lv_iload_n C0.1 C0.2.1 dX8_search_34 rfl (lv_at hl 3 rfl) ?_
          refine lv_iload C0.1 C0.2.1 dX8_search_35 (lv_at hl 4 rfl) ?_
          refine x_icmp_ge C0 i_x18 i_x19 dX8_search_37 (tgt := 77) (by decide) (fun c9 => ?_) (fun c9 => ?_)
          · have h := ite_f c9 h
            exact h_k7 x18 i_x18 x20 i_x20 _ _ _ hE (lv_sub hl [0, 1, 2, 3, 5] rfl) h
          · have h := ite_t c9 h
            refine lv_iload_n C0.1 C0.2.1 dX8_search_40 rfl (lv_at hl 3 rfl) ?_
            refine lv_iload C0.1 C0.2.1 dX8_search_41 (lv_at hl 4 rfl) ?_
            obtain ⟨v22, e_v22, i_v22, h⟩ := oadd_s h
            refine x_add C0 e_v22 dX8_search_43 ?_
            refine lv_iconst (v := I 2) C0.1 C0.2.1 dX8_search_44 rfl ?_
            obtain ⟨v23, e_v23, i_v23, h⟩ := odiv_s i_v22 h
            refine x_div C0 i_v22 lit_2 e_v23 dX8_search_45 ?_
            refine lv_istore (lv' := [(6, .int (I v23)), (0, .ref (g.2 100)), (1, .int (I p1)), (2, .int (I p2)), (3, .int (I x18)), (4, .int (I x19)), (5, .int (I x20))]) C0.1 C0.2.1 dX8_search_46 hl (by decide) rfl (fun ls hl => ?_)
            obtain ⟨v24, e_v24, i_v24, h⟩ := oadd_s h
            refine x_iinc (lv' := [(5, .int (I v24)), (6, .int (I v23)), (0, .ref (g.2 100)), (1, .int (I p1)), (2, .int (I p2)), (3, .int (I x18)), (4, .int (I x19))]) C0 dX8_search_48 hl (k := 6) rfl e_v24 (by decide) rfl (fun ls hl => ?_)
            refine lv_aload_n C0.1 C0.2.1 dX8_search_51 rfl (lv_at hl 2 rfl) ?_
            refine lv_iload_n C0.1 C0.2.1 dX8_search_52 rfl (lv_at hl 3 rfl) ?_
            refine lv_iload C0.1 C0.2.1 dX8_search_53 (lv_at hl 1 rfl) ?_
            obtain ⟨v25, h_v25, h⟩ := bndp_s h
            refine callV_i (rest := []) C0 hml hE (M_rec C0 hE) (c_M_number l D g hR i_p1 i_v23 h_v25) kw_X8_99 ⟨Nat.le_of_ble_eq_true rfl, Nat.le_of_ble_eq_true rfl⟩ rfl hl.1 rfl (Nat.le_of_ble_eq_true rfl) dX8_search_55 ⟨Nat.zero_le _, Nat.zero_le _⟩ (fun H locs hE i_v25 => ?_)
            refine lv_iload_n C0.1 C0.2.1 dX8_search_58 rfl (lv_at hl 4 rfl) ?_
            obtain ⟨k28, e_k28, h⟩ := jn_s h
            have h_k28 : ∀ (x26 : Int) (i_x26 : in32 x26) (x27 : Int) (i_x27 : in32 x27) (H : Heap) (locs : List Loc) (ls : Array Slot), EW D (va_A (wM g σ) sz) s.heap (wM g s1) H locs → lv_has ls 7 [(0, .ref (g.2 100)), (1, .int (I p1)), (2, .int (I p2)), (3, .int (I x26)), (4, .int (I x27)), (5, .int (I v24))] → k28 x26 x27 = some (r, σr) → W p l e (rmk 3) s m args below meth c H locs 0 0 (MQ below (QCi D (wM g σr) r (in32 r ∧ R32 σr) (va_A (wM g σ) sz)) args s 0 0 (va_A (wM g σ) sz)) (F0 m 74 ls []) := by
              intro x26 i_x26 x27 i_x27 H locs ls hE hl h
              have h := (congrFun (congrFun e_k28 x26) x27).symm.trans h
              refine x_goto C0 dX8_search_74 (tgt := 34) (by decide) ?_
              exact ih21 x26 i_x26 x27 i_x27 v24 i_v24 _ _ _ hE (lv_sub hl [0, 1, 2, 3, 4, 5] rfl) h
            refine x_icmp_ge C0 i_v25 i_p2 dX8_search_59 (tgt := 70) (by decide) (fun c9 => ?_) (fun c9 => ?_)
            · have h := ite_f c9 h
              refine lv_iload C0.1 C0.2.1 dX8_search_70 (lv_at hl 1 rfl) ?_
              refine lv_istore (lv' := [(4, .int (I v23)), (5, .int (I v24)), (6, .int (I v23)), (0, .ref (g.2 100)), (1, .int (I p1)), (2, .int (I p2)), (3, .int (I x18))]) C0.1 C0.2.1 dX8_search_72 hl (by decide) rfl (fun ls hl => ?_)
              exact h_k28 x18 i_x18 v23 i_v23 _ _ _ hE (lv_sub hl [3, 4, 5, 6, 0, 1] rfl) h
            · have h := ite_t c9 h
              refine lv_iload C0.1 C0.2.1 dX8_search_62 (lv_at hl 1 rfl) ?_
              refine lv_iconst (v := I 1) C0.1 C0.2.1 dX8_search_64 rfl ?_
              obtain ⟨v29, e_v29, i_v29, h⟩ := oadd_s h
              refine x_add C0 e_v29 dX8_search_65 ?_
              refine lv_istore_n (lv' := [(3, .int (I v29)), (5, .int (I v24)), (6, .int (I v23)), (0, .ref (g.2 100)), (1, .int (I p1)), (2, .int (I p2)), (4, .int (I x19))]) C0.1 C0.2.1 dX8_search_66 rfl hl (by decide) rfl (fun ls hl => ?_)
              refine x_goto C0 dX8_search_67 (tgt := 74) (by decide) ?_
              exact h_k28 v29 i_v29 x19 i_x19 _ _ _ hE (lv_sub hl [3, 4, 5, 0, 6, 1] rfl) h
      exact hL34 FU 0 lit_0 v4 i_v4 0 lit_0 _ _ _ hE (lv_sub hl [3, 4, 5, 2, 1, 0] rfl) h
    · have h := ite_t c9 h
      refine lv_iconst (v := I (-1)) C0.1 C0.2.1 dX8_search_19 rfl ?_
      exact ret_i (wf := wM g) C0 hr hlk hE h lit_m1 hR dX8_search_20
set_option maxRecDepth 100000 in
set_option maxHeartbeats 4000000 in
theorem c_M_reaches (l : Launch) (D : va_G) (g : Ad) {σ σr : St} {p1 p2 r : Int} (hR : R32 σ) (i_p1 : in32 p1) (i_p2 : in32 p2) (h : M_reaches σ p1 p2 = some (r, σr)) : CtI l D g yX8_reaches cX8_reaches 5 (some .int) 3 (wM g σ) (wM g σr) [.ref (g.2 100), .int (I p1), .int (I p2)] r (in32 r ∧ R32 σr) := by
  intro sz
  refine met_of (by decide) (Nat.le_of_ble_eq_true rfl) (fun p e s m args below meth c ls H locs C0 hml hr hlk hE hl => ?_)
  have C0 : CX p c cX8_reaches m s args D g RX8 := C0
  have hl : lv_has ls 5 [(0, .ref (g.2 100)), (1, .int (I p1)), (2, .int (I p2))] := hl
  unfold M_reaches at h
  refine lv_aload_n C0.1 C0.2.1 dX8_reaches_0 rfl (lv_at hl 0 rfl) ?_
  refine lv_iconst (v := I 0) C0.1 C0.2.1 dX8_reaches_1 rfl ?_
  obtain ⟨s1, e_s1, hR, h⟩ := pf_s hR lit_0 h
  refine M_p_thrown C0 hE e_s1 fk_X8_55 dX8_reaches_2 (fun H locs hE => ?_)
  refine lv_iload_n C0.1 C0.2.1 dX8_reaches_5 rfl (lv_at hl 1 rfl) ?_
  obtain ⟨v2, h_v2, h⟩ := bndp_s h
  refine callS_i (rest := []) C0 hml hE (c_M_isPlace l D g (σ := s1) i_p1 h_v2) kw_X8_134 ⟨Nat.le_of_ble_eq_true rfl, Nat.le_of_ble_eq_true rfl⟩ rfl hl.1 rfl (Nat.le_of_ble_eq_true rfl) dX8_reaches_6 ⟨Nat.zero_le _, Nat.zero_le _⟩ (fun H locs hE i_v2 => ?_)
  refine x_if_ne C0 i_v2 dX8_reaches_9 (tgt := 14) (by decide) (fun c9 => ?_) (fun c9 => ?_)
  · have h := ite_f c9 h
    refine lv_iconst (v := I 0) C0.1 C0.2.1 dX8_reaches_14 rfl ?_
    refine lv_istore_n (lv' := [(3, .int (I 0)), (0, .ref (g.2 100)), (1, .int (I p1)), (2, .int (I p2))]) C0.1 C0.2.1 dX8_reaches_15 rfl hl (by decide) rfl (fun ls hl => ?_)
    refine lv_iconst (v := I 0) C0.1 C0.2.1 dX8_reaches_16 rfl ?_
    refine lv_istore (lv' := [(4, .int (I 0)), (3, .int (I 0)), (0, .ref (g.2 100)), (1, .int (I p1)), (2, .int (I p2))]) C0.1 C0.2.1 dX8_reaches_17 hl (by decide) rfl (fun ls hl => ?_)
    obtain ⟨k5, e_k5, h⟩ := jn_s h
    have h_k5 : ∀ (x3 : Int) (i_x3 : in32 x3) (x4 : Int) (i_x4 : in32 x4) (H : Heap) (locs : List Loc) (ls : Array Slot), EW D (va_A (wM g σ) sz) s.heap (wM g s1) H locs → lv_has ls 5 [(0, .ref (g.2 100)), (2, .int (I p2)), (3, .int (I x3)), (4, .int (I x4))] → k5 x3 x4 = some (r, σr) → W p l e (rmk 3) s m args below meth c H locs 0 0 (MQ below (QCi D (wM g σr) r (in32 r ∧ R32 σr) (va_A (wM g σ) sz)) args s 0 0 (va_A (wM g σ) sz)) (F0 m 51 ls []) := by
      intro x3 i_x3 x4 i_x4 H locs ls hE hl h
      have h := (congrFun (congrFun e_k5 x3) x4).symm.trans h
      refine lv_iload_n C0.1 C0.2.1 dX8_reaches_51 rfl (lv_at hl 2 rfl) ?_
      refine lv_iload_n C0.1 C0.2.1 dX8_reaches_52 rfl (lv_at hl 1 rfl) ?_
      refine x_icmp_ge C0 i_x3 i_p2 dX8_reaches_53 (tgt := 59) (by decide) (fun c9 => ?_) (fun c9 => ?_)
      · have h := ite_f c9 h
        refine lv_aload_n C0.1 C0.2.1 dX8_reaches_59 rfl (lv_at hl 0 rfl) ?_
        refine lv_iconst (v := I 0) C0.1 C0.2.1 dX8_reaches_60 rfl ?_
        obtain ⟨s6, e_s6, hR, h⟩ := pf_s hR lit_0 h
        refine M_p_rowMany C0 hE e_s6 fk_X8_59 dX8_reaches_61 (fun H locs hE => ?_)
        refine lv_aload_n C0.1 C0.2.1 dX8_reaches_64 rfl (lv_at hl 0 rfl) ?_
        refine lv_iload_n C0.1 C0.2.1 dX8_reaches_65 rfl (lv_at hl 2 rfl) ?_
        refine x_i2l C0 i_x3 dX8_reaches_66 ?_
        obtain ⟨v7, s8, h_v7, h⟩ := bnd_s h
        refine callV_v (rest := []) C0 hml hE (M_rec C0 hE) (c_M_tell l D g hR (in64_of i_x3) h_v7) kw_X8_150 ⟨Nat.le_of_ble_eq_true rfl, Nat.le_of_ble_eq_true rfl⟩ rfl hl.1 rfl (Nat.le_of_ble_eq_true rfl) dX8_reaches_67 ⟨Nat.zero_le _, Nat.zero_le _⟩ (fun H locs hE hR => ?_)
        refine lv_iload C0.1 C0.2.1 dX8_reaches_70 (lv_at hl 3 rfl) ?_
        exact ret_i (wf := wM g) C0 hr hlk hE h i_x4 hR dX8_reaches_72
      · have h := ite_t c9 h
        refine lv_bipush (v := I (-2)) C0.1 C0.2.1 dX8_reaches_56 (by decide +kernel) ?_
        exact ret_i (wf := wM g) C0 hr hlk hE h lit_m2 hR dX8_reaches_58
    have hL19 : ∀ (n : Nat) (x9 : Int) (i_x9 : in32 x9) (x10 : Int) (i_x10 : in32 x10) (H : Heap) (locs : List Loc) (ls : Array Slot), EW D (va_A (wM g σ) sz) s.heap (wM g s1) H locs → lv_has ls 5 [(0, .ref (g.2 100)), (1, .int (I p1)), (2, .int (I p2)), (3, .int (I x9)), (4, .int (I x10))] → M_reaches_L19 k5 s1 p1 p2 n x9 x10 = some (r, σr) → W p l e (rmk 3) s m args below meth c H locs 0 0 (MQ below (QCi D (wM g σr) r (in32 r ∧ R32 σr) (va_A (wM g σ) sz)) args s 0 0 (va_A (wM g σ) sz)) (F0 m 19 ls []) := by
      intro n
      induction n with
      | zero => intros; rename_i h; cases h
      | succ n ih11 =>
        intro x9 i_x9 x10 i_x10 H locs ls hE hl h
        unfold M_reaches_L19 at h
        refine lv_iload C0.1 C0.2.1 dX8_reaches_19 (lv_at hl 4 rfl) ?_
        refine lv_aload_n C0.1 C0.2.1 dX8_reaches_21 rfl (lv_at hl 0 rfl) ?_
        refine M_g_sizes C0 hE fk_X8_16 dX8_reaches_22 ?_
        refine lv_iload_n C0.1 C0.2.1 dX8_reaches_25 rfl (lv_at hl 1 rfl) ?_
        obtain ⟨v12, e_v12, i_v12, h⟩ := rd_s hR h
        refine M_sizes_l C0 hE i_p1 e_v12 dX8_reaches_26 ?_
        refine x_icmp_ge C0 i_x10 i_v12 dX8_reaches_27 (tgt := 51) (by decide) (fun c9 => ?_) (fun c9 => ?_)
        · have h := ite_f c9 h
          exact h_k5 x9 i_x9 x10 i_x10 _ _ _ hE (lv_sub hl [0, 2, 3, 4] rfl) h
        · have h := ite_t c9 h
          refine lv_iload_n C0.1 C0.2.1 dX8_reaches_30 rfl (lv_at hl 3 rfl) ?_
          refine lv_iload_n C0.1 C0.2.1 dX8_reaches_31 rfl (lv_at hl 2 rfl) ?_
          refine x_icmp_ge C0 i_x9 i_p2 dX8_reaches_32 (tgt := 51) (by decide) (fun c9 => ?_) (fun c9 => ?_)
          · have h := ite_f c9 h
            exact h_k5 x9 i_x9 x10 i_x10 _ _ _ hE (lv_sub hl [0, 2, 3, 4] rfl) h
          · have h := ite_t c9 h
            refine lv_iload_n C0.1 C0.2.1 dX8_reaches_35 rfl (lv_at hl 3 rfl) ?_
            refine lv_aload_n C0.1 C0.2.1 dX8_reaches_36 rfl (lv_at hl 0 rfl) ?_
            refine lv_iload_n C0.1 C0.2.1 dX8_reaches_37 rfl (lv_at hl 1 rfl) ?_
            refine lv_iload C0.1 C0.2.1 dX8_reaches_38 (lv_at hl 4 rfl) ?_
            obtain ⟨v13, h_v13, h⟩ := bndp_s h
            refine callV_i (rest := [.int (I x9)]) C0 hml hE (M_rec C0 hE) (c_M_number l D g hR i_p1 i_x10 h_v13) kw_X8_99 ⟨Nat.le_of_ble_eq_true rfl, Nat.le_of_ble_eq_true rfl⟩ rfl hl.1 rfl (Nat.le_of_ble_eq_true rfl) dX8_reaches_40 ⟨Nat.zero_le _, Nat.zero_le _⟩ (fun H locs hE i_v13 => ?_)
            obtain ⟨v14, e_v14, i_v14, h⟩ := oadd_s h
            refine x_add C0 e_v14 dX8_reaches_43 ?_
            refine lv_istore_n (lv' := [(3, .int (I v14)), (0, .ref (g.2 100)), (1, .int (I p1)), (2, .int (I p2)), (4, .int (I x10))]) C0.1 C0.2.1 dX8_reaches_44 rfl hl (by decide) rfl (fun ls hl => ?_)
            obtain ⟨v15, e_v15, i_v15, h⟩ := oadd_s h
            refine x_iinc (lv' := [(4, .int (I v15)), (3, .int (I v14)), (0, .ref (g.2 100)), (1, .int (I p1)), (2, .int (I p2))]) C0 dX8_reaches_45 hl (k := 4) rfl e_v15 (by decide) rfl (fun ls hl => ?_)
            refine x_goto C0 dX8_reaches_48 (tgt := 19) (by decide) ?_
            exact ih11 v14 i_v14 v15 i_v15 _ _ _ hE (lv_sub hl [2, 3, 4, 1, 0] rfl) h
    exact hL19 FU 0 lit_0 0 lit_0 _ _ _ hE (lv_sub hl [2, 3, 4, 1, 0] rfl) h
  · have h := ite_t c9 h
    refine lv_iconst (v := I (-1)) C0.1 C0.2.1 dX8_reaches_12 rfl ?_
    exact ret_i (wf := wM g) C0 hr hlk hE h lit_m1 hR dX8_reaches_13
set_option maxRecDepth 100000 in
set_option maxHeartbeats 4000000 in
theorem c_M_stands (l : Launch) (D : va_G) (g : Ad) {σ : St} {p1 p2 p3 r : Int} (hR : R32 σ) (i_p1 : in32 p1) (i_p2 : in32 p2) (i_p3 : in32 p3) (h : M_stands σ p1 p2 p3 = some r) : CtI l D g yX8_stands cX8_stands 5 (some .boolean) 2 (wM g σ) (wM g σ) [.ref (g.2 100), .int (I p1), .int (I p2), .int (I p3)] r (in32 r) := by
  intro sz
  refine met_of (by decide) (Nat.le_of_ble_eq_true rfl) (fun p e s m args below meth c ls H locs C0 hml hr hlk hE hl => ?_)
  have C0 : CX p c cX8_stands m s args D g RX8 := C0
  have hl : lv_has ls 5 [(0, .ref (g.2 100)), (1, .int (I p1)), (2, .int (I p2)), (3, .int (I p3))] := hl
  unfold M_stands at h
  refine lv_iconst (v := I 0) C0.1 C0.2.1 dX8_stands_0 rfl ?_
  refine lv_istore (lv' := [(4, .int (I 0)), (0, .ref (g.2 100)), (1, .int (I p1)), (2, .int (I p2)), (3, .int (I p3))]) C0.1 C0.2.1 dX8_stands_1 hl (by decide) rfl (fun ls hl => ?_)
  have hL3 : ∀ (n : Nat) (x1 : Int) (i_x1 : in32 x1) (H : Heap) (locs : List Loc) (ls : Array Slot), EW D (va_A (wM g σ) sz) s.heap (wM g σ) H locs → lv_has ls 5 [(0, .ref (g.2 100)), (1, .int (I p1)), (2, .int (I p2)), (3, .int (I p3)), (4, .int (I x1))] → M_stands_L3 σ p1 p2 p3 n x1 = some r → W p l e (rmk 2) s m args below meth c H locs 0 0 (MQ below (QCi D (wM g σ) r (in32 r) (va_A (wM g σ) sz)) args s 0 0 (va_A (wM g σ) sz)) (F0 m 3 ls []) := by
    intro n
    induction n with
    | zero => intros; rename_i h; cases h
    | succ n ih2 =>
      intro x1 i_x1 H locs ls hE hl h
      unfold M_stands_L3 at h
      refine lv_iload C0.1 C0.2.1 dX8_stands_3 (lv_at hl 4 rfl) ?_
      refine lv_aload_n C0.1 C0.2.1 dX8_stands_5 rfl (lv_at hl 0 rfl) ?_
      refine M_g_sizes C0 hE fk_X8_16 dX8_stands_6 ?_
      refine lv_iload_n C0.1 C0.2.1 dX8_stands_9 rfl (lv_at hl 2 rfl) ?_
      obtain ⟨v3, e_v3, i_v3, h⟩ := rd_s hR h
      refine M_sizes_l C0 hE i_p2 e_v3 dX8_stands_10 ?_
      refine x_icmp_ge C0 i_x1 i_v3 dX8_stands_11 (tgt := 41) (by decide) (fun c9 => ?_) (fun c9 => ?_)
      · have h := ite_f c9 h
        refine lv_iconst (v := I 1) C0.1 C0.2.1 dX8_stands_41 rfl ?_
        exact pret_z C0 hr hlk hE (Or.inr rfl) h dX8_stands_42
      · have h := ite_t c9 h
        refine lv_aload_n C0.1 C0.2.1 dX8_stands_14 rfl (lv_at hl 0 rfl) ?_
        refine lv_iload_n C0.1 C0.2.1 dX8_stands_15 rfl (lv_at hl 1 rfl) ?_
        refine lv_iload_n C0.1 C0.2.1 dX8_stands_16 rfl (lv_at hl 3 rfl) ?_
        refine lv_iload C0.1 C0.2.1 dX8_stands_17 (lv_at hl 4 rfl) ?_
        obtain ⟨v4, e_v4, i_v4, h⟩ := oadd_s h
        refine x_add C0 e_v4 dX8_stands_19 ?_
        obtain ⟨v5, h_v5, h⟩ := bndp_s h
        refine callV_i (rest := []) C0 hml hE (M_rec C0 hE) (c_M_number l D g hR i_p1 i_v4 h_v5) kw_X8_99 ⟨Nat.le_of_ble_eq_true rfl, Nat.le_of_ble_eq_true rfl⟩ rfl hl.1 rfl (Nat.le_of_ble_eq_true rfl) dX8_stands_20 ⟨Nat.zero_le _, Nat.zero_le _⟩ (fun H locs hE i_v5 => ?_)
        refine lv_aload_n C0.1 C0.2.1 dX8_stands_23 rfl (lv_at hl 0 rfl) ?_
        refine lv_iload_n C0.1 C0.2.1 dX8_stands_24 rfl (lv_at hl 2 rfl) ?_
        refine lv_iload C0.1 C0.2.1 dX8_stands_25 (lv_at hl 4 rfl) ?_
        obtain ⟨v6, h_v6, h⟩ := bndp_s h
        refine callV_i (rest := [.int (I v5)]) C0 hml hE (M_rec C0 hE) (c_M_number l D g hR i_p2 i_x1 h_v6) kw_X8_99 ⟨Nat.le_of_ble_eq_true rfl, Nat.le_of_ble_eq_true rfl⟩ rfl hl.1 rfl (Nat.le_of_ble_eq_true rfl) dX8_stands_27 ⟨Nat.zero_le _, Nat.zero_le _⟩ (fun H locs hE i_v6 => ?_)
        refine x_icmp_eq C0 i_v5 i_v6 dX8_stands_30 (tgt := 35) (by decide) (fun c9 => ?_) (fun c9 => ?_)
        · have h := ite_t c9 h
          obtain ⟨v7, e_v7, i_v7, h⟩ := oadd_s h
          refine x_iinc (lv' := [(4, .int (I v7)), (0, .ref (g.2 100)), (1, .int (I p1)), (2, .int (I p2)), (3, .int (I p3))]) C0 dX8_stands_35 hl (k := 4) rfl e_v7 (by decide) rfl (fun ls hl => ?_)
          refine x_goto C0 dX8_stands_38 (tgt := 3) (by decide) ?_
          exact ih2 v7 i_v7 _ _ _ hE (lv_sub hl [1, 2, 3, 4, 0] rfl) h
        · have h := ite_f c9 h
          refine lv_iconst (v := I 0) C0.1 C0.2.1 dX8_stands_33 rfl ?_
          exact pret_z C0 hr hlk hE (Or.inl rfl) h dX8_stands_34
  exact hL3 FU 0 lit_0 _ _ _ hE (lv_sub hl [1, 2, 3, 4, 0] rfl) h
set_option maxRecDepth 100000 in
set_option maxHeartbeats 4000000 in
theorem c_M_occurs (l : Launch) (D : va_G) (g : Ad) {σ σr : St} {p1 p2 r : Int} (hR : R32 σ) (i_p1 : in32 p1) (i_p2 : in32 p2) (h : M_occurs σ p1 p2 = some (r, σr)) : CtI l D g yX8_occurs cX8_occurs 7 (some .int) 3 (wM g σ) (wM g σr) [.ref (g.2 100), .int (I p1), .int (I p2)] r (in32 r ∧ R32 σr) := by
  intro sz
  refine met_of (by decide) (Nat.le_of_ble_eq_true rfl) (fun p e s m args below meth c ls H locs C0 hml hr hlk hE hl => ?_)
  have C0 : CX p c cX8_occurs m s args D g RX8 := C0
  have hl : lv_has ls 7 [(0, .ref (g.2 100)), (1, .int (I p1)), (2, .int (I p2))] := hl
  unfold M_occurs at h
  refine lv_aload_n C0.1 C0.2.1 dX8_occurs_0 rfl (lv_at hl 0 rfl) ?_
  refine lv_iconst (v := I 0) C0.1 C0.2.1 dX8_occurs_1 rfl ?_
  obtain ⟨s1, e_s1, hR, h⟩ := pf_s hR lit_0 h
  refine M_p_thrown C0 hE e_s1 fk_X8_55 dX8_occurs_2 (fun H locs hE => ?_)
  refine lv_iload_n C0.1 C0.2.1 dX8_occurs_5 rfl (lv_at hl 1 rfl) ?_
  obtain ⟨v2, h_v2, h⟩ := bndp_s h
  refine callS_i (rest := []) C0 hml hE (c_M_isPlace l D g (σ := s1) i_p1 h_v2) kw_X8_134 ⟨Nat.le_of_ble_eq_true rfl, Nat.le_of_ble_eq_true rfl⟩ rfl hl.1 rfl (Nat.le_of_ble_eq_true rfl) dX8_occurs_6 ⟨Nat.zero_le _, Nat.zero_le _⟩ (fun H locs hE i_v2 => ?_)
  refine x_if_eq C0 i_v2 dX8_occurs_9 (tgt := 19) (by decide) (fun c9 => ?_) (fun c9 => ?_)
  · have h := ite_t c9 h
    refine lv_iconst (v := I (-1)) C0.1 C0.2.1 dX8_occurs_19 rfl ?_
    exact ret_i (wf := wM g) C0 hr hlk hE h lit_m1 hR dX8_occurs_20
  · have h := ite_f c9 h
    refine lv_iload_n C0.1 C0.2.1 dX8_occurs_12 rfl (lv_at hl 2 rfl) ?_
    obtain ⟨v3, h_v3, h⟩ := bndp_s h
    refine callS_i (rest := []) C0 hml hE (c_M_isPlace l D g (σ := s1) i_p2 h_v3) kw_X8_134 ⟨Nat.le_of_ble_eq_true rfl, Nat.le_of_ble_eq_true rfl⟩ rfl hl.1 rfl (Nat.le_of_ble_eq_true rfl) dX8_occurs_13 ⟨Nat.zero_le _, Nat.zero_le _⟩ (fun H locs hE i_v3 => ?_)
    refine x_if_ne C0 i_v3 dX8_occurs_16 (tgt := 21) (by decide) (fun c9 => ?_) (fun c9 => ?_)
    · have h := ite_f c9 h
      refine lv_iconst (v := I 0) C0.1 C0.2.1 dX8_occurs_21 rfl ?_
      refine lv_istore_n (lv' := [(3, .int (I 0)), (0, .ref (g.2 100)), (1, .int (I p1)), (2, .int (I p2))]) C0.1 C0.2.1 dX8_occurs_22 rfl hl (by decide) rfl (fun ls hl => ?_)
      refine lv_iconst (v := I (-1)) C0.1 C0.2.1 dX8_occurs_23 rfl ?_
      refine lv_istore (lv' := [(4, .int (I (-1))), (3, .int (I 0)), (0, .ref (g.2 100)), (1, .int (I p1)), (2, .int (I p2))]) C0.1 C0.2.1 dX8_occurs_24 hl (by decide) rfl (fun ls hl => ?_)
      refine lv_iconst (v := I (-1)) C0.1 C0.2.1 dX8_occurs_26 rfl ?_
      refine lv_istore (lv' := [(5, .int (I (-1))), (4, .int (I (-1))), (3, .int (I 0)), (0, .ref (g.2 100)), (1, .int (I p1)), (2, .int (I p2))]) C0.1 C0.2.1 dX8_occurs_27 hl (by decide) rfl (fun ls hl => ?_)
      refine lv_iconst (v := I 0) C0.1 C0.2.1 dX8_occurs_29 rfl ?_
      refine lv_istore (lv' := [(6, .int (I 0)), (5, .int (I (-1))), (4, .int (I (-1))), (3, .int (I 0)), (0, .ref (g.2 100)), (1, .int (I p1)), (2, .int (I p2))]) C0.1 C0.2.1 dX8_occurs_30 hl (by decide) rfl (fun ls hl => ?_)
      obtain ⟨k7, e_k7, h⟩ := jn_s h
      have h_k7 : ∀ (x4 : Int) (i_x4 : in32 x4) (x5 : Int) (i_x5 : in32 x5) (x6 : Int) (i_x6 : in32 x6) (H : Heap) (locs : List Loc) (ls : Array Slot), EW D (va_A (wM g σ) sz) s.heap (wM g s1) H locs → lv_has ls 7 [(0, .ref (g.2 100)), (3, .int (I x4)), (4, .int (I x5)), (5, .int (I x6))] → k7 x4 x5 x6 = some (r, σr) → W p l e (rmk 3) s m args below meth c H locs 0 0 (MQ below (QCi D (wM g σr) r (in32 r ∧ R32 σr) (va_A (wM g σ) sz)) args s 0 0 (va_A (wM g σ) sz)) (F0 m 90 ls []) := by
        intro x4 i_x4 x5 i_x5 x6 i_x6 H locs ls hE hl h
        have h := (congrFun (congrFun (congrFun e_k7 x4) x5) x6).symm.trans h
        refine lv_aload_n C0.1 C0.2.1 dX8_occurs_90 rfl (lv_at hl 0 rfl) ?_
        refine lv_iconst (v := I 0) C0.1 C0.2.1 dX8_occurs_91 rfl ?_
        obtain ⟨s8, e_s8, hR, h⟩ := pf_s hR lit_0 h
        refine M_p_rowMany C0 hE e_s8 fk_X8_59 dX8_occurs_92 (fun H locs hE => ?_)
        refine lv_aload_n C0.1 C0.2.1 dX8_occurs_95 rfl (lv_at hl 0 rfl) ?_
        refine lv_iload C0.1 C0.2.1 dX8_occurs_96 (lv_at hl 2 rfl) ?_
        refine x_i2l C0 i_x5 dX8_occurs_98 ?_
        obtain ⟨v9, s10, h_v9, h⟩ := bnd_s h
        refine callV_v (rest := []) C0 hml hE (M_rec C0 hE) (c_M_tell l D g hR (in64_of i_x5) h_v9) kw_X8_150 ⟨Nat.le_of_ble_eq_true rfl, Nat.le_of_ble_eq_true rfl⟩ rfl hl.1 rfl (Nat.le_of_ble_eq_true rfl) dX8_occurs_99 ⟨Nat.zero_le _, Nat.zero_le _⟩ (fun H locs hE hR => ?_)
        refine lv_aload_n C0.1 C0.2.1 dX8_occurs_102 rfl (lv_at hl 0 rfl) ?_
        refine lv_iload C0.1 C0.2.1 dX8_occurs_103 (lv_at hl 3 rfl) ?_
        refine x_i2l C0 i_x6 dX8_occurs_105 ?_
        obtain ⟨v11, s12, h_v11, h⟩ := bnd_s h
        refine callV_v (rest := []) C0 hml hE (M_rec C0 hE) (c_M_tell l D g hR (in64_of i_x6) h_v11) kw_X8_150 ⟨Nat.le_of_ble_eq_true rfl, Nat.le_of_ble_eq_true rfl⟩ rfl hl.1 rfl (Nat.le_of_ble_eq_true rfl) dX8_occurs_106 ⟨Nat.zero_le _, Nat.zero_le _⟩ (fun H locs hE hR => ?_)
        refine lv_iload_n C0.1 C0.2.1 dX8_occurs_109 rfl (lv_at hl 1 rfl) ?_
        exact ret_i (wf := wM g) C0 hr hlk hE h i_x4 hR dX8_occurs_110
      have hL32 : ∀ (n : Nat) (x13 : Int) (i_x13 : in32 x13) (x14 : Int) (i_x14 : in32 x14) (x15 : Int) (i_x15 : in32 x15) (x16 : Int) (i_x16 : in32 x16) (H : Heap) (locs : List Loc) (ls : Array Slot), EW D (va_A (wM g σ) sz) s.heap (wM g s1) H locs → lv_has ls 7 [(0, .ref (g.2 100)), (1, .int (I p1)), (2, .int (I p2)), (3, .int (I x13)), (4, .int (I x14)), (5, .int (I x15)), (6, .int (I x16))] → M_occurs_L32 k7 s1 p1 p2 n x13 x14 x15 x16 = some (r, σr) → W p l e (rmk 3) s m args below meth c H locs 0 0 (MQ below (QCi D (wM g σr) r (in32 r ∧ R32 σr) (va_A (wM g σ) sz)) args s 0 0 (va_A (wM g σ) sz)) (F0 m 32 ls []) := by
        intro n
        induction n with
        | zero => intros; rename_i h; cases h
        | succ n ih17 =>
          intro x13 i_x13 x14 i_x14 x15 i_x15 x16 i_x16 H locs ls hE hl h
          unfold M_occurs_L32 at h
          refine lv_iload C0.1 C0.2.1 dX8_occurs_32 (lv_at hl 6 rfl) ?_
          refine lv_aload_n C0.1 C0.2.1 dX8_occurs_34 rfl (lv_at hl 0 rfl) ?_
          refine M_g_sizes C0 hE fk_X8_16 dX8_occurs_35 ?_
          refine lv_iload_n C0.1 C0.2.1 dX8_occurs_38 rfl (lv_at hl 2 rfl) ?_
          obtain ⟨v18, e_v18, i_v18, h⟩ := rd_s hR h
          refine M_sizes_l C0 hE i_p2 e_v18 dX8_occurs_39 ?_
          obtain ⟨v19, e_v19, i_v19, h⟩ := oadd_s h
          refine x_add C0 e_v19 dX8_occurs_40 ?_
          refine lv_aload_n C0.1 C0.2.1 dX8_occurs_41 rfl (lv_at hl 0 rfl) ?_
          refine M_g_sizes C0 hE fk_X8_16 dX8_occurs_42 ?_
          refine lv_iload_n C0.1 C0.2.1 dX8_occurs_45 rfl (lv_at hl 1 rfl) ?_
          obtain ⟨v20, e_v20, i_v20, h⟩ := rd_s hR h
          refine M_sizes_l C0 hE i_p1 e_v20 dX8_occurs_46 ?_
          refine x_icmp_gt C0 i_v19 i_v20 dX8_occurs_47 (tgt := 90) (by decide) (fun c9 => ?_) (fun c9 => ?_)
          · have h := ite_t c9 h
            exact h_k7 x13 i_x13 x14 i_x14 x15 i_x15 _ _ _ hE (lv_sub hl [0, 3, 4, 5] rfl) h
          · have h := ite_f c9 h
            refine lv_aload_n C0.1 C0.2.1 dX8_occurs_50 rfl (lv_at hl 0 rfl) ?_
            refine lv_iload_n C0.1 C0.2.1 dX8_occurs_51 rfl (lv_at hl 1 rfl) ?_
            refine lv_iload_n C0.1 C0.2.1 dX8_occurs_52 rfl (lv_at hl 2 rfl) ?_
            refine lv_iload C0.1 C0.2.1 dX8_occurs_53 (lv_at hl 6 rfl) ?_
            obtain ⟨v21, h_v21, h⟩ := bndp_s h
            refine callV_i (rest := []) C0 hml hE (M_rec C0 hE) (c_M_stands l D g hR i_p1 i_p2 i_x16 h_v21) kw_X8_278 ⟨Nat.le_of_ble_eq_true rfl, Nat.le_of_ble_eq_true rfl⟩ rfl hl.1 rfl (Nat.le_of_ble_eq_true rfl) dX8_occurs_55 ⟨Nat.zero_le _, Nat.zero_le _⟩ (fun H locs hE i_v21 => ?_)
            obtain ⟨k25, e_k25, h⟩ := jn_s h
            have h_k25 : ∀ (x22 : Int) (i_x22 : in32 x22) (x23 : Int) (i_x23 : in32 x23) (x24 : Int) (i_x24 : in32 x24) (H : Heap) (locs : List Loc) (ls : Array Slot), EW D (va_A (wM g σ) sz) s.heap (wM g s1) H locs → lv_has ls 7 [(0, .ref (g.2 100)), (1, .int (I p1)), (2, .int (I p2)), (3, .int (I x22)), (4, .int (I x23)), (5, .int (I x24)), (6, .int (I x16))] → k25 x22 x23 x24 = some (r, σr) → W p l e (rmk 3) s m args below meth c H locs 0 0 (MQ below (QCi D (wM g σr) r (in32 r ∧ R32 σr) (va_A (wM g σ) sz)) args s 0 0 (va_A (wM g σ) sz)) (F0 m 84 ls []) := by
              intro x22 i_x22 x23 i_x23 x24 i_x24 H locs ls hE hl h
              have h := (congrFun (congrFun (congrFun e_k25 x22) x23) x24).symm.trans h
              obtain ⟨v26, e_v26, i_v26, h⟩ := oadd_s h
              refine x_iinc (lv' := [(6, .int (I v26)), (0, .ref (g.2 100)), (1, .int (I p1)), (2, .int (I p2)), (3, .int (I x22)), (4, .int (I x23)), (5, .int (I x24))]) C0 dX8_occurs_84 hl (k := 6) rfl e_v26 (by decide) rfl (fun ls hl => ?_)
              refine x_goto C0 dX8_occurs_87 (tgt := 32) (by decide) ?_
              exact ih17 x22 i_x22 x23 i_x23 x24 i_x24 v26 i_v26 _ _ _ hE (lv_sub hl [1, 2, 3, 4, 5, 6, 0] rfl) h
            refine x_if_ne C0 i_v21 dX8_occurs_58 (tgt := 64) (by decide) (fun c9 => ?_) (fun c9 => ?_)
            · have h := ite_f c9 h
              refine lv_iload_n C0.1 C0.2.1 dX8_occurs_64 rfl (lv_at hl 3 rfl) ?_
              obtain ⟨v27, e_v27, i_v27, h⟩ := oif_s h
              have kk_v27 : W p l e (rmk 3) s m args below meth c H locs 0 0 (MQ below (QCi D (wM g σr) r (in32 r ∧ R32 σr) (va_A (wM g σ) sz)) args s 0 0 (va_A (wM g σ) sz)) (F0 m 75 ls [.int (I v27)]) := by
                refine lv_istore (lv' := [(4, .int (I v27)), (0, .ref (g.2 100)), (1, .int (I p1)), (2, .int (I p2)), (3, .int (I x13)), (5, .int (I x15)), (6, .int (I x16))]) C0.1 C0.2.1 dX8_occurs_75 hl (by decide) rfl (fun ls hl => ?_)
                refine lv_iload C0.1 C0.2.1 dX8_occurs_77 (lv_at hl 6 rfl) ?_
                refine lv_istore (lv' := [(5, .int (I x16)), (4, .int (I v27)), (0, .ref (g.2 100)), (1, .int (I p1)), (2, .int (I p2)), (3, .int (I x13)), (6, .int (I x16))]) C0.1 C0.2.1 dX8_occurs_79 hl (by decide) rfl (fun ls hl => ?_)
                obtain ⟨v28, e_v28, i_v28, h⟩ := oadd_s h
                refine x_iinc (lv' := [(3, .int (I v28)), (5, .int (I x16)), (4, .int (I v27)), (0, .ref (g.2 100)), (1, .int (I p1)), (2, .int (I p2)), (6, .int (I x16))]) C0 dX8_occurs_81 hl (k := 5) rfl e_v28 (by decide) rfl (fun ls hl => ?_)
                exact h_k25 v28 i_v28 v27 i_v27 x16 i_x16 _ _ _ hE (lv_sub hl [3, 4, 5, 0, 2, 1, 6] rfl) h
              refine x_if_ne C0 i_x13 dX8_occurs_65 (tgt := 73) (by decide) (fun c9 => ?_) (fun c9 => ?_)
              · have e9 := e_v27.trans (if_neg c9)
                refine lv_iload C0.1 C0.2.1 dX8_occurs_73 (lv_at hl 4 rfl) ?_
                rw [e9] at kk_v27; exact kk_v27
              · have e9 := e_v27.trans (if_pos c9)
                refine lv_iload C0.1 C0.2.1 dX8_occurs_68 (lv_at hl 6 rfl) ?_
                refine x_goto C0 dX8_occurs_70 (tgt := 75) (by decide) ?_
                rw [e9] at kk_v27; exact kk_v27
            · have h := ite_t c9 h
              refine x_goto C0 dX8_occurs_61 (tgt := 84) (by decide) ?_
              exact h_k25 x13 i_x13 x14 i_x14 x15 i_x15 _ _ _ hE (lv_sub hl [0, 1, 2, 3, 4, 5, 6] rfl) h
      exact hL32 FU 0 lit_0 (-1) lit_m1 (-1) lit_m1 0 lit_0 _ _ _ hE (lv_sub hl [4, 5, 6, 3, 2, 1, 0] rfl) h
    · have h := ite_t c9 h
      refine lv_iconst (v := I (-1)) C0.1 C0.2.1 dX8_occurs_19 rfl ?_
      exact ret_i (wf := wM g) C0 hr hlk hE h lit_m1 hR dX8_occurs_20
set_option maxRecDepth 100000 in
set_option maxHeartbeats 4000000 in
theorem c_M_markedMany (l : Launch) (D : va_G) (g : Ad) {σ : St} {r : Int} (hR : R32 σ) (h : M_markedMany σ = some r) : CtI l D g yX8_markedMany cX8_markedMany 3 (some .int) 1 (wM g σ) (wM g σ) [.ref (g.2 100)] r (in32 r) := by
  intro sz
  refine met_of (by decide) (Nat.le_of_ble_eq_true rfl) (fun p e s m args below meth c ls H locs C0 hml hr hlk hE hl => ?_)
  have C0 : CX p c cX8_markedMany m s args D g RX8 := C0
  have hl : lv_has ls 3 [(0, .ref (g.2 100))] := hl
  unfold M_markedMany at h
  refine lv_iconst (v := I 0) C0.1 C0.2.1 dX8_markedMany_0 rfl ?_
  refine lv_istore_n (lv' := [(1, .int (I 0)), (0, .ref (g.2 100))]) C0.1 C0.2.1 dX8_markedMany_1 rfl hl (by decide) rfl (fun ls hl => ?_)
  refine lv_iconst (v := I 0) C0.1 C0.2.1 dX8_markedMany_2 rfl ?_
  refine lv_istore_n (lv' := [(2, .int (I 0)), (1, .int (I 0)), (0, .ref (g.2 100))]) C0.1 C0.2.1 dX8_markedMany_3 rfl hl (by decide) rfl (fun ls hl => ?_)
  have hL4 : ∀ (n : Nat) (x1 : Int) (i_x1 : in32 x1) (x2 : Int) (i_x2 : in32 x2) (H : Heap) (locs : List Loc) (ls : Array Slot), EW D (va_A (wM g σ) sz) s.heap (wM g σ) H locs → lv_has ls 3 [(0, .ref (g.2 100)), (1, .int (I x1)), (2, .int (I x2))] → M_markedMany_L4 σ n x1 x2 = some r → W p l e (rmk 1) s m args below meth c H locs 0 0 (MQ below (QCi D (wM g σ) r (in32 r) (va_A (wM g σ) sz)) args s 0 0 (va_A (wM g σ) sz)) (F0 m 4 ls []) := by
    intro n
    induction n with
    | zero => intros; rename_i h; cases h
    | succ n ih3 =>
      intro x1 i_x1 x2 i_x2 H locs ls hE hl h
      unfold M_markedMany_L4 at h
      refine lv_iload_n C0.1 C0.2.1 dX8_markedMany_4 rfl (lv_at hl 2 rfl) ?_
      refine lv_sipush (v := I 255) C0.1 C0.2.1 dX8_markedMany_5 (by decide +kernel) ?_
      refine x_icmp_gt C0 i_x2 lit_255 dX8_markedMany_8 (tgt := 34) (by decide) (fun c9 => ?_) (fun c9 => ?_)
      · have h := ite_t c9 h
        refine lv_iload_n C0.1 C0.2.1 dX8_markedMany_34 rfl (lv_at hl 1 rfl) ?_
        exact pret_i C0 hr hlk hE h i_x1 dX8_markedMany_35
      · have h := ite_f c9 h
        refine lv_iload_n C0.1 C0.2.1 dX8_markedMany_11 rfl (lv_at hl 1 rfl) ?_
        refine lv_aload_n C0.1 C0.2.1 dX8_markedMany_12 rfl (lv_at hl 0 rfl) ?_
        refine M_g_isNew C0 hE fk_X8_30 dX8_markedMany_13 ?_
        refine lv_iload_n C0.1 C0.2.1 dX8_markedMany_16 rfl (lv_at hl 2 rfl) ?_
        obtain ⟨v4, e_v4, i_v4, h⟩ := rd_s hR h
        refine M_isNew_l C0 hE i_x2 e_v4 dX8_markedMany_17 ?_
        obtain ⟨v5, e_v5, i_v5, h⟩ := oif_s h
        have kk_v5 : W p l e (rmk 1) s m args below meth c H locs 0 0 (MQ below (QCi D (wM g σ) r (in32 r) (va_A (wM g σ) sz)) args s 0 0 (va_A (wM g σ) sz)) (F0 m 26 ls [.int (I v5), .int (I x1)]) := by
          obtain ⟨v6, e_v6, i_v6, h⟩ := oadd_s h
          refine x_add C0 e_v6 dX8_markedMany_26 ?_
          refine lv_istore_n (lv' := [(1, .int (I v6)), (0, .ref (g.2 100)), (2, .int (I x2))]) C0.1 C0.2.1 dX8_markedMany_27 rfl hl (by decide) rfl (fun ls hl => ?_)
          obtain ⟨v7, e_v7, i_v7, h⟩ := oadd_s h
          refine x_iinc (lv' := [(2, .int (I v7)), (1, .int (I v6)), (0, .ref (g.2 100))]) C0 dX8_markedMany_28 hl (k := 2) rfl e_v7 (by decide) rfl (fun ls hl => ?_)
          refine x_goto C0 dX8_markedMany_31 (tgt := 4) (by decide) ?_
          exact ih3 v6 i_v6 v7 i_v7 _ _ _ hE (lv_sub hl [2, 1, 0] rfl) h
        refine x_if_eq C0 i_v4 dX8_markedMany_18 (tgt := 25) (by decide) (fun c9 => ?_) (fun c9 => ?_)
        · have e9 := e_v5.trans (if_pos c9)
          refine lv_iconst (v := I 0) C0.1 C0.2.1 dX8_markedMany_25 rfl ?_
          rw [e9] at kk_v5; exact kk_v5
        · have e9 := e_v5.trans (if_neg c9)
          refine lv_iconst (v := I 1) C0.1 C0.2.1 dX8_markedMany_21 rfl ?_
          refine x_goto C0 dX8_markedMany_22 (tgt := 26) (by decide) ?_
          rw [e9] at kk_v5; exact kk_v5
  exact hL4 FU 0 lit_0 0 lit_0 _ _ _ hE (lv_sub hl [2, 1, 0] rfl) h
set_option maxRecDepth 100000 in
set_option maxHeartbeats 4000000 in
theorem c_M_differs (l : Launch) (D : va_G) (g : Ad) {σ σr : St} {p1 p2 r : Int} (hR : R32 σ) (i_p1 : in32 p1) (i_p2 : in32 p2) (h : M_differs σ p1 p2 = some (r, σr)) : CtI l D g yX8_differs cX8_differs 5 (some .int) 3 (wM g σ) (wM g σr) [.ref (g.2 100), .int (I p1), .int (I p2)] r (in32 r ∧ R32 σr) := by
  intro sz
  refine met_of (by decide) (Nat.le_of_ble_eq_true rfl) (fun p e s m args below meth c ls H locs C0 hml hr hlk hE hl => ?_)
  have C0 : CX p c cX8_differs m s args D g RX8 := C0
  have hl : lv_has ls 5 [(0, .ref (g.2 100)), (1, .int (I p1)), (2, .int (I p2))] := hl
  unfold M_differs at h
  refine lv_aload_n C0.1 C0.2.1 dX8_differs_0 rfl (lv_at hl 0 rfl) ?_
  refine lv_iconst (v := I 0) C0.1 C0.2.1 dX8_differs_1 rfl ?_
  obtain ⟨s1, e_s1, hR, h⟩ := pf_s hR lit_0 h
  refine M_p_thrown C0 hE e_s1 fk_X8_55 dX8_differs_2 (fun H locs hE => ?_)
  refine lv_iload_n C0.1 C0.2.1 dX8_differs_5 rfl (lv_at hl 1 rfl) ?_
  obtain ⟨v2, h_v2, h⟩ := bndp_s h
  refine callS_i (rest := []) C0 hml hE (c_M_isPlace l D g (σ := s1) i_p1 h_v2) kw_X8_134 ⟨Nat.le_of_ble_eq_true rfl, Nat.le_of_ble_eq_true rfl⟩ rfl hl.1 rfl (Nat.le_of_ble_eq_true rfl) dX8_differs_6 ⟨Nat.zero_le _, Nat.zero_le _⟩ (fun H locs hE i_v2 => ?_)
  refine x_if_eq C0 i_v2 dX8_differs_9 (tgt := 19) (by decide) (fun c9 => ?_) (fun c9 => ?_)
  · have h := ite_t c9 h
    refine lv_iconst (v := I (-1)) C0.1 C0.2.1 dX8_differs_19 rfl ?_
    exact ret_i (wf := wM g) C0 hr hlk hE h lit_m1 hR dX8_differs_20
  · have h := ite_f c9 h
    refine lv_iload_n C0.1 C0.2.1 dX8_differs_12 rfl (lv_at hl 2 rfl) ?_
    obtain ⟨v3, h_v3, h⟩ := bndp_s h
    refine callS_i (rest := []) C0 hml hE (c_M_isPlace l D g (σ := s1) i_p2 h_v3) kw_X8_134 ⟨Nat.le_of_ble_eq_true rfl, Nat.le_of_ble_eq_true rfl⟩ rfl hl.1 rfl (Nat.le_of_ble_eq_true rfl) dX8_differs_13 ⟨Nat.zero_le _, Nat.zero_le _⟩ (fun H locs hE i_v3 => ?_)
    refine x_if_ne C0 i_v3 dX8_differs_16 (tgt := 21) (by decide) (fun c9 => ?_) (fun c9 => ?_)
    · have h := ite_f c9 h
      refine lv_aload_n C0.1 C0.2.1 dX8_differs_21 rfl (lv_at hl 0 rfl) ?_
      refine M_g_sizes C0 hE fk_X8_16 dX8_differs_22 ?_
      refine lv_iload_n C0.1 C0.2.1 dX8_differs_25 rfl (lv_at hl 1 rfl) ?_
      obtain ⟨v4, e_v4, i_v4, h⟩ := rd_s hR h
      refine M_sizes_l C0 hE i_p1 e_v4 dX8_differs_26 ?_
      refine lv_aload_n C0.1 C0.2.1 dX8_differs_27 rfl (lv_at hl 0 rfl) ?_
      refine M_g_sizes C0 hE fk_X8_16 dX8_differs_28 ?_
      refine lv_iload_n C0.1 C0.2.1 dX8_differs_31 rfl (lv_at hl 2 rfl) ?_
      obtain ⟨v5, e_v5, i_v5, h⟩ := rd_s hR h
      refine M_sizes_l C0 hE i_p2 e_v5 dX8_differs_32 ?_
      refine x_icmp_eq C0 i_v4 i_v5 dX8_differs_33 (tgt := 39) (by decide) (fun c9 => ?_) (fun c9 => ?_)
      · have h := ite_t c9 h
        refine lv_aload_n C0.1 C0.2.1 dX8_differs_39 rfl (lv_at hl 0 rfl) ?_
        obtain ⟨v6, s7, h_v6, h⟩ := bnd_s h
        refine callV_v (rest := []) C0 hml hE (M_rec C0 hE) (c_M_clearsNew l D g hR h_v6) kw_X8_195 ⟨Nat.le_of_ble_eq_true rfl, Nat.le_of_ble_eq_true rfl⟩ rfl hl.1 rfl (Nat.le_of_ble_eq_true rfl) dX8_differs_40 ⟨Nat.zero_le _, Nat.zero_le _⟩ (fun H locs hE hR => ?_)
        refine lv_iconst (v := I 0) C0.1 C0.2.1 dX8_differs_43 rfl ?_
        refine lv_istore_n (lv' := [(3, .int (I 0)), (0, .ref (g.2 100)), (1, .int (I p1)), (2, .int (I p2))]) C0.1 C0.2.1 dX8_differs_44 rfl hl (by decide) rfl (fun ls hl => ?_)
        refine lv_iconst (v := I 0) C0.1 C0.2.1 dX8_differs_45 rfl ?_
        refine lv_istore (lv' := [(4, .int (I 0)), (3, .int (I 0)), (0, .ref (g.2 100)), (1, .int (I p1)), (2, .int (I p2))]) C0.1 C0.2.1 dX8_differs_46 hl (by decide) rfl (fun ls hl => ?_)
        obtain ⟨k10, e_k10, h⟩ := jn_s h
        have h_k10 : ∀ (s8 : St) (hR : R32 s8) (x9 : Int) (i_x9 : in32 x9) (H : Heap) (locs : List Loc) (ls : Array Slot), EW D (va_A (wM g σ) sz) s.heap (wM g s8) H locs → lv_has ls 5 [(0, .ref (g.2 100)), (3, .int (I x9))] → k10 s8 x9 = some (r, σr) → W p l e (rmk 3) s m args below meth c H locs 0 0 (MQ below (QCi D (wM g σr) r (in32 r ∧ R32 σr) (va_A (wM g σ) sz)) args s 0 0 (va_A (wM g σ) sz)) (F0 m 95 ls []) := by
          intro s8 hR x9 i_x9 H locs ls hE hl h
          have h := (congrFun (congrFun e_k10 s8) x9).symm.trans h
          refine lv_aload_n C0.1 C0.2.1 dX8_differs_95 rfl (lv_at hl 0 rfl) ?_
          refine lv_iconst (v := I 0) C0.1 C0.2.1 dX8_differs_96 rfl ?_
          obtain ⟨s11, e_s11, hR, h⟩ := pf_s hR lit_0 h
          refine M_p_rowMany C0 hE e_s11 fk_X8_59 dX8_differs_97 (fun H locs hE => ?_)
          refine lv_aload_n C0.1 C0.2.1 dX8_differs_100 rfl (lv_at hl 0 rfl) ?_
          refine lv_iload_n C0.1 C0.2.1 dX8_differs_101 rfl (lv_at hl 1 rfl) ?_
          refine x_i2l C0 i_x9 dX8_differs_102 ?_
          obtain ⟨v12, s13, h_v12, h⟩ := bnd_s h
          refine callV_v (rest := []) C0 hml hE (M_rec C0 hE) (c_M_tell l D g hR (in64_of i_x9) h_v12) kw_X8_150 ⟨Nat.le_of_ble_eq_true rfl, Nat.le_of_ble_eq_true rfl⟩ rfl hl.1 rfl (Nat.le_of_ble_eq_true rfl) dX8_differs_103 ⟨Nat.zero_le _, Nat.zero_le _⟩ (fun H locs hE hR => ?_)
          refine lv_aload_n C0.1 C0.2.1 dX8_differs_106 rfl (lv_at hl 0 rfl) ?_
          obtain ⟨v14, h_v14, h⟩ := bndp_s h
          refine callV_i (rest := []) C0 hml hE (M_rec C0 hE) (c_M_markedMany l D g hR h_v14) kw_X8_281 ⟨Nat.le_of_ble_eq_true rfl, Nat.le_of_ble_eq_true rfl⟩ rfl hl.1 rfl (Nat.le_of_ble_eq_true rfl) dX8_differs_107 ⟨Nat.zero_le _, Nat.zero_le _⟩ (fun H locs hE i_v14 => ?_)
          exact ret_i (wf := wM g) C0 hr hlk hE h i_v14 hR dX8_differs_110
        have hL48 : ∀ (n : Nat) (s17 : St) (hR : R32 s17) (x15 : Int) (i_x15 : in32 x15) (x16 : Int) (i_x16 : in32 x16) (H : Heap) (locs : List Loc) (ls : Array Slot), EW D (va_A (wM g σ) sz) s.heap (wM g s17) H locs → lv_has ls 5 [(0, .ref (g.2 100)), (1, .int (I p1)), (2, .int (I p2)), (3, .int (I x15)), (4, .int (I x16))] → M_differs_L48 k10 p1 p2 n s17 x15 x16 = some (r, σr) → W p l e (rmk 3) s m args below meth c H locs 0 0 (MQ below (QCi D (wM g σr) r (in32 r ∧ R32 σr) (va_A (wM g σ) sz)) args s 0 0 (va_A (wM g σ) sz)) (F0 m 48 ls []) := by
          intro n
          induction n with
          | zero => intros; rename_i h; cases h
          | succ n ih18 =>
            intro s17 hR x15 i_x15 x16 i_x16 H locs ls hE hl h
            unfold M_differs_L48 at h
            refine lv_iload C0.1 C0.2.1 dX8_differs_48 (lv_at hl 4 rfl) ?_
            refine lv_aload_n C0.1 C0.2.1 dX8_differs_50 rfl (lv_at hl 0 rfl) ?_
            refine M_g_sizes C0 hE fk_X8_16 dX8_differs_51 ?_
            refine lv_iload_n C0.1 C0.2.1 dX8_differs_54 rfl (lv_at hl 1 rfl) ?_
            obtain ⟨v19, e_v19, i_v19, h⟩ := rd_s hR h
            refine M_sizes_l C0 hE i_p1 e_v19 dX8_differs_55 ?_
            refine x_icmp_ge C0 i_x16 i_v19 dX8_differs_56 (tgt := 95) (by decide) (fun c9 => ?_) (fun c9 => ?_)
            · have h := ite_f c9 h
              exact h_k10 s17 hR x15 i_x15 _ _ _ hE (lv_sub hl [0, 3] rfl) h
            · have h := ite_t c9 h
              refine lv_aload_n C0.1 C0.2.1 dX8_differs_59 rfl (lv_at hl 0 rfl) ?_
              refine lv_iload_n C0.1 C0.2.1 dX8_differs_60 rfl (lv_at hl 1 rfl) ?_
              refine lv_iload C0.1 C0.2.1 dX8_differs_61 (lv_at hl 4 rfl) ?_
              obtain ⟨v20, h_v20, h⟩ := bndp_s h
              refine callV_i (rest := []) C0 hml hE (M_rec C0 hE) (c_M_number l D g hR i_p1 i_x16 h_v20) kw_X8_99 ⟨Nat.le_of_ble_eq_true rfl, Nat.le_of_ble_eq_true rfl⟩ rfl hl.1 rfl (Nat.le_of_ble_eq_true rfl) dX8_differs_63 ⟨Nat.zero_le _, Nat.zero_le _⟩ (fun H locs hE i_v20 => ?_)
              refine lv_aload_n C0.1 C0.2.1 dX8_differs_66 rfl (lv_at hl 0 rfl) ?_
              refine lv_iload_n C0.1 C0.2.1 dX8_differs_67 rfl (lv_at hl 2 rfl) ?_
              refine lv_iload C0.1 C0.2.1 dX8_differs_68 (lv_at hl 4 rfl) ?_
              obtain ⟨v21, h_v21, h⟩ := bndp_s h
              refine callV_i (rest := [.int (I v20)]) C0 hml hE (M_rec C0 hE) (c_M_number l D g hR i_p2 i_x16 h_v21) kw_X8_99 ⟨Nat.le_of_ble_eq_true rfl, Nat.le_of_ble_eq_true rfl⟩ rfl hl.1 rfl (Nat.le_of_ble_eq_true rfl) dX8_differs_70 ⟨Nat.zero_le _, Nat.zero_le _⟩ (fun H locs hE i_v21 => ?_)
              obtain ⟨k24, e_k24, h⟩ := jn_s h
              have h_k24 : ∀ (s22 : St) (hR : R32 s22) (x23 : Int) (i_x23 : in32 x23) (H : Heap) (locs : List Loc) (ls : Array Slot), EW D (va_A (wM g σ) sz) s.heap (wM g s22) H locs → lv_has ls 5 [(0, .ref (g.2 100)), (1, .int (I p1)), (2, .int (I p2)), (3, .int (I x23)), (4, .int (I x16))] → k24 s22 x23 = some (r, σr) → W p l e (rmk 3) s m args below meth c H locs 0 0 (MQ below (QCi D (wM g σr) r (in32 r ∧ R32 σr) (va_A (wM g σ) sz)) args s 0 0 (va_A (wM g σ) sz)) (F0 m 89 ls []) := by
                intro s22 hR x23 i_x23 H locs ls hE hl h
                have h := (congrFun (congrFun e_k24 s22) x23).symm.trans h
                obtain ⟨v25, e_v25, i_v25, h⟩ := oadd_s h
                refine x_iinc (lv' := [(4, .int (I v25)), (0, .ref (g.2 100)), (1, .int (I p1)), (2, .int (I p2)), (3, .int (I x23))]) C0 dX8_differs_89 hl (k := 4) rfl e_v25 (by decide) rfl (fun ls hl => ?_)
                refine x_goto C0 dX8_differs_92 (tgt := 48) (by decide) ?_
                exact ih18 s22 hR x23 i_x23 v25 i_v25 _ _ _ hE (lv_sub hl [1, 2, 3, 4, 0] rfl) h
              refine x_icmp_ne C0 i_v20 i_v21 dX8_differs_73 (tgt := 79) (by decide) (fun c9 => ?_) (fun c9 => ?_)
              · have h := ite_f c9 h
                refine lv_aload_n C0.1 C0.2.1 dX8_differs_79 rfl (lv_at hl 0 rfl) ?_
                refine lv_iload C0.1 C0.2.1 dX8_differs_80 (lv_at hl 4 rfl) ?_
                refine lv_iconst (v := I 1) C0.1 C0.2.1 dX8_differs_82 rfl ?_
                obtain ⟨v26, s27, h_v26, h⟩ := bnd_s h
                refine callV_v (rest := []) C0 hml hE (M_rec C0 hE) (c_M_marks l D g hR i_x16 lit_1 h_v26) kw_X8_198 ⟨Nat.le_of_ble_eq_true rfl, Nat.le_of_ble_eq_true rfl⟩ rfl hl.1 rfl (Nat.le_of_ble_eq_true rfl) dX8_differs_83 ⟨Nat.zero_le _, Nat.zero_le _⟩ (fun H locs hE hR => ?_)
                obtain ⟨v28, e_v28, i_v28, h⟩ := oadd_s h
                refine x_iinc (lv' := [(3, .int (I v28)), (0, .ref (g.2 100)), (1, .int (I p1)), (2, .int (I p2)), (4, .int (I x16))]) C0 dX8_differs_86 hl (k := 3) rfl e_v28 (by decide) rfl (fun ls hl => ?_)
                exact h_k24 s27 hR v28 i_v28 _ _ _ hE (lv_sub hl [1, 2, 3, 0, 4] rfl) h
              · have h := ite_t c9 h
                refine x_goto C0 dX8_differs_76 (tgt := 89) (by decide) ?_
                exact h_k24 s17 hR x15 i_x15 _ _ _ hE (lv_sub hl [0, 1, 2, 3, 4] rfl) h
        exact hL48 FU s7 hR 0 lit_0 0 lit_0 _ _ _ hE (lv_sub hl [2, 3, 4, 1, 0] rfl) h
      · have h := ite_f c9 h
        refine lv_bipush (v := I (-2)) C0.1 C0.2.1 dX8_differs_36 (by decide +kernel) ?_
        exact ret_i (wf := wM g) C0 hr hlk hE h lit_m2 hR dX8_differs_38
    · have h := ite_t c9 h
      refine lv_iconst (v := I (-1)) C0.1 C0.2.1 dX8_differs_19 rfl ?_
      exact ret_i (wf := wM g) C0 hr hlk hE h lit_m1 hR dX8_differs_20
set_option maxRecDepth 100000 in
set_option maxHeartbeats 4000000 in
theorem c_M_writes (l : Launch) (D : va_G) (g : Ad) {σ σr : St} {p1 r : Int} (hR : R32 σ) (i_p1 : in32 p1) (h : M_writes σ p1 = some (r, σr)) : CtV l D g yX8_writes cX8_writes 2 none 1 (wM g σ) (wM g σr) [.ref (g.2 100), .int (I p1)] (R32 σr) := by
  intro sz
  refine met_of (by decide) (Nat.le_of_ble_eq_true rfl) (fun p e s m args below meth c ls H locs C0 hml hr hlk hE hl => ?_)
  have C0 : CX p c cX8_writes m s args D g RX8 := C0
  have hl : lv_has ls 2 [(0, .ref (g.2 100)), (1, .int (I p1))] := hl
  unfold M_writes at h
  refine lv_aload_n C0.1 C0.2.1 dX8_writes_0 rfl (lv_at hl 0 rfl) ?_
  obtain ⟨v1, e_v1, i_v1, h⟩ := gf_s hR h
  refine M_g_writtenMany C0 hE e_v1 fk_X8_284 dX8_writes_1 ?_
  refine lv_aload_n C0.1 C0.2.1 dX8_writes_4 rfl (lv_at hl 0 rfl) ?_
  obtain ⟨v2, e_v2, i_v2, h⟩ := gf_s hR h
  refine M_g_writtenAsked C0 hE e_v2 fk_X8_287 dX8_writes_5 ?_
  obtain ⟨k4, e_k4, h⟩ := jn_s h
  have h_k4 : ∀ (s3 : St) (hR : R32 s3) (H : Heap) (locs : List Loc) (ls : Array Slot), EW D (va_A (wM g σ) sz) s.heap (wM g s3) H locs → lv_has ls 2 [(0, .ref (g.2 100))] → k4 s3 = some (r, σr) → W p l e (rmk 1) s m args below meth c H locs 0 0 (MQ below (QCv D (wM g σr) (R32 σr) (va_A (wM g σ) sz)) args s 0 0 (va_A (wM g σ) sz)) (F0 m 16 ls []) := by
    intro s3 hR H locs ls hE hl h
    have h := (congrFun e_k4 s3).symm.trans h
    refine lv_aload_n C0.1 C0.2.1 dX8_writes_16 rfl (lv_at hl 0 rfl) ?_
    refine lv_dup C0.1 C0.2.1 dX8_writes_17 rfl ?_
    obtain ⟨v5, e_v5, i_v5, h⟩ := gf_s hR h
    refine M_g_writtenMany C0 hE e_v5 fk_X8_284 dX8_writes_18 ?_
    refine lv_iconst (v := I 1) C0.1 C0.2.1 dX8_writes_21 rfl ?_
    obtain ⟨v6, e_v6, i_v6, h⟩ := oadd_s h
    refine x_add C0 e_v6 dX8_writes_22 ?_
    obtain ⟨s7, e_s7, hR, h⟩ := pf_s hR i_v6 h
    refine M_p_writtenMany C0 hE e_s7 fk_X8_284 dX8_writes_23 (fun H locs hE => ?_)
    exact ret_v (wf := wM g) C0 hr hlk hE h hR dX8_writes_26
  refine x_icmp_ne C0 i_v1 i_v2 dX8_writes_8 (tgt := 16) (by decide) (fun c9 => ?_) (fun c9 => ?_)
  · have h := ite_f c9 h
    exact h_k4 σ hR _ _ _ hE (lv_sub hl [0] rfl) h
  · have h := ite_t c9 h
    refine lv_aload_n C0.1 C0.2.1 dX8_writes_11 rfl (lv_at hl 0 rfl) ?_
    refine lv_iload_n C0.1 C0.2.1 dX8_writes_12 rfl (lv_at hl 1 rfl) ?_
    obtain ⟨s8, e_s8, hR, h⟩ := pf_s hR i_p1 h
    refine M_p_writtenSign C0 hE e_s8 fk_X8_290 dX8_writes_13 (fun H locs hE => ?_)
    exact h_k4 s8 hR _ _ _ hE (lv_sub hl [0] rfl) h
set_option maxRecDepth 100000 in
set_option maxHeartbeats 4000000 in
theorem c_M_writesNumber (l : Launch) (D : va_G) (g : Ad) {σ σr : St} {p1 r : Int} (hR : R32 σ) (i_p1 : in32 p1) (h : M_writesNumber σ p1 = some (r, σr)) : CtV l D g yX8_writesNumber cX8_writesNumber 3 none 2 (wM g σ) (wM g σr) [.ref (g.2 100), .int (I p1)] (R32 σr) := by
  intro sz
  refine met_of (by decide) (Nat.le_of_ble_eq_true rfl) (fun p e s m args below meth c ls H locs C0 hml hr hlk hE hl => ?_)
  have C0 : CX p c cX8_writesNumber m s args D g RX8 := C0
  have hl : lv_has ls 3 [(0, .ref (g.2 100)), (1, .int (I p1))] := hl
  unfold M_writesNumber at h
  refine lv_iload_n C0.1 C0.2.1 dX8_writesNumber_0 rfl (lv_at hl 1 rfl) ?_
  obtain ⟨k2, e_k2, h⟩ := jn_s h
  have h_k2 : ∀ (s1 : St) (hR : R32 s1) (H : Heap) (locs : List Loc) (ls : Array Slot), EW D (va_A (wM g σ) sz) s.heap (wM g s1) H locs → lv_has ls 3 [(0, .ref (g.2 100)), (1, .int (I p1))] → k2 s1 = some (r, σr) → W p l e (rmk 2) s m args below meth c H locs 0 0 (MQ below (QCv D (wM g σr) (R32 σr) (va_A (wM g σ) sz)) args s 0 0 (va_A (wM g σ) sz)) (F0 m 10 ls []) := by
    intro s1 hR H locs ls hE hl h
    have h := (congrFun e_k2 s1).symm.trans h
    refine lv_iload_n C0.1 C0.2.1 dX8_writesNumber_10 rfl (lv_at hl 1 rfl) ?_
    obtain ⟨k4, e_k4, h⟩ := jn_s h
    have h_k4 : ∀ (x3 : Int) (i_x3 : in32 x3) (H : Heap) (locs : List Loc) (ls : Array Slot), EW D (va_A (wM g σ) sz) s.heap (wM g s1) H locs → lv_has ls 3 [(0, .ref (g.2 100))] → k4 x3 = some (r, σr) → W p l e (rmk 2) s m args below meth c H locs 0 0 (MQ below (QCv D (wM g σr) (R32 σr) (va_A (wM g σ) sz)) args s 0 0 (va_A (wM g σ) sz)) (F0 m 20 ls [.int (I x3)]) := by
      intro x3 i_x3 H locs ls hE hl h
      have h := (congrFun e_k4 x3).symm.trans h
      refine lv_istore_n (lv' := [(2, .int (I x3)), (0, .ref (g.2 100))]) C0.1 C0.2.1 dX8_writesNumber_20 rfl hl (by decide) rfl (fun ls hl => ?_)
      refine lv_iload_n C0.1 C0.2.1 dX8_writesNumber_21 rfl (lv_at hl 0 rfl) ?_
      refine lv_bipush (v := I 100) C0.1 C0.2.1 dX8_writesNumber_22 (by decide +kernel) ?_
      obtain ⟨k6, e_k6, h⟩ := jn_s h
      have h_k6 : ∀ (s5 : St) (hR : R32 s5) (H : Heap) (locs : List Loc) (ls : Array Slot), EW D (va_A (wM g σ) sz) s.heap (wM g s5) H locs → lv_has ls 3 [(0, .ref (g.2 100)), (2, .int (I x3))] → k6 s5 = some (r, σr) → W p l e (rmk 2) s m args below meth c H locs 0 0 (MQ below (QCv D (wM g σr) (R32 σr) (va_A (wM g σ) sz)) args s 0 0 (va_A (wM g σ) sz)) (F0 m 38 ls []) := by
        intro s5 hR H locs ls hE hl h
        have h := (congrFun e_k6 s5).symm.trans h
        refine lv_iload_n C0.1 C0.2.1 dX8_writesNumber_38 rfl (lv_at hl 1 rfl) ?_
        refine lv_bipush (v := I 10) C0.1 C0.2.1 dX8_writesNumber_39 (by decide +kernel) ?_
        obtain ⟨k8, e_k8, h⟩ := jn_s h
        have h_k8 : ∀ (s7 : St) (hR : R32 s7) (H : Heap) (locs : List Loc) (ls : Array Slot), EW D (va_A (wM g σ) sz) s.heap (wM g s7) H locs → lv_has ls 3 [(0, .ref (g.2 100)), (2, .int (I x3))] → k8 s7 = some (r, σr) → W p l e (rmk 2) s m args below meth c H locs 0 0 (MQ below (QCv D (wM g σr) (R32 σr) (va_A (wM g σ) sz)) args s 0 0 (va_A (wM g σ) sz)) (F0 m 58 ls []) := by
          intro s7 hR H locs ls hE hl h
          have h := (congrFun e_k8 s7).symm.trans h
          refine lv_aload_n C0.1 C0.2.1 dX8_writesNumber_58 rfl (lv_at hl 0 rfl) ?_
          refine lv_bipush (v := I 48) C0.1 C0.2.1 dX8_writesNumber_59 (by decide +kernel) ?_
          refine lv_iload_n C0.1 C0.2.1 dX8_writesNumber_61 rfl (lv_at hl 1 rfl) ?_
          refine lv_bipush (v := I 10) C0.1 C0.2.1 dX8_writesNumber_62 (by decide +kernel) ?_
          obtain ⟨v9, e_v9, i_v9, h⟩ := orem_s lit_10 h
          refine x_rem C0 i_x3 lit_10 e_v9 dX8_writesNumber_64 ?_
          obtain ⟨v10, e_v10, i_v10, h⟩ := oadd_s h
          refine x_add C0 e_v10 dX8_writesNumber_65 ?_
          obtain ⟨v11, s12, h_v11, h⟩ := bnd_s h
          refine callV_v (rest := []) C0 hml hE (M_rec C0 hE) (c_M_writes l D g hR i_v10 h_v11) kw_X8_293 ⟨Nat.le_of_ble_eq_true rfl, Nat.le_of_ble_eq_true rfl⟩ rfl hl.1 rfl (Nat.le_of_ble_eq_true rfl) dX8_writesNumber_66 ⟨Nat.zero_le _, Nat.zero_le _⟩ (fun H locs hE hR => ?_)
          exact ret_v (wf := wM g) C0 hr hlk hE h hR dX8_writesNumber_69
        refine x_icmp_lt C0 i_x3 lit_10 dX8_writesNumber_41 (tgt := 58) (by decide) (fun c9 => ?_) (fun c9 => ?_)
        · have h := ite_t c9 h
          exact h_k8 s5 hR _ _ _ hE (lv_sub hl [0, 1] rfl) h
        · have h := ite_f c9 h
          refine lv_aload_n C0.1 C0.2.1 dX8_writesNumber_44 rfl (lv_at hl 0 rfl) ?_
          refine lv_bipush (v := I 48) C0.1 C0.2.1 dX8_writesNumber_45 (by decide +kernel) ?_
          refine lv_iload_n C0.1 C0.2.1 dX8_writesNumber_47 rfl (lv_at hl 1 rfl) ?_
          refine lv_bipush (v := I 10) C0.1 C0.2.1 dX8_writesNumber_48 (by decide +kernel) ?_
          obtain ⟨v13, e_v13, i_v13, h⟩ := odiv_s i_x3 h
          refine x_div C0 i_x3 lit_10 e_v13 dX8_writesNumber_50 ?_
          refine lv_bipush (v := I 10) C0.1 C0.2.1 dX8_writesNumber_51 (by decide +kernel) ?_
          obtain ⟨v14, e_v14, i_v14, h⟩ := orem_s lit_10 h
          refine x_rem C0 i_v13 lit_10 e_v14 dX8_writesNumber_53 ?_
          obtain ⟨v15, e_v15, i_v15, h⟩ := oadd_s h
          refine x_add C0 e_v15 dX8_writesNumber_54 ?_
          obtain ⟨v16, s17, h_v16, h⟩ := bnd_s h
          refine callV_v (rest := []) C0 hml hE (M_rec C0 hE) (c_M_writes l D g hR i_v15 h_v16) kw_X8_293 ⟨Nat.le_of_ble_eq_true rfl, Nat.le_of_ble_eq_true rfl⟩ rfl hl.1 rfl (Nat.le_of_ble_eq_true rfl) dX8_writesNumber_55 ⟨Nat.zero_le _, Nat.zero_le _⟩ (fun H locs hE hR => ?_)
          exact h_k8 s17 hR _ _ _ hE (lv_sub hl [0, 1] rfl) h
      refine x_icmp_lt C0 i_x3 lit_100 dX8_writesNumber_24 (tgt := 38) (by decide) (fun c9 => ?_) (fun c9 => ?_)
      · have h := ite_t c9 h
        exact h_k6 s1 hR _ _ _ hE (lv_sub hl [1, 0] rfl) h
      · have h := ite_f c9 h
        refine lv_aload_n C0.1 C0.2.1 dX8_writesNumber_27 rfl (lv_at hl 1 rfl) ?_
        refine lv_bipush (v := I 48) C0.1 C0.2.1 dX8_writesNumber_28 (by decide +kernel) ?_
        refine lv_iload_n C0.1 C0.2.1 dX8_writesNumber_30 rfl (lv_at hl 0 rfl) ?_
        refine lv_bipush (v := I 100) C0.1 C0.2.1 dX8_writesNumber_31 (by decide +kernel) ?_
        obtain ⟨v18, e_v18, i_v18, h⟩ := odiv_s i_x3 h
        refine x_div C0 i_x3 lit_100 e_v18 dX8_writesNumber_33 ?_
        obtain ⟨v19, e_v19, i_v19, h⟩ := oadd_s h
        refine x_add C0 e_v19 dX8_writesNumber_34 ?_
        obtain ⟨v20, s21, h_v20, h⟩ := bnd_s h
        refine callV_v (rest := []) C0 hml hE (M_rec C0 hE) (c_M_writes l D g hR i_v19 h_v20) kw_X8_293 ⟨Nat.le_of_ble_eq_true rfl, Nat.le_of_ble_eq_true rfl⟩ rfl hl.1 rfl (Nat.le_of_ble_eq_true rfl) dX8_writesNumber_35 ⟨Nat.zero_le _, Nat.zero_le _⟩ (fun H locs hE hR => ?_)
        exact h_k6 s21 hR _ _ _ hE (lv_sub hl [1, 0] rfl) h
    refine x_if_ge C0 i_p1 dX8_writesNumber_11 (tgt := 19) (by decide) (fun c9 => ?_) (fun c9 => ?_)
    · have h := ite_f c9 h
      refine lv_iload_n C0.1 C0.2.1 dX8_writesNumber_19 rfl (lv_at hl 1 rfl) ?_
      exact h_k4 p1 i_p1 _ _ _ hE (lv_sub hl [0] rfl) h
    · have h := ite_t c9 h
      refine lv_iload_n C0.1 C0.2.1 dX8_writesNumber_14 rfl (lv_at hl 1 rfl) ?_
      obtain ⟨v22, e_v22, i_v22, h⟩ := oneg_s h
      refine x_neg C0 e_v22 dX8_writesNumber_15 ?_
      refine x_goto C0 dX8_writesNumber_16 (tgt := 20) (by decide) ?_
      exact h_k4 v22 i_v22 _ _ _ hE (lv_sub hl [0] rfl) h
  refine x_if_ge C0 i_p1 dX8_writesNumber_1 (tgt := 10) (by decide) (fun c9 => ?_) (fun c9 => ?_)
  · have h := ite_f c9 h
    exact h_k2 σ hR _ _ _ hE (lv_sub hl [0, 1] rfl) h
  · have h := ite_t c9 h
    refine lv_aload_n C0.1 C0.2.1 dX8_writesNumber_4 rfl (lv_at hl 0 rfl) ?_
    refine lv_bipush (v := I 45) C0.1 C0.2.1 dX8_writesNumber_5 (by decide +kernel) ?_
    obtain ⟨v23, s24, h_v23, h⟩ := bnd_s h
    refine callV_v (rest := []) C0 hml hE (M_rec C0 hE) (c_M_writes l D g hR lit_45 h_v23) kw_X8_293 ⟨Nat.le_of_ble_eq_true rfl, Nat.le_of_ble_eq_true rfl⟩ rfl hl.1 rfl (Nat.le_of_ble_eq_true rfl) dX8_writesNumber_7 ⟨Nat.zero_le _, Nat.zero_le _⟩ (fun H locs hE hR => ?_)
    exact h_k2 s24 hR _ _ _ hE (lv_sub hl [0, 1] rfl) h
set_option maxRecDepth 100000 in
set_option maxHeartbeats 4000000 in
theorem c_M_writesPart (l : Launch) (D : va_G) (g : Ad) : ∀ (d : Nat) {σ σr : St} {p1 p2 p3 p4 r : Int} (hR : R32 σ) (i_p1 : in32 p1) (i_p2 : in32 p2) (i_p3 : in32 p3) (i_p4 : in32 p4) (h : M_writesPart d σ p1 p2 p3 p4 = some (r, σr)), CtV l D g yX8_writesPart cX8_writesPart 5 none (3 + d) (wM g σ) (wM g σr) [.ref (g.2 100), .int (I p1), .int (I p2), .int (I p3), .int (I p4)] (R32 σr) := by
  intro d
  induction d with
  | zero => intros; rename_i h; cases h
  | succ d ih =>
    intro σ σr p1 p2 p3 p4 r hR i_p1 i_p2 i_p3 i_p4 h sz
    refine met_of (by decide) (Nat.le_of_ble_eq_true rfl) (fun p e s m args below meth c ls H locs C0 hml hr hlk hE hl => ?_)
    have C0 : CX p c cX8_writesPart m s args D g RX8 := C0
    have hl : lv_has ls 5 [(0, .ref (g.2 100)), (1, .int (I p1)), (2, .int (I p2)), (3, .int (I p3)), (4, .int (I p4))] := hl
    unfold M_writesPart at h
    refine lv_iload C0.1 C0.2.1 dX8_writesPart_0 (lv_at hl 4 rfl) ?_
    refine x_if_ne C0 i_p4 dX8_writesPart_2 (tgt := 12) (by decide) (fun c9 => ?_) (fun c9 => ?_)
    · have h := ite_f c9 h
      refine lv_aload_n C0.1 C0.2.1 dX8_writesPart_12 rfl (lv_at hl 0 rfl) ?_
      refine lv_bipush (v := I 40) C0.1 C0.2.1 dX8_writesPart_13 (by decide +kernel) ?_
      obtain ⟨v1, s2, h_v1, h⟩ := bnd_s h
      refine callV_v (rest := []) C0 hml hE (M_rec C0 hE) (c_M_writes l D g hR lit_40 h_v1) kw_X8_293 (by simp only [rmk, RD]; omega) rfl hl.1 rfl (Nat.le_of_ble_eq_true rfl) dX8_writesPart_15 ⟨Nat.zero_le _, Nat.zero_le _⟩ (fun H locs hE hR => ?_)
      refine lv_aload_n C0.1 C0.2.1 dX8_writesPart_18 rfl (lv_at hl 0 rfl) ?_
      refine lv_aload_n C0.1 C0.2.1 dX8_writesPart_19 rfl (lv_at hl 0 rfl) ?_
      refine lv_iload_n C0.1 C0.2.1 dX8_writesPart_20 rfl (lv_at hl 1 rfl) ?_
      refine lv_iload_n C0.1 C0.2.1 dX8_writesPart_21 rfl (lv_at hl 2 rfl) ?_
      obtain ⟨v3, h_v3, h⟩ := bndp_s h
      refine callV_i (rest := [.ref (g.2 100)]) C0 hml hE (M_rec C0 hE) (c_M_number l D g hR i_p1 i_p2 h_v3) kw_X8_99 (by simp only [rmk, RD]; omega) rfl hl.1 rfl (Nat.le_of_ble_eq_true rfl) dX8_writesPart_22 ⟨Nat.zero_le _, Nat.zero_le _⟩ (fun H locs hE i_v3 => ?_)
      obtain ⟨v4, s5, h_v4, h⟩ := bnd_s h
      refine callV_v (rest := []) C0 hml hE (M_rec C0 hE) (c_M_writesNumber l D g hR i_v3 h_v4) kw_X8_296 (by simp only [rmk, RD]; omega) rfl hl.1 rfl (Nat.le_of_ble_eq_true rfl) dX8_writesPart_25 ⟨Nat.zero_le _, Nat.zero_le _⟩ (fun H locs hE hR => ?_)
      refine lv_aload_n C0.1 C0.2.1 dX8_writesPart_28 rfl (lv_at hl 0 rfl) ?_
      refine lv_iload_n C0.1 C0.2.1 dX8_writesPart_29 rfl (lv_at hl 1 rfl) ?_
      refine lv_iload_n C0.1 C0.2.1 dX8_writesPart_30 rfl (lv_at hl 2 rfl) ?_
      refine lv_iload_n C0.1 C0.2.1 dX8_writesPart_31 rfl (lv_at hl 3 rfl) ?_
      obtain ⟨v6, e_v6, i_v6, h⟩ := oadd_s h
      refine x_add C0 e_v6 dX8_writesPart_32 ?_
      refine lv_iconst (v := I 2) C0.1 C0.2.1 dX8_writesPart_33 rfl ?_
      refine lv_iload_n C0.1 C0.2.1 dX8_writesPart_34 rfl (lv_at hl 3 rfl) ?_
      obtain ⟨v7, e_v7, i_v7, h⟩ := omul_s h
      refine x_mul C0 e_v7 dX8_writesPart_35 ?_
      refine lv_iload C0.1 C0.2.1 dX8_writesPart_36 (lv_at hl 4 rfl) ?_
      obtain ⟨v8, h_v8, h⟩ := bndp_s h
      refine callS_i (rest := [.int (I v7), .int (I v6), .int (I p1), .ref (g.2 100)]) C0 hml hE (c_M_leftSize l D g (σ := s5) i_p4 h_v8) kw_X8_169 (by simp only [rmk, RD]; omega) rfl hl.1 rfl (Nat.le_of_ble_eq_true rfl) dX8_writesPart_38 ⟨Nat.zero_le _, Nat.zero_le _⟩ (fun H locs hE i_v8 => ?_)
      obtain ⟨v9, s10, h_v9, h⟩ := bnd_s h
      refine callV_v (rest := []) C0 hml hE (M_rec C0 hE) (ih hR i_p1 i_v6 i_v7 i_v8 h_v9) kw_X8_299 (by simp only [rmk, RD]; omega) rfl hl.1 rfl (Nat.le_of_ble_eq_true rfl) dX8_writesPart_41 ⟨Nat.zero_le _, Nat.zero_le _⟩ (fun H locs hE hR => ?_)
      refine lv_aload_n C0.1 C0.2.1 dX8_writesPart_44 rfl (lv_at hl 0 rfl) ?_
      refine lv_iload_n C0.1 C0.2.1 dX8_writesPart_45 rfl (lv_at hl 1 rfl) ?_
      refine lv_iload_n C0.1 C0.2.1 dX8_writesPart_46 rfl (lv_at hl 2 rfl) ?_
      refine lv_iconst (v := I 2) C0.1 C0.2.1 dX8_writesPart_47 rfl ?_
      refine lv_iload_n C0.1 C0.2.1 dX8_writesPart_48 rfl (lv_at hl 3 rfl) ?_
      obtain ⟨v11, e_v11, i_v11, h⟩ := omul_s h
      refine x_mul C0 e_v11 dX8_writesPart_49 ?_
      obtain ⟨v12, e_v12, i_v12, h⟩ := oadd_s h
      refine x_add C0 e_v12 dX8_writesPart_50 ?_
      refine lv_iconst (v := I 2) C0.1 C0.2.1 dX8_writesPart_51 rfl ?_
      refine lv_iload_n C0.1 C0.2.1 dX8_writesPart_52 rfl (lv_at hl 3 rfl) ?_
      obtain ⟨v13, e_v13, i_v13, h⟩ := omul_s h
      refine x_mul C0 e_v13 dX8_writesPart_53 ?_
      refine lv_iload C0.1 C0.2.1 dX8_writesPart_54 (lv_at hl 4 rfl) ?_
      obtain ⟨v14, h_v14, h⟩ := bndp_s h
      refine callS_i (rest := [.int (I v13), .int (I v12), .int (I p1), .ref (g.2 100)]) C0 hml hE (c_M_rightSize l D g (σ := s10) i_p4 h_v14) kw_X8_173 (by simp only [rmk, RD]; omega) rfl hl.1 rfl (Nat.le_of_ble_eq_true rfl) dX8_writesPart_56 ⟨Nat.zero_le _, Nat.zero_le _⟩ (fun H locs hE i_v14 => ?_)
      obtain ⟨v15, s16, h_v15, h⟩ := bnd_s h
      refine callV_v (rest := []) C0 hml hE (M_rec C0 hE) (ih hR i_p1 i_v12 i_v13 i_v14 h_v15) kw_X8_299 (by simp only [rmk, RD]; omega) rfl hl.1 rfl (Nat.le_of_ble_eq_true rfl) dX8_writesPart_59 ⟨Nat.zero_le _, Nat.zero_le _⟩ (fun H locs hE hR => ?_)
      refine lv_aload_n C0.1 C0.2.1 dX8_writesPart_62 rfl (lv_at hl 0 rfl) ?_
      refine lv_bipush (v := I 41) C0.1 C0.2.1 dX8_writesPart_63 (by decide +kernel) ?_
      obtain ⟨v17, s18, h_v17, h⟩ := bnd_s h
      refine callV_v (rest := []) C0 hml hE (M_rec C0 hE) (c_M_writes l D g hR lit_41 h_v17) kw_X8_293 (by simp only [rmk, RD]; omega) rfl hl.1 rfl (Nat.le_of_ble_eq_true rfl) dX8_writesPart_65 ⟨Nat.zero_le _, Nat.zero_le _⟩ (fun H locs hE hR => ?_)
      exact ret_v (wf := wM g) C0 hr hlk hE h hR dX8_writesPart_68
    · have h := ite_t c9 h
      refine lv_aload_n C0.1 C0.2.1 dX8_writesPart_5 rfl (lv_at hl 0 rfl) ?_
      refine lv_bipush (v := I 46) C0.1 C0.2.1 dX8_writesPart_6 (by decide +kernel) ?_
      obtain ⟨v19, s20, h_v19, h⟩ := bnd_s h
      refine callV_v (rest := []) C0 hml hE (M_rec C0 hE) (c_M_writes l D g hR lit_46 h_v19) kw_X8_293 (by simp only [rmk, RD]; omega) rfl hl.1 rfl (Nat.le_of_ble_eq_true rfl) dX8_writesPart_8 ⟨Nat.zero_le _, Nat.zero_le _⟩ (fun H locs hE hR => ?_)
      exact ret_v (wf := wM g) C0 hr hlk hE h hR dX8_writesPart_11
set_option maxRecDepth 100000 in
set_option maxHeartbeats 4000000 in
theorem c_M_written (l : Launch) (D : va_G) (g : Ad) {σ σr : St} {p1 p2 r : Int} (hR : R32 σ) (i_p1 : in32 p1) (i_p2 : in32 p2) (h : M_written σ p1 p2 = some (r, σr)) : CtI l D g yX8_written cX8_written 3 (some .int) 16 (wM g σ) (wM g σr) [.ref (g.2 100), .int (I p1), .int (I p2)] r (in32 r ∧ R32 σr) := by
  intro sz
  refine met_of (by decide) (Nat.le_of_ble_eq_true rfl) (fun p e s m args below meth c ls H locs C0 hml hr hlk hE hl => ?_)
  have C0 : CX p c cX8_written m s args D g RX8 := C0
  have hl : lv_has ls 3 [(0, .ref (g.2 100)), (1, .int (I p1)), (2, .int (I p2))] := hl
  unfold M_written at h
  refine lv_aload_n C0.1 C0.2.1 dX8_written_0 rfl (lv_at hl 0 rfl) ?_
  refine lv_iconst (v := I 0) C0.1 C0.2.1 dX8_written_1 rfl ?_
  obtain ⟨s1, e_s1, hR, h⟩ := pf_s hR lit_0 h
  refine M_p_thrown C0 hE e_s1 fk_X8_55 dX8_written_2 (fun H locs hE => ?_)
  refine lv_iload_n C0.1 C0.2.1 dX8_written_5 rfl (lv_at hl 1 rfl) ?_
  obtain ⟨v2, h_v2, h⟩ := bndp_s h
  refine callS_i (rest := []) C0 hml hE (c_M_isPlace l D g (σ := s1) i_p1 h_v2) kw_X8_134 ⟨Nat.le_of_ble_eq_true rfl, Nat.le_of_ble_eq_true rfl⟩ rfl hl.1 rfl (Nat.le_of_ble_eq_true rfl) dX8_written_6 ⟨Nat.zero_le _, Nat.zero_le _⟩ (fun H locs hE i_v2 => ?_)
  refine x_if_eq C0 i_v2 dX8_written_9 (tgt := 17) (by decide) (fun c9 => ?_) (fun c9 => ?_)
  · have h := ite_t c9 h
    refine lv_iconst (v := I (-1)) C0.1 C0.2.1 dX8_written_17 rfl ?_
    exact ret_i (wf := wM g) C0 hr hlk hE h lit_m1 hR dX8_written_18
  · have h := ite_f c9 h
    refine lv_iload_n C0.1 C0.2.1 dX8_written_12 rfl (lv_at hl 2 rfl) ?_
    refine lv_iconst (v := I (-1)) C0.1 C0.2.1 dX8_written_13 rfl ?_
    refine x_icmp_ge C0 i_p2 lit_m1 dX8_written_14 (tgt := 19) (by decide) (fun c9 => ?_) (fun c9 => ?_)
    · have h := ite_f c9 h
      refine lv_aload_n C0.1 C0.2.1 dX8_written_19 rfl (lv_at hl 0 rfl) ?_
      refine lv_iconst (v := I 0) C0.1 C0.2.1 dX8_written_20 rfl ?_
      obtain ⟨s3, e_s3, hR, h⟩ := pf_s hR lit_0 h
      refine M_p_writtenMany C0 hE e_s3 fk_X8_284 dX8_written_21 (fun H locs hE => ?_)
      refine lv_aload_n C0.1 C0.2.1 dX8_written_24 rfl (lv_at hl 0 rfl) ?_
      refine lv_iload_n C0.1 C0.2.1 dX8_written_25 rfl (lv_at hl 2 rfl) ?_
      obtain ⟨s4, e_s4, hR, h⟩ := pf_s hR i_p2 h
      refine M_p_writtenAsked C0 hE e_s4 fk_X8_287 dX8_written_26 (fun H locs hE => ?_)
      refine lv_aload_n C0.1 C0.2.1 dX8_written_29 rfl (lv_at hl 0 rfl) ?_
      refine lv_iconst (v := I (-1)) C0.1 C0.2.1 dX8_written_30 rfl ?_
      obtain ⟨s5, e_s5, hR, h⟩ := pf_s hR lit_m1 h
      refine M_p_writtenSign C0 hE e_s5 fk_X8_290 dX8_written_31 (fun H locs hE => ?_)
      refine lv_aload_n C0.1 C0.2.1 dX8_written_34 rfl (lv_at hl 0 rfl) ?_
      refine lv_iload_n C0.1 C0.2.1 dX8_written_35 rfl (lv_at hl 1 rfl) ?_
      refine lv_iconst (v := I 0) C0.1 C0.2.1 dX8_written_36 rfl ?_
      refine lv_iconst (v := I 1) C0.1 C0.2.1 dX8_written_37 rfl ?_
      refine lv_aload_n C0.1 C0.2.1 dX8_written_38 rfl (lv_at hl 0 rfl) ?_
      refine M_g_sizes C0 hE fk_X8_16 dX8_written_39 ?_
      refine lv_iload_n C0.1 C0.2.1 dX8_written_42 rfl (lv_at hl 1 rfl) ?_
      obtain ⟨v6, e_v6, i_v6, h⟩ := rd_s hR h
      refine M_sizes_l C0 hE i_p1 e_v6 dX8_written_43 ?_
      obtain ⟨v7, s8, h_v7, h⟩ := bnd_s h
      refine callV_v (rest := []) C0 hml hE (M_rec C0 hE) (c_M_writesPart l D g RD hR i_p1 lit_0 lit_1 i_v6 h_v7) kw_X8_299 ⟨Nat.le_of_ble_eq_true rfl, Nat.le_of_ble_eq_true rfl⟩ rfl hl.1 rfl (Nat.le_of_ble_eq_true rfl) dX8_written_44 ⟨Nat.zero_le _, Nat.zero_le _⟩ (fun H locs hE hR => ?_)
      refine lv_iload_n C0.1 C0.2.1 dX8_written_47 rfl (lv_at hl 2 rfl) ?_
      refine lv_iconst (v := I (-1)) C0.1 C0.2.1 dX8_written_48 rfl ?_
      refine x_icmp_ne C0 i_p2 lit_m1 dX8_written_49 (tgt := 59) (by decide) (fun c9 => ?_) (fun c9 => ?_)
      · have h := ite_f c9 h
        refine lv_aload_n C0.1 C0.2.1 dX8_written_59 rfl (lv_at hl 0 rfl) ?_
        obtain ⟨v9, e_v9, i_v9, h⟩ := gf_s hR h
        refine M_g_writtenSign C0 hE e_v9 fk_X8_290 dX8_written_60 ?_
        exact ret_i (wf := wM g) C0 hr hlk hE h i_v9 hR dX8_written_63
      · have h := ite_t c9 h
        refine lv_aload_n C0.1 C0.2.1 dX8_written_52 rfl (lv_at hl 0 rfl) ?_
        obtain ⟨v10, e_v10, i_v10, h⟩ := gf_s hR h
        refine M_g_writtenMany C0 hE e_v10 fk_X8_284 dX8_written_53 ?_
        refine x_goto C0 dX8_written_56 (tgt := 63) (by decide) ?_
        exact ret_i (wf := wM g) C0 hr hlk hE h i_v10 hR dX8_written_63
    · have h := ite_t c9 h
      refine lv_iconst (v := I (-1)) C0.1 C0.2.1 dX8_written_17 rfl ?_
      exact ret_i (wf := wM g) C0 hr hlk hE h lit_m1 hR dX8_written_18
set_option maxRecDepth 100000 in
set_option maxHeartbeats 4000000 in
theorem c_M_firstCost (l : Launch) (D : va_G) (g : Ad) {σ : St} {p1 r : Int} (i_p1 : in32 p1) (h : M_firstCost p1 = some r) : CtI l D g yX8_firstCost cX8_firstCost 3 (some .int) 2 (wM g σ) (wM g σ) [.int (I p1)] r (in32 r) := by
  intro sz
  refine met_of (by decide) (Nat.le_of_ble_eq_true rfl) (fun p e s m args below meth c ls H locs C0 hml hr hlk hE hl => ?_)
  have C0 : CX p c cX8_firstCost m s args D g RX8 := C0
  have hl : lv_has ls 3 [(0, .int (I p1))] := hl
  unfold M_firstCost at h
  refine lv_iconst (v := I 0) C0.1 C0.2.1 dX8_firstCost_0 rfl ?_
  refine lv_istore_n (lv' := [(1, .int (I 0)), (0, .int (I p1))]) C0.1 C0.2.1 dX8_firstCost_1 rfl hl (by decide) rfl (fun ls hl => ?_)
  refine lv_iload_n C0.1 C0.2.1 dX8_firstCost_2 rfl (lv_at hl 1 rfl) ?_
  refine lv_istore_n (lv' := [(2, .int (I p1)), (1, .int (I 0)), (0, .int (I p1))]) C0.1 C0.2.1 dX8_firstCost_3 rfl hl (by decide) rfl (fun ls hl => ?_)
  have hL4 : ∀ (n : Nat) (x1 : Int) (i_x1 : in32 x1) (x2 : Int) (i_x2 : in32 x2) (H : Heap) (locs : List Loc) (ls : Array Slot), EW D (va_A (wM g σ) sz) s.heap (wM g σ) H locs → lv_has ls 3 [(1, .int (I x1)), (2, .int (I x2))] → M_firstCost_L4 n x1 x2 = some r → W p l e (rmk 2) s m args below meth c H locs 0 0 (MQ below (QCi D (wM g σ) r (in32 r) (va_A (wM g σ) sz)) args s 0 0 (va_A (wM g σ) sz)) (F0 m 4 ls []) := by
    intro n
    induction n with
    | zero => intros; rename_i h; cases h
    | succ n ih3 =>
      intro x1 i_x1 x2 i_x2 H locs ls hE hl h
      unfold M_firstCost_L4 at h
      refine lv_iload_n C0.1 C0.2.1 dX8_firstCost_4 rfl (lv_at hl 1 rfl) ?_
      refine lv_iconst (v := I 1) C0.1 C0.2.1 dX8_firstCost_5 rfl ?_
      refine x_icmp_le C0 i_x2 lit_1 dX8_firstCost_6 (tgt := 20) (by decide) (fun c9 => ?_) (fun c9 => ?_)
      · have h := ite_f c9 h
        refine lv_iload_n C0.1 C0.2.1 dX8_firstCost_20 rfl (lv_at hl 0 rfl) ?_
        exact pret_i C0 hr hlk hE h i_x1 dX8_firstCost_21
      · have h := ite_t c9 h
        obtain ⟨v4, e_v4, i_v4, h⟩ := oadd_s h
        refine x_iinc (lv' := [(1, .int (I v4)), (2, .int (I x2))]) C0 dX8_firstCost_9 hl (k := 0) rfl e_v4 (by decide) rfl (fun ls hl => ?_)
        refine lv_iload_n C0.1 C0.2.1 dX8_firstCost_12 rfl (lv_at hl 1 rfl) ?_
        obtain ⟨v5, h_v5, h⟩ := bndp_s h
        refine callS_i (rest := []) C0 hml hE (c_M_leftSize l D g (σ := σ) i_x2 h_v5) kw_X8_169 ⟨Nat.le_of_ble_eq_true rfl, Nat.le_of_ble_eq_true rfl⟩ rfl hl.1 rfl (Nat.le_of_ble_eq_true rfl) dX8_firstCost_13 ⟨Nat.zero_le _, Nat.zero_le _⟩ (fun H locs hE i_v5 => ?_)
        refine lv_istore_n (lv' := [(2, .int (I v5)), (1, .int (I v4))]) C0.1 C0.2.1 dX8_firstCost_16 rfl hl (by decide) rfl (fun ls hl => ?_)
        refine x_goto C0 dX8_firstCost_17 (tgt := 4) (by decide) ?_
        exact ih3 v4 i_v4 v5 i_v5 _ _ _ hE (lv_sub hl [1, 0] rfl) h
  exact hL4 FU 0 lit_0 p1 i_p1 _ _ _ hE (lv_sub hl [1, 0] rfl) h
set_option maxRecDepth 100000 in
set_option maxHeartbeats 4000000 in
theorem c_M_frontCost (l : Launch) (D : va_G) (g : Ad) {σ : St} {p1 r : Int} (i_p1 : in32 p1) (h : M_frontCost p1 = some r) : CtI l D g yX8_frontCost cX8_frontCost 3 (some .int) 2 (wM g σ) (wM g σ) [.int (I p1)] r (in32 r) := by
  intro sz
  refine met_of (by decide) (Nat.le_of_ble_eq_true rfl) (fun p e s m args below meth c ls H locs C0 hml hr hlk hE hl => ?_)
  have C0 : CX p c cX8_frontCost m s args D g RX8 := C0
  have hl : lv_has ls 3 [(0, .int (I p1))] := hl
  unfold M_frontCost at h
  refine lv_iconst (v := I 1) C0.1 C0.2.1 dX8_frontCost_0 rfl ?_
  refine lv_istore_n (lv' := [(1, .int (I 1)), (0, .int (I p1))]) C0.1 C0.2.1 dX8_frontCost_1 rfl hl (by decide) rfl (fun ls hl => ?_)
  refine lv_iload_n C0.1 C0.2.1 dX8_frontCost_2 rfl (lv_at hl 1 rfl) ?_
  refine lv_istore_n (lv' := [(2, .int (I p1)), (1, .int (I 1)), (0, .int (I p1))]) C0.1 C0.2.1 dX8_frontCost_3 rfl hl (by decide) rfl (fun ls hl => ?_)
  have hL4 : ∀ (n : Nat) (x1 : Int) (i_x1 : in32 x1) (x2 : Int) (i_x2 : in32 x2) (H : Heap) (locs : List Loc) (ls : Array Slot), EW D (va_A (wM g σ) sz) s.heap (wM g σ) H locs → lv_has ls 3 [(1, .int (I x1)), (2, .int (I x2))] → M_frontCost_L4 n x1 x2 = some r → W p l e (rmk 2) s m args below meth c H locs 0 0 (MQ below (QCi D (wM g σ) r (in32 r) (va_A (wM g σ) sz)) args s 0 0 (va_A (wM g σ) sz)) (F0 m 4 ls []) := by
    intro n
    induction n with
    | zero => intros; rename_i h; cases h
    | succ n ih3 =>
      intro x1 i_x1 x2 i_x2 H locs ls hE hl h
      unfold M_frontCost_L4 at h
      refine lv_iload_n C0.1 C0.2.1 dX8_frontCost_4 rfl (lv_at hl 1 rfl) ?_
      refine x_if_le C0 i_x2 dX8_frontCost_5 (tgt := 19) (by decide) (fun c9 => ?_) (fun c9 => ?_)
      · have h := ite_f c9 h
        refine lv_iload_n C0.1 C0.2.1 dX8_frontCost_19 rfl (lv_at hl 0 rfl) ?_
        exact pret_i C0 hr hlk hE h i_x1 dX8_frontCost_20
      · have h := ite_t c9 h
        obtain ⟨v4, e_v4, i_v4, h⟩ := oadd_s h
        refine x_iinc (lv' := [(1, .int (I v4)), (2, .int (I x2))]) C0 dX8_frontCost_8 hl (k := 0) rfl e_v4 (by decide) rfl (fun ls hl => ?_)
        refine lv_iload_n C0.1 C0.2.1 dX8_frontCost_11 rfl (lv_at hl 1 rfl) ?_
        obtain ⟨v5, h_v5, h⟩ := bndp_s h
        refine callS_i (rest := []) C0 hml hE (c_M_rightSize l D g (σ := σ) i_x2 h_v5) kw_X8_173 ⟨Nat.le_of_ble_eq_true rfl, Nat.le_of_ble_eq_true rfl⟩ rfl hl.1 rfl (Nat.le_of_ble_eq_true rfl) dX8_frontCost_12 ⟨Nat.zero_le _, Nat.zero_le _⟩ (fun H locs hE i_v5 => ?_)
        refine lv_istore_n (lv' := [(2, .int (I v5)), (1, .int (I v4))]) C0.1 C0.2.1 dX8_frontCost_15 rfl hl (by decide) rfl (fun ls hl => ?_)
        refine x_goto C0 dX8_frontCost_16 (tgt := 4) (by decide) ?_
        exact ih3 v4 i_v4 v5 i_v5 _ _ _ hE (lv_sub hl [1, 0] rfl) h
  exact hL4 FU 1 lit_1 p1 i_p1 _ _ _ hE (lv_sub hl [1, 0] rfl) h
set_option maxRecDepth 100000 in
set_option maxHeartbeats 4000000 in
theorem c_M_costs (l : Launch) (D : va_G) (g : Ad) {σ σr : St} {p1 p2 r : Int} (hR : R32 σ) (i_p1 : in32 p1) (i_p2 : in32 p2) (h : M_costs σ p1 p2 = some (r, σr)) : CtI l D g yX8_costs cX8_costs 4 (some .int) 28 (wM g σ) (wM g σr) [.ref (g.2 100), .int (I p1), .int (I p2)] r (in32 r ∧ R32 σr) := by
  intro sz
  refine met_of (by decide) (Nat.le_of_ble_eq_true rfl) (fun p e s m args below meth c ls H locs C0 hml hr hlk hE hl => ?_)
  have C0 : CX p c cX8_costs m s args D g RX8 := C0
  have hl : lv_has ls 4 [(0, .ref (g.2 100)), (1, .int (I p1)), (2, .int (I p2))] := hl
  unfold M_costs at h
  refine lv_aload_n C0.1 C0.2.1 dX8_costs_0 rfl (lv_at hl 0 rfl) ?_
  refine lv_iconst (v := I 0) C0.1 C0.2.1 dX8_costs_1 rfl ?_
  obtain ⟨s1, e_s1, hR, h⟩ := pf_s hR lit_0 h
  refine M_p_thrown C0 hE e_s1 fk_X8_55 dX8_costs_2 (fun H locs hE => ?_)
  refine lv_iload_n C0.1 C0.2.1 dX8_costs_5 rfl (lv_at hl 1 rfl) ?_
  refine x_i2l C0 i_p1 dX8_costs_6 ?_
  refine lv_lconst (v := J 0) C0.1 C0.2.1 dX8_costs_7 (by decide +kernel) ?_
  refine x_ldc2 (v := 255) C0 ck_X8_161 (by decide +kernel) dX8_costs_8 ?_
  obtain ⟨v2, h_v2, h⟩ := bndp_s h
  refine callS_i (rest := []) C0 hml hE (c_M_in l D g (σ := s1) (in64_of i_p1) (by decide) (by decide) h_v2) kw_X8_65 ⟨Nat.le_of_ble_eq_true rfl, Nat.le_of_ble_eq_true rfl⟩ rfl hl.1 rfl (Nat.le_of_ble_eq_true rfl) dX8_costs_11 ⟨Nat.zero_le _, Nat.zero_le _⟩ (fun H locs hE i_v2 => ?_)
  refine x_if_eq C0 i_v2 dX8_costs_14 (tgt := 29) (by decide) (fun c9 => ?_) (fun c9 => ?_)
  · have h := ite_t c9 h
    refine lv_iconst (v := I (-1)) C0.1 C0.2.1 dX8_costs_29 rfl ?_
    exact ret_i (wf := wM g) C0 hr hlk hE h lit_m1 hR dX8_costs_30
  · have h := ite_f c9 h
    refine lv_iload_n C0.1 C0.2.1 dX8_costs_17 rfl (lv_at hl 2 rfl) ?_
    refine x_i2l C0 i_p2 dX8_costs_18 ?_
    refine lv_lconst (v := J 0) C0.1 C0.2.1 dX8_costs_19 (by decide +kernel) ?_
    refine x_ldc2 (v := 5) C0 ck_X8_69 (by decide +kernel) dX8_costs_20 ?_
    obtain ⟨v3, h_v3, h⟩ := bndp_s h
    refine callS_i (rest := []) C0 hml hE (c_M_in l D g (σ := s1) (in64_of i_p2) (by decide) (by decide) h_v3) kw_X8_65 ⟨Nat.le_of_ble_eq_true rfl, Nat.le_of_ble_eq_true rfl⟩ rfl hl.1 rfl (Nat.le_of_ble_eq_true rfl) dX8_costs_23 ⟨Nat.zero_le _, Nat.zero_le _⟩ (fun H locs hE i_v3 => ?_)
    refine x_if_ne C0 i_v3 dX8_costs_26 (tgt := 31) (by decide) (fun c9 => ?_) (fun c9 => ?_)
    · have h := ite_f c9 h
      refine lv_iload_n C0.1 C0.2.1 dX8_costs_31 rfl (lv_at hl 2 rfl) ?_
      obtain ⟨k5, e_k5, h⟩ := jn_s h
      have h_k5 : ∀ (x4 : Int) (i_x4 : in32 x4) (H : Heap) (locs : List Loc) (ls : Array Slot), EW D (va_A (wM g σ) sz) s.heap (wM g s1) H locs → lv_has ls 4 [(0, .ref (g.2 100)), (1, .int (I p1)), (2, .int (I p2))] → k5 x4 = some (r, σr) → W p l e (rmk 28) s m args below meth c H locs 0 0 (MQ below (QCi D (wM g σr) r (in32 r ∧ R32 σr) (va_A (wM g σ) sz)) args s 0 0 (va_A (wM g σ) sz)) (F0 m 50 ls [.int (I x4)]) := by
        intro x4 i_x4 H locs ls hE hl h
        have h := (congrFun e_k5 x4).symm.trans h
        refine lv_istore_n (lv' := [(3, .int (I x4)), (0, .ref (g.2 100)), (1, .int (I p1)), (2, .int (I p2))]) C0.1 C0.2.1 dX8_costs_50 rfl hl (by decide) rfl (fun ls hl => ?_)
        refine lv_iload_n C0.1 C0.2.1 dX8_costs_51 rfl (lv_at hl 2 rfl) ?_
        obtain ⟨k6, e_k6, h⟩ := jn_s h
        have h_k6 : ∀ (H : Heap) (locs : List Loc) (ls : Array Slot), EW D (va_A (wM g σ) sz) s.heap (wM g s1) H locs → lv_has ls 4 [(0, .ref (g.2 100)), (1, .int (I p1)), (2, .int (I p2)), (3, .int (I x4))] → k6 = some (r, σr) → W p l e (rmk 28) s m args below meth c H locs 0 0 (MQ below (QCi D (wM g σr) r (in32 r ∧ R32 σr) (va_A (wM g σ) sz)) args s 0 0 (va_A (wM g σ) sz)) (F0 m 65 ls []) := by
          intro H locs ls hE hl h
          have h := e_k6.symm.trans h
          refine lv_iload_n C0.1 C0.2.1 dX8_costs_65 rfl (lv_at hl 1 rfl) ?_
          refine lv_sipush (v := I 255) C0.1 C0.2.1 dX8_costs_66 (by decide +kernel) ?_
          obtain ⟨k7, e_k7, h⟩ := jn_s h
          have h_k7 : ∀ (H : Heap) (locs : List Loc) (ls : Array Slot), EW D (va_A (wM g σ) sz) s.heap (wM g s1) H locs → lv_has ls 4 [(0, .ref (g.2 100)), (1, .int (I p1)), (2, .int (I p2))] → k7 = some (r, σr) → W p l e (rmk 28) s m args below meth c H locs 0 0 (MQ below (QCi D (wM g σr) r (in32 r ∧ R32 σr) (va_A (wM g σ) sz)) args s 0 0 (va_A (wM g σ) sz)) (F0 m 79 ls []) := by
            intro H locs ls hE hl h
            have h := e_k7.symm.trans h
            refine lv_iload_n C0.1 C0.2.1 dX8_costs_79 rfl (lv_at hl 2 rfl) ?_
            obtain ⟨k8, e_k8, h⟩ := jn_s h
            have h_k8 : ∀ (H : Heap) (locs : List Loc) (ls : Array Slot), EW D (va_A (wM g σ) sz) s.heap (wM g s1) H locs → lv_has ls 4 [(1, .int (I p1))] → k8 = some (r, σr) → W p l e (rmk 28) s m args below meth c H locs 0 0 (MQ below (QCi D (wM g σr) r (in32 r ∧ R32 σr) (va_A (wM g σ) sz)) args s 0 0 (va_A (wM g σ) sz)) (F0 m 88 ls []) := by
              intro H locs ls hE hl h
              have h := e_k8.symm.trans h
              refine lv_iload_n C0.1 C0.2.1 dX8_costs_88 rfl (lv_at hl 0 rfl) ?_
              obtain ⟨v9, h_v9, h⟩ := bndp_s h
              refine callS_i (rest := []) C0 hml hE (c_M_frontCost l D g (σ := s1) i_p1 h_v9) kw_X8_302 ⟨Nat.le_of_ble_eq_true rfl, Nat.le_of_ble_eq_true rfl⟩ rfl hl.1 rfl (Nat.le_of_ble_eq_true rfl) dX8_costs_89 ⟨Nat.zero_le _, Nat.zero_le _⟩ (fun H locs hE i_v9 => ?_)
              exact ret_i (wf := wM g) C0 hr hlk hE h i_v9 hR dX8_costs_92
            refine x_if_eq C0 i_p2 dX8_costs_80 (tgt := 88) (by decide) (fun c9 => ?_) (fun c9 => ?_)
            · have h := ite_t c9 h
              exact h_k8 _ _ _ hE (lv_sub hl [1] rfl) h
            · have h := ite_f c9 h
              refine lv_iload_n C0.1 C0.2.1 dX8_costs_83 rfl (lv_at hl 2 rfl) ?_
              refine lv_iconst (v := I 4) C0.1 C0.2.1 dX8_costs_84 rfl ?_
              refine x_icmp_ne C0 i_p2 lit_4 dX8_costs_85 (tgt := 93) (by decide) (fun c9 => ?_) (fun c9 => ?_)
              · have h := ite_f c9 h
                refine lv_iload_n C0.1 C0.2.1 dX8_costs_93 rfl (lv_at hl 2 rfl) ?_
                refine lv_iconst (v := I 2) C0.1 C0.2.1 dX8_costs_94 rfl ?_
                refine x_icmp_ne C0 i_p2 lit_2 dX8_costs_95 (tgt := 103) (by decide) (fun c9 => ?_) (fun c9 => ?_)
                · have h := ite_f c9 h
                  refine lv_iload_n C0.1 C0.2.1 dX8_costs_103 rfl (lv_at hl 2 rfl) ?_
                  refine lv_iconst (v := I 5) C0.1 C0.2.1 dX8_costs_104 rfl ?_
                  refine x_icmp_ne C0 i_p2 lit_5 dX8_costs_105 (tgt := 123) (by decide) (fun c9 => ?_) (fun c9 => ?_)
                  · have h := ite_f c9 h
                    refine lv_aload_n C0.1 C0.2.1 dX8_costs_123 rfl (lv_at hl 0 rfl) ?_
                    refine lv_iload_n C0.1 C0.2.1 dX8_costs_124 rfl (lv_at hl 2 rfl) ?_
                    refine lv_iconst (v := I 1) C0.1 C0.2.1 dX8_costs_125 rfl ?_
                    obtain ⟨v10, e_v10, i_v10, h⟩ := oif_s h
                    have kk_v10 : W p l e (rmk 28) s m args below meth c H locs 0 0 (MQ below (QCi D (wM g σr) r (in32 r ∧ R32 σr) (va_A (wM g σ) sz)) args s 0 0 (va_A (wM g σ) sz)) (F0 m 136 ls [.int (I v10), .ref (g.2 100)]) := by
                      obtain ⟨v11, s12, h_v11, h⟩ := bnd_s h
                      refine callV_v (rest := []) C0 hml hE (M_rec C0 hE) (c_M_laysWay l D g hR i_v10 h_v11) kw_X8_95 ⟨Nat.le_of_ble_eq_true rfl, Nat.le_of_ble_eq_true rfl⟩ rfl hl.1 rfl (Nat.le_of_ble_eq_true rfl) dX8_costs_136 ⟨Nat.zero_le _, Nat.zero_le _⟩ (fun H locs hE hR => ?_)
                      refine lv_iload_n C0.1 C0.2.1 dX8_costs_139 rfl (lv_at hl 2 rfl) ?_
                      refine lv_iconst (v := I 1) C0.1 C0.2.1 dX8_costs_140 rfl ?_
                      refine x_icmp_ne C0 i_p2 lit_1 dX8_costs_141 (tgt := 151) (by decide) (fun c9 => ?_) (fun c9 => ?_)
                      · have h := ite_f c9 h
                        refine lv_aload_n C0.1 C0.2.1 dX8_costs_151 rfl (lv_at hl 0 rfl) ?_
                        obtain ⟨v13, e_v13, i_v13, h⟩ := gf_s hR h
                        refine M_g_wayMany C0 hE e_v13 fk_X8_89 dX8_costs_152 ?_
                        refine lv_iconst (v := I 1) C0.1 C0.2.1 dX8_costs_155 rfl ?_
                        obtain ⟨v14, e_v14, i_v14, h⟩ := osub_s h
                        refine x_sub C0 e_v14 dX8_costs_156 ?_
                        exact ret_i (wf := wM g) C0 hr hlk hE h i_v14 hR dX8_costs_157
                      · have h := ite_t c9 h
                        refine lv_aload_n C0.1 C0.2.1 dX8_costs_144 rfl (lv_at hl 0 rfl) ?_
                        obtain ⟨v15, e_v15, i_v15, h⟩ := gf_s hR h
                        refine M_g_wayMany C0 hE e_v15 fk_X8_89 dX8_costs_145 ?_
                        refine x_goto C0 dX8_costs_148 (tgt := 157) (by decide) ?_
                        exact ret_i (wf := wM g) C0 hr hlk hE h i_v15 hR dX8_costs_157
                    refine x_icmp_ne C0 i_p2 lit_1 dX8_costs_126 (tgt := 133) (by decide) (fun c9 => ?_) (fun c9 => ?_)
                    · have e9 := e_v10.trans (if_neg c9)
                      refine lv_iload_n C0.1 C0.2.1 dX8_costs_133 rfl (lv_at hl 1 rfl) ?_
                      refine lv_iconst (v := I 1) C0.1 C0.2.1 dX8_costs_134 rfl ?_
                      refine x_sub (v := p1 - 1) C0 rfl dX8_costs_135 ?_
                      rw [e9] at kk_v10; exact kk_v10
                    · have e9 := e_v10.trans (if_pos c9)
                      refine lv_iload_n C0.1 C0.2.1 dX8_costs_129 rfl (lv_at hl 1 rfl) ?_
                      refine x_goto C0 dX8_costs_130 (tgt := 136) (by decide) ?_
                      rw [e9] at kk_v10; exact kk_v10
                  · have h := ite_t c9 h
                    refine lv_aload_n C0.1 C0.2.1 dX8_costs_108 rfl (lv_at hl 0 rfl) ?_
                    refine lv_iconst (v := I 0) C0.1 C0.2.1 dX8_costs_109 rfl ?_
                    obtain ⟨s16, e_s16, hR, h⟩ := pf_s hR lit_0 h
                    refine M_p_steps C0 hE e_s16 fk_X8_179 dX8_costs_110 (fun H locs hE => ?_)
                    refine lv_aload_n C0.1 C0.2.1 dX8_costs_113 rfl (lv_at hl 0 rfl) ?_
                    refine lv_iload_n C0.1 C0.2.1 dX8_costs_114 rfl (lv_at hl 1 rfl) ?_
                    obtain ⟨v17, s18, h_v17, h⟩ := bnd_s h
                    refine callV_v (rest := []) C0 hml hE (M_rec C0 hE) (c_M_counts l D g RD hR i_p1 h_v17) kw_X8_185 ⟨Nat.le_of_ble_eq_true rfl, Nat.le_of_ble_eq_true rfl⟩ rfl hl.1 rfl (Nat.le_of_ble_eq_true rfl) dX8_costs_115 ⟨Nat.zero_le _, Nat.zero_le _⟩ (fun H locs hE hR => ?_)
                    refine lv_aload_n C0.1 C0.2.1 dX8_costs_118 rfl (lv_at hl 0 rfl) ?_
                    obtain ⟨v19, e_v19, i_v19, h⟩ := gf_s hR h
                    refine M_g_steps C0 hE e_v19 fk_X8_179 dX8_costs_119 ?_
                    exact ret_i (wf := wM g) C0 hr hlk hE h i_v19 hR dX8_costs_122
                · have h := ite_t c9 h
                  refine lv_iload_n C0.1 C0.2.1 dX8_costs_98 rfl (lv_at hl 1 rfl) ?_
                  obtain ⟨v20, h_v20, h⟩ := bndp_s h
                  refine callS_i (rest := []) C0 hml hE (c_M_firstCost l D g (σ := s1) i_p1 h_v20) kw_X8_305 ⟨Nat.le_of_ble_eq_true rfl, Nat.le_of_ble_eq_true rfl⟩ rfl hl.1 rfl (Nat.le_of_ble_eq_true rfl) dX8_costs_99 ⟨Nat.zero_le _, Nat.zero_le _⟩ (fun H locs hE i_v20 => ?_)
                  exact ret_i (wf := wM g) C0 hr hlk hE h i_v20 hR dX8_costs_102
              · have h := ite_t c9 h
                exact h_k8 _ _ _ hE (lv_sub hl [1] rfl) h
          refine x_icmp_ne C0 i_p1 lit_255 dX8_costs_69 (tgt := 79) (by decide) (fun c9 => ?_) (fun c9 => ?_)
          · have h := ite_f c9 h
            exact h_k7 _ _ _ hE (lv_sub hl [0, 1, 2] rfl) h
          · have h := ite_t c9 h
            refine lv_iload_n C0.1 C0.2.1 dX8_costs_72 rfl (lv_at hl 3 rfl) ?_
            refine x_if_eq C0 i_x4 dX8_costs_73 (tgt := 79) (by decide) (fun c9 => ?_) (fun c9 => ?_)
            · have h := ite_t c9 h
              exact h_k7 _ _ _ hE (lv_sub hl [0, 1, 2] rfl) h
            · have h := ite_f c9 h
              refine lv_bipush (v := I (-2)) C0.1 C0.2.1 dX8_costs_76 (by decide +kernel) ?_
              exact ret_i (wf := wM g) C0 hr hlk hE h lit_m2 hR dX8_costs_78
        refine x_if_ne C0 i_p1 dX8_costs_52 (tgt := 65) (by decide) (fun c9 => ?_) (fun c9 => ?_)
        · have h := ite_f c9 h
          exact h_k6 _ _ _ hE (lv_sub hl [1, 2, 3, 0] rfl) h
        · have h := ite_t c9 h
          refine lv_iload_n C0.1 C0.2.1 dX8_costs_55 rfl (lv_at hl 3 rfl) ?_
          refine lv_iconst (v := I 2) C0.1 C0.2.1 dX8_costs_56 rfl ?_
          refine x_icmp_eq C0 i_p2 lit_2 dX8_costs_57 (tgt := 76) (by decide) (fun c9 => ?_) (fun c9 => ?_)
          · have h := ite_t c9 h
            refine lv_bipush (v := I (-2)) C0.1 C0.2.1 dX8_costs_76 (by decide +kernel) ?_
            exact ret_i (wf := wM g) C0 hr hlk hE h lit_m2 hR dX8_costs_78
          · have h := ite_f c9 h
            refine lv_iload_n C0.1 C0.2.1 dX8_costs_60 rfl (lv_at hl 3 rfl) ?_
            refine lv_iconst (v := I 3) C0.1 C0.2.1 dX8_costs_61 rfl ?_
            refine x_icmp_eq C0 i_p2 lit_3 dX8_costs_62 (tgt := 76) (by decide) (fun c9 => ?_) (fun c9 => ?_)
            · have h := ite_t c9 h
              refine lv_bipush (v := I (-2)) C0.1 C0.2.1 dX8_costs_76 (by decide +kernel) ?_
              exact ret_i (wf := wM g) C0 hr hlk hE h lit_m2 hR dX8_costs_78
            · have h := ite_f c9 h
              exact h_k6 _ _ _ hE (lv_sub hl [1, 2, 3, 0] rfl) h
      obtain ⟨k21, e_k21, h⟩ := jn_s h
      have h_k21 : ∀ (H : Heap) (locs : List Loc) (ls : Array Slot), EW D (va_A (wM g σ) sz) s.heap (wM g s1) H locs → lv_has ls 4 [(0, .ref (g.2 100)), (1, .int (I p1)), (2, .int (I p2))] → k21 = some (r, σr) → W p l e (rmk 28) s m args below meth c H locs 0 0 (MQ below (QCi D (wM g σr) r (in32 r ∧ R32 σr) (va_A (wM g σ) sz)) args s 0 0 (va_A (wM g σ) sz)) (F0 m 45 ls []) := by
        intro H locs ls hE hl h
        have h := e_k21.symm.trans h
        refine lv_iconst (v := I 1) C0.1 C0.2.1 dX8_costs_45 rfl ?_
        refine x_goto C0 dX8_costs_46 (tgt := 50) (by decide) ?_
        exact h_k5 1 lit_1 _ _ _ hE (lv_sub hl [0, 1, 2] rfl) h
      refine x_if_eq C0 i_p2 dX8_costs_32 (tgt := 45) (by decide) (fun c9 => ?_) (fun c9 => ?_)
      · have h := ite_t c9 h
        exact h_k21 _ _ _ hE (lv_sub hl [0, 1, 2] rfl) h
      · have h := ite_f c9 h
        refine lv_iload_n C0.1 C0.2.1 dX8_costs_35 rfl (lv_at hl 2 rfl) ?_
        refine lv_iconst (v := I 1) C0.1 C0.2.1 dX8_costs_36 rfl ?_
        refine x_icmp_eq C0 i_p2 lit_1 dX8_costs_37 (tgt := 45) (by decide) (fun c9 => ?_) (fun c9 => ?_)
        · have h := ite_t c9 h
          exact h_k21 _ _ _ hE (lv_sub hl [0, 1, 2] rfl) h
        · have h := ite_f c9 h
          refine lv_iload_n C0.1 C0.2.1 dX8_costs_40 rfl (lv_at hl 2 rfl) ?_
          refine lv_iconst (v := I 4) C0.1 C0.2.1 dX8_costs_41 rfl ?_
          refine x_icmp_ne C0 i_p2 lit_4 dX8_costs_42 (tgt := 49) (by decide) (fun c9 => ?_) (fun c9 => ?_)
          · have h := ite_f c9 h
            refine lv_iconst (v := I 0) C0.1 C0.2.1 dX8_costs_49 rfl ?_
            exact h_k5 0 lit_0 _ _ _ hE (lv_sub hl [0, 1, 2] rfl) h
          · have h := ite_t c9 h
            exact h_k21 _ _ _ hE (lv_sub hl [0, 1, 2] rfl) h
    · have h := ite_t c9 h
      refine lv_iconst (v := I (-1)) C0.1 C0.2.1 dX8_costs_29 rfl ?_
      exact ret_i (wf := wM g) C0 hr hlk hE h lit_m1 hR dX8_costs_30

-- THE LAW's WALK, written by program
theorem lit_12 : in32 (12) := by decide
theorem lit_15 : in32 (15) := by decide
theorem lit_27 : in32 (27) := by decide
theorem lit_64 : in32 (64) := by decide
theorem lit_1999 : in32 (1999) := by decide
theorem lit_2047 : in32 (2047) := by decide
set_option maxRecDepth 100000 in
set_option maxHeartbeats 4000000 in
theorem c_L_is (l : Launch) (D : va_G) (g : Ad) {σ μ σr : St} {p2 q p4 r : Int} (hR : R32 σ) (hM : R32 μ) (i_p2 : in32 p2) (b_q : 0 ≤ q ∧ q < 6) (i_p4 : in32 p4) (h : L_is σ μ p2 q p4 = some (r, σr)) : CtI l D g yL_is cL_is 5 (some .boolean) 6 (wP g σ μ) (wP g σr μ) [.ref (g.2 0), .int (I p2), .ref (g.2 (51 + q.toNat)), .int (I p4)] r (in32 r ∧ R32 σr) := by
  intro sz
  refine met_of (by decide) (Nat.le_of_ble_eq_true rfl) (fun p e s m args below meth c ls H locs C0 hml hr hlk hE hl => ?_)
  have C0 : CX p c cL_is m s args D g RL := C0
  have hl : lv_has ls 5 [(0, .ref (g.2 0)), (1, .int (I p2)), (2, .ref (g.2 (51 + q.toNat))), (3, .int (I p4))] := hl
  unfold L_is at h
  refine lv_aload_n C0.1 C0.2.1 dL_is_0 rfl (lv_at hl 0 rfl) ?_
  refine lv_iload_n C0.1 C0.2.1 dL_is_1 rfl (lv_at hl 1 rfl) ?_
  obtain ⟨v1, s2, h_v1, h⟩ := bnd_s h
  refine lawP_i (rest := []) (σ' := s2) C0 hml hE (c_E_size l D g hR i_p2 h_v1) kw_L_7 ⟨Nat.le_of_ble_eq_true rfl, Nat.le_of_ble_eq_true rfl⟩ rfl hl.1 rfl (Nat.le_of_ble_eq_true rfl) dL_is_2 ⟨Nat.zero_le _, Nat.zero_le _⟩ (fun H locs hE ⟨i_v1, hR⟩ => ?_)
  refine lv_iload_n C0.1 C0.2.1 dL_is_5 rfl (lv_at hl 3 rfl) ?_
  refine x_icmp_eq C0 i_v1 i_p4 dL_is_6 (tgt := 11) (by decide) (fun c9 => ?_) (fun c9 => ?_)
  · have h := ite_t c9 h
    refine lv_iconst (v := I 0) C0.1 C0.2.1 dL_is_11 rfl ?_
    refine lv_istore (lv' := [(4, .int (I 0)), (0, .ref (g.2 0)), (1, .int (I p2)), (2, .ref (g.2 (51 + q.toNat))), (3, .int (I p4))]) C0.1 C0.2.1 dL_is_12 hl (by decide) rfl (fun ls hl => ?_)
    obtain ⟨k3, e_k3, h⟩ := jn_s h
    have h_k3 : ∀ (H : Heap) (locs : List Loc) (ls : Array Slot), EW D (va_A (wP g σ μ) sz) s.heap (wP g s2 μ) H locs → lv_has ls 5 [(0, .ref (g.2 0)), (1, .int (I p2)), (3, .int (I p4))] → k3 = some (r, σr) → W p l e (rmk 6) s m args below meth c H locs 0 0 (MQ below (QCi D (wP g σr μ) r (in32 r ∧ R32 σr) (va_A (wP g σ μ) sz)) args s 0 0 (va_A (wP g σ μ) sz)) (F0 m 42 ls []) := by
      intro H locs ls hE hl h
      have h := e_k3.symm.trans h
      refine lv_aload_n C0.1 C0.2.1 dL_is_42 rfl (lv_at hl 0 rfl) ?_
      refine lv_iload_n C0.1 C0.2.1 dL_is_43 rfl (lv_at hl 1 rfl) ?_
      refine lv_iload_n C0.1 C0.2.1 dL_is_44 rfl (lv_at hl 2 rfl) ?_
      obtain ⟨v4, h_v4, h⟩ := bndp_s h
      refine lawP_i (rest := []) (σ' := s2) C0 hml hE (c_E_get l D g hR i_p2 i_p4 h_v4) kw_L_13 ⟨Nat.le_of_ble_eq_true rfl, Nat.le_of_ble_eq_true rfl⟩ rfl hl.1 rfl (Nat.le_of_ble_eq_true rfl) dL_is_45 ⟨Nat.zero_le _, Nat.zero_le _⟩ (fun H locs hE i_v4 => ?_)
      refine lv_sipush (v := I (-1000)) C0.1 C0.2.1 dL_is_48 (by decide +kernel) ?_
      refine x_icmp_ne C0 i_v4 lit_m1000 dL_is_51 (tgt := 67) (by decide) (fun c9 => ?_) (fun c9 => ?_)
      · have h := ite_f c9 h
        refine lv_iconst (v := I 0) C0.1 C0.2.1 dL_is_67 rfl ?_
        exact ret_z (wf := fun σ9 => wP g σ9 μ) C0 hr hlk hE (Or.inl rfl) h hR dL_is_68
      · have h := ite_t c9 h
        refine lv_aload_n C0.1 C0.2.1 dL_is_54 rfl (lv_at hl 0 rfl) ?_
        refine lv_iload_n C0.1 C0.2.1 dL_is_55 rfl (lv_at hl 1 rfl) ?_
        obtain ⟨v5, s6, h_v5, h⟩ := bnd_s h
        refine lawP_i (rest := []) (σ' := s6) C0 hml hE (c_E_own l D g hR i_p2 h_v5) kw_L_17 ⟨Nat.le_of_ble_eq_true rfl, Nat.le_of_ble_eq_true rfl⟩ rfl hl.1 rfl (Nat.le_of_ble_eq_true rfl) dL_is_56 ⟨Nat.zero_le _, Nat.zero_le _⟩ (fun H locs hE ⟨i_v5, hR⟩ => ?_)
        refine lv_iload_n C0.1 C0.2.1 dL_is_59 rfl (lv_at hl 2 rfl) ?_
        refine x_icmp_gt C0 i_v5 i_p4 dL_is_60 (tgt := 67) (by decide) (fun c9 => ?_) (fun c9 => ?_)
        · have h := ite_t c9 h
          refine lv_iconst (v := I 0) C0.1 C0.2.1 dL_is_67 rfl ?_
          exact ret_z (wf := fun σ9 => wP g σ9 μ) C0 hr hlk hE (Or.inl rfl) h hR dL_is_68
        · have h := ite_f c9 h
          refine lv_iconst (v := I 1) C0.1 C0.2.1 dL_is_63 rfl ?_
          refine x_goto C0 dL_is_64 (tgt := 68) (by decide) ?_
          exact ret_z (wf := fun σ9 => wP g σ9 μ) C0 hr hlk hE (Or.inr rfl) h hR dL_is_68
    have hL14 : ∀ (n : Nat) (x7 : Int) (i_x7 : in32 x7) (H : Heap) (locs : List Loc) (ls : Array Slot), EW D (va_A (wP g σ μ) sz) s.heap (wP g s2 μ) H locs → lv_has ls 5 [(0, .ref (g.2 0)), (1, .int (I p2)), (2, .ref (g.2 (51 + q.toNat))), (3, .int (I p4)), (4, .int (I x7))] → L_is_L14 k3 s2 μ p2 p4 q n x7 = some (r, σr) → W p l e (rmk 6) s m args below meth c H locs 0 0 (MQ below (QCi D (wP g σr μ) r (in32 r ∧ R32 σr) (va_A (wP g σ μ) sz)) args s 0 0 (va_A (wP g σ μ) sz)) (F0 m 14 ls []) := by
      intro n
      induction n with
      | zero => intros; rename_i h; cases h
      | succ n ih8 =>
        intro x7 i_x7 H locs ls hE hl h
        unfold L_is_L14 at h
        refine lv_iload C0.1 C0.2.1 dL_is_14 (lv_at hl 4 rfl) ?_
        refine lv_iload_n C0.1 C0.2.1 dL_is_16 rfl (lv_at hl 3 rfl) ?_
        refine x_icmp_ge C0 i_x7 i_p4 dL_is_17 (tgt := 42) (by decide) (fun c9 => ?_) (fun c9 => ?_)
        · have h := ite_f c9 h
          exact h_k3 _ _ _ hE (lv_sub hl [0, 1, 3] rfl) h
        · have h := ite_t c9 h
          refine lv_aload_n C0.1 C0.2.1 dL_is_20 rfl (lv_at hl 0 rfl) ?_
          refine lv_iload_n C0.1 C0.2.1 dL_is_21 rfl (lv_at hl 1 rfl) ?_
          refine lv_iload C0.1 C0.2.1 dL_is_22 (lv_at hl 4 rfl) ?_
          obtain ⟨v9, h_v9, h⟩ := bndp_s h
          refine lawP_i (rest := []) (σ' := s2) C0 hml hE (c_E_get l D g hR i_p2 i_x7 h_v9) kw_L_13 ⟨Nat.le_of_ble_eq_true rfl, Nat.le_of_ble_eq_true rfl⟩ rfl hl.1 rfl (Nat.le_of_ble_eq_true rfl) dL_is_24 ⟨Nat.zero_le _, Nat.zero_le _⟩ (fun H locs hE i_v9 => ?_)
          refine lv_aload_n C0.1 C0.2.1 dL_is_27 rfl (lv_at hl 2 rfl) ?_
          refine lv_iload C0.1 C0.2.1 dL_is_28 (lv_at hl 4 rfl) ?_
          obtain ⟨v10, e_v10, i_v10, h⟩ := rdA_s hM h
          refine rowP_l C0 hE b_q i_x7 e_v10 dL_is_30 ?_
          refine x_icmp_eq C0 i_v9 i_v10 dL_is_31 (tgt := 36) (by decide) (fun c9 => ?_) (fun c9 => ?_)
          · have h := ite_t c9 h
            obtain ⟨v11, e_v11, i_v11, h⟩ := oadd_s h
            refine x_iinc (lv' := [(4, .int (I v11)), (0, .ref (g.2 0)), (1, .int (I p2)), (2, .ref (g.2 (51 + q.toNat))), (3, .int (I p4))]) C0 dL_is_36 hl (k := 4) rfl e_v11 (by decide) rfl (fun ls hl => ?_)
            refine x_goto C0 dL_is_39 (tgt := 14) (by decide) ?_
            exact ih8 v11 i_v11 _ _ _ hE (lv_sub hl [1, 2, 3, 4, 0] rfl) h
          · have h := ite_f c9 h
            refine lv_iconst (v := I 0) C0.1 C0.2.1 dL_is_34 rfl ?_
            exact ret_z (wf := fun σ9 => wP g σ9 μ) C0 hr hlk hE (Or.inl rfl) h hR dL_is_35
    exact hL14 FU 0 lit_0 _ _ _ hE (lv_sub hl [1, 2, 3, 4, 0] rfl) h
  · have h := ite_f c9 h
    refine lv_iconst (v := I 0) C0.1 C0.2.1 dL_is_9 rfl ?_
    exact ret_z (wf := fun σ9 => wP g σ9 μ) C0 hr hlk hE (Or.inl rfl) h hR dL_is_10
set_option maxRecDepth 100000 in
set_option maxHeartbeats 8000000 in
theorem c_L_tail {p : Program} {l : Launch} {e : Env} {s : State} {m : MethodId} {below : List Frame} {meth : Method} {c : Code} {Q : State → Prop} {D : va_G} {g : Ad} {b L : Nat} {xs : Nat → Int32} {σ μ σr μr : St} {l8 m15 k : Int} (hC : LC p s m meth c b L xs D g) (hR : R32 σ) (hM : R32 μ) (i_k : in32 k) (i_l8 : in32 l8) (i_m15 : in32 m15) {H : Heap} {locs : List Loc} {cells slots : Nat} {ls : Array Slot} (hc : cells ≤ room_1.cells ∧ slots ≤ room_1.slots) (hE : EW D (aL s) s.heap (wP g σ μ) H locs) (hl : lv_has ls 20 [(0, .ref b), (1, .ref (g.2 0)), (2, .ref (g.2 46)), (3, .ref (g.2 47)), (4, .int (I k)), (8, .int (I l8)), (15, .int (I m15))]) (h : L_tail σ μ l8 m15 = some (σr, μr))
    (next : ∀ (g1 : Ad) (σ1 μ1 : St) (H : Heap) (locs : List Loc) (ls : Array Slot), g1.1 = g.1 → some (σ1, μ1) = some (σr, μr) → R32 σ1 → R32 μ1 → EW D (aL s) s.heap (wP g1 σ1 μ1) H locs → lv_has ls 20 (lvH g1 b k) → W p l e room_1 s m #[Value.ref b] below meth c H locs cells slots Q (F0 m 1401 ls [])) : W p l e room_1 s m #[Value.ref b] below meth c H locs cells slots Q (F0 m 1299 ls []) := by
  have C0 := hC.1
  have hml := hC.2.1
  have hK3 := hC.2.2.2.2.2.2.1
  unfold L_tail at h
  refine lv_aload_n C0.1 C0.2.1 dL_law_1299 rfl (lv_at hl 3 rfl) ?_
  refine lv_iload C0.1 C0.2.1 dL_law_1300 (lv_at hl 5 rfl) ?_
  refine lv_iload C0.1 C0.2.1 dL_law_1302 (lv_at hl 6 rfl) ?_
  obtain ⟨m1, e_m1, hM, h⟩ := wr_s hM i_m15 h
  refine nP_st C0 hE i_l8 e_m1 dL_law_1304 (fun H locs hE => ?_)
  refine lv_iconst (v := I 0) C0.1 C0.2.1 dL_law_1305 rfl ?_
  refine lv_istore (lv' := [(17, .int (I 0)), (0, .ref b), (1, .ref (g.2 0)), (2, .ref (g.2 46)), (3, .ref (g.2 47)), (4, .int (I k)), (8, .int (I l8)), (15, .int (I m15))]) C0.1 C0.2.1 dL_law_1306 hl (by decide) rfl (fun ls hl => ?_)
  refine lv_iconst (v := I 0) C0.1 C0.2.1 dL_law_1308 rfl ?_
  refine lv_istore (lv' := [(18, .int (I 0)), (17, .int (I 0)), (0, .ref b), (1, .ref (g.2 0)), (2, .ref (g.2 46)), (3, .ref (g.2 47)), (4, .int (I k)), (8, .int (I l8)), (15, .int (I m15))]) C0.1 C0.2.1 dL_law_1309 hl (by decide) rfl (fun ls hl => ?_)
  obtain ⟨k5, e_k5, h⟩ := jn_s h
  have h_k5 : ∀ (s2 : St) (hR : R32 s2) (m3 : St) (hM : R32 m3) (x4 : Int) (i_x4 : in32 x4) (H : Heap) (locs : List Loc) (ls : Array Slot), EW D (aL s) s.heap (wP g s2 m3) H locs → lv_has ls 20 [(0, .ref b), (1, .ref (g.2 0)), (2, .ref (g.2 46)), (3, .ref (g.2 47)), (4, .int (I k)), (8, .int (I l8)), (17, .int (I x4))] → k5 s2 m3 x4 = some (σr, μr) → W p l e room_1 s m #[Value.ref b] below meth c H locs cells slots Q (F0 m 1352 ls []) := by
    intro s2 hR m3 hM x4 i_x4 H locs ls hE hl h
    have h := (congrFun (congrFun (congrFun e_k5 s2) m3) x4).symm.trans h
    refine lv_aload_n C0.1 C0.2.1 dL_law_1352 rfl (lv_at hl 1 rfl) ?_
    obtain ⟨v6, s7, h_v6, h⟩ := bnd_s h
    refine lawP_i (rest := []) (σ' := s7) C0 hml hE (c_E_nodes l D g hR h_v6) kw_L_99 ⟨Nat.le_of_ble_eq_true rfl, Nat.le_of_ble_eq_true rfl⟩ rfl hl.1 rfl (Nat.le_of_ble_eq_true rfl) dL_law_1353 hc (fun H locs hE ⟨i_v6, hR⟩ => ?_)
    refine lv_iload C0.1 C0.2.1 dL_law_1356 (lv_at hl 6 rfl) ?_
    refine x_icmp_gt C0 i_v6 i_x4 dL_law_1358 (tgt := 1399) (by decide) (fun c9 => ?_) (fun c9 => ?_)
    · have h := ite_t c9 h
      refine lv_iconst (v := I 0) C0.1 C0.2.1 dL_law_1399 rfl ?_
      cases h
    · have h := ite_f c9 h
      refine lv_aload_n C0.1 C0.2.1 dL_law_1361 rfl (lv_at hl 1 rfl) ?_
      refine lv_iconst (v := I 1) C0.1 C0.2.1 dL_law_1362 rfl ?_
      obtain ⟨v8, h_v8, h⟩ := bndp_s h
      refine lawP_l (rest := []) (σ' := s7) C0 hml hE (c_E_row l D g hR lit_1 h_v8) kw_L_42 ⟨Nat.le_of_ble_eq_true rfl, Nat.le_of_ble_eq_true rfl⟩ rfl hl.1 rfl (Nat.le_of_ble_eq_true rfl) dL_law_1363 hc (fun H locs hE i_v8 => ?_)
      refine lv_iload C0.1 C0.2.1 dL_law_1366 (lv_at hl 6 rfl) ?_
      refine x_i2l C0 i_x4 dL_law_1368 ?_
      obtain ⟨v9, e_v9, i_v9, h⟩ := opure_s h (lcmpv_in _ _)
      refine x_lcmp C0 i_v8 (in64_of i_x4) e_v9 dL_law_1369 ?_
      refine x_if_ne C0 i_v9 dL_law_1370 (tgt := 1399) (by decide) (fun c9 => ?_) (fun c9 => ?_)
      · have h := ite_f c9 h
        refine lv_iconst (v := I 0) C0.1 C0.2.1 dL_law_1399 rfl ?_
        cases h
      · have h := ite_t c9 h
        refine lv_aload_n C0.1 C0.2.1 dL_law_1373 rfl (lv_at hl 1 rfl) ?_
        refine lv_iload C0.1 C0.2.1 dL_law_1374 (lv_at hl 5 rfl) ?_
        refine lv_iload C0.1 C0.2.1 dL_law_1376 (lv_at hl 5 rfl) ?_
        obtain ⟨v10, s11, h_v10, h⟩ := bnd_s h
        refine lawP_i (rest := []) (σ' := s11) C0 hml hE (c_E_same l D g hR i_l8 i_l8 h_v10) kw_L_103 ⟨Nat.le_of_ble_eq_true rfl, Nat.le_of_ble_eq_true rfl⟩ rfl hl.1 rfl (Nat.le_of_ble_eq_true rfl) dL_law_1378 hc (fun H locs hE ⟨i_v10, hR⟩ => ?_)
        refine lv_iconst (v := I 1) C0.1 C0.2.1 dL_law_1381 rfl ?_
        refine x_icmp_ne C0 i_v10 lit_1 dL_law_1382 (tgt := 1399) (by decide) (fun c9 => ?_) (fun c9 => ?_)
        · have h := ite_f c9 h
          refine lv_iconst (v := I 0) C0.1 C0.2.1 dL_law_1399 rfl ?_
          cases h
        · have h := ite_t c9 h
          refine lv_aload_n C0.1 C0.2.1 dL_law_1385 rfl (lv_at hl 1 rfl) ?_
          refine lv_iconst (v := I 1) C0.1 C0.2.1 dL_law_1386 rfl ?_
          obtain ⟨v12, h_v12, h⟩ := bndp_s h
          refine lawP_l (rest := []) (σ' := s11) C0 hml hE (c_E_row l D g hR lit_1 h_v12) kw_L_42 ⟨Nat.le_of_ble_eq_true rfl, Nat.le_of_ble_eq_true rfl⟩ rfl hl.1 rfl (Nat.le_of_ble_eq_true rfl) dL_law_1387 hc (fun H locs hE i_v12 => ?_)
          refine lv_aload_n C0.1 C0.2.1 dL_law_1390 rfl (lv_at hl 3 rfl) ?_
          refine lv_iload C0.1 C0.2.1 dL_law_1391 (lv_at hl 5 rfl) ?_
          obtain ⟨v13, e_v13, i_v13, h⟩ := rd_s hM h
          refine manyP_l C0 hE i_l8 e_v13 dL_law_1393 ?_
          refine x_i2l C0 i_v13 dL_law_1394 ?_
          obtain ⟨v14, e_v14, i_v14, h⟩ := opure_s h (lcmpv_in _ _)
          refine x_lcmp C0 i_v12 (in64_of i_v13) e_v14 dL_law_1395 ?_
          refine x_if_le C0 i_v14 dL_law_1396 (tgt := 1401) (by decide) (fun c9 => ?_) (fun c9 => ?_)
          · have h := ite_f c9 h
            exact next g s11 m3 _ _ _ rfl h hR hM hE (lv_sub hl [0, 1, 2, 3, 4] rfl)
          · have h := ite_t c9 h
            refine lv_iconst (v := I 0) C0.1 C0.2.1 dL_law_1399 rfl ?_
            cases h
  have hL1311 : ∀ (n : Nat) (s18 : St) (hR : R32 s18) (m19 : St) (hM : R32 m19) (x15 : Int) (i_x15 : in32 x15) (x16 : Int) (i_x16 : in32 x16) (H : Heap) (locs : List Loc) (ls : Array Slot), EW D (aL s) s.heap (wP g s18 m19) H locs → lv_has ls 20 [(0, .ref b), (1, .ref (g.2 0)), (2, .ref (g.2 46)), (3, .ref (g.2 47)), (4, .int (I k)), (8, .int (I l8)), (17, .int (I x15)), (18, .int (I x16))] → L_tail_L1311 k5 n s18 m19 x15 x16 = some (σr, μr) → W p l e room_1 s m #[Value.ref b] below meth c H locs cells slots Q (F0 m 1311 ls []) := by
    intro n
    induction n with
    | zero => intros; rename_i h; cases h
    | succ n ih17 =>
      intro s18 hR m19 hM x15 i_x15 x16 i_x16 H locs ls hE hl h
      unfold L_tail_L1311 at h
      refine lv_iload C0.1 C0.2.1 dL_law_1311 (lv_at hl 7 rfl) ?_
      refine lv_bipush (v := I 6) C0.1 C0.2.1 dL_law_1313 (by decide +kernel) ?_
      refine x_icmp_ge C0 i_x16 lit_6 dL_law_1315 (tgt := 1352) (by decide) (fun c9 => ?_) (fun c9 => ?_)
      · have h := ite_f c9 h
        exact h_k5 s18 hR m19 hM x15 i_x15 _ _ _ hE (lv_sub hl [0, 1, 2, 3, 4, 5, 6] rfl) h
      · have h := ite_t c9 h
        refine lv_aload_n C0.1 C0.2.1 dL_law_1318 rfl (lv_at hl 1 rfl) ?_
        refine lv_iload C0.1 C0.2.1 dL_law_1319 (lv_at hl 7 rfl) ?_
        refine lv_aload_n C0.1 C0.2.1 dL_law_1321 rfl (lv_at hl 2 rfl) ?_
        refine lv_iload C0.1 C0.2.1 dL_law_1322 (lv_at hl 7 rfl) ?_
        obtain ⟨v20, e_v20, h⟩ := chk6_s h
        refine aald_at C0 hK3 hE rfl i_x16 e_v20 dL_law_1324 ?_
        refine lv_aload_n C0.1 C0.2.1 dL_law_1325 rfl (lv_at hl 3 rfl) ?_
        refine lv_iload C0.1 C0.2.1 dL_law_1326 (lv_at hl 7 rfl) ?_
        obtain ⟨v21, e_v21, i_v21, h⟩ := rd_s hM h
        refine manyP_l C0 hE i_x16 e_v21 dL_law_1328 ?_
        obtain ⟨v22, s23, h_v22, h⟩ := bnd_s h
        refine callS_i (rest := []) C0 hml hE (c_L_is l D g hR hM i_x16 e_v20.2 i_v21 h_v22) kw_L_95 ⟨Nat.le_of_ble_eq_true rfl, Nat.le_of_ble_eq_true rfl⟩ rfl hl.1 rfl (Nat.le_of_ble_eq_true rfl) dL_law_1329 hc (fun H locs hE ⟨i_v22, hR⟩ => ?_)
        refine x_if_ne C0 i_v22 dL_law_1332 (tgt := 1337) (by decide) (fun c9 => ?_) (fun c9 => ?_)
        · have h := ite_f c9 h
          refine lv_iload C0.1 C0.2.1 dL_law_1337 (lv_at hl 6 rfl) ?_
          refine lv_aload_n C0.1 C0.2.1 dL_law_1339 rfl (lv_at hl 3 rfl) ?_
          refine lv_iload C0.1 C0.2.1 dL_law_1340 (lv_at hl 7 rfl) ?_
          obtain ⟨v24, e_v24, i_v24, h⟩ := rd_s hM h
          refine manyP_l C0 hE i_x16 e_v24 dL_law_1342 ?_
          obtain ⟨v25, e_v25, i_v25, h⟩ := oadd_s h
          refine x_add C0 e_v25 dL_law_1343 ?_
          refine lv_istore (lv' := [(17, .int (I v25)), (0, .ref b), (1, .ref (g.2 0)), (2, .ref (g.2 46)), (3, .ref (g.2 47)), (4, .int (I k)), (8, .int (I l8)), (18, .int (I x16))]) C0.1 C0.2.1 dL_law_1344 hl (by decide) rfl (fun ls hl => ?_)
          obtain ⟨v26, e_v26, i_v26, h⟩ := oadd_s h
          refine x_iinc (lv' := [(18, .int (I v26)), (17, .int (I v25)), (0, .ref b), (1, .ref (g.2 0)), (2, .ref (g.2 46)), (3, .ref (g.2 47)), (4, .int (I k)), (8, .int (I l8))]) C0 dL_law_1346 hl (k := 7) rfl e_v26 (by decide) rfl (fun ls hl => ?_)
          refine x_goto C0 dL_law_1349 (tgt := 1311) (by decide) ?_
          exact ih17 s23 hR m19 hM v25 i_v25 v26 i_v26 _ _ _ hE (lv_sub hl [2, 3, 4, 5, 6, 7, 1, 0] rfl) h
        · have h := ite_t c9 h
          refine lv_iconst (v := I 0) C0.1 C0.2.1 dL_law_1335 rfl ?_
          cases h
  exact hL1311 FU σ hR m1 hM 0 lit_0 0 lit_0 _ _ _ hE (lv_sub hl [2, 3, 4, 5, 6, 7, 1, 0] rfl) h
set_option maxRecDepth 100000 in
set_option maxHeartbeats 8000000 in
theorem c_L_mid {p : Program} {l : Launch} {e : Env} {s : State} {m : MethodId} {below : List Frame} {meth : Method} {c : Code} {Q : State → Prop} {D : va_G} {g : Ad} {b L : Nat} {xs : Nat → Int32} {σ μ σr μr : St} {c5 i6 j7 l8 v9 n10 d12 a11 k : Int} (hC : LC p s m meth c b L xs D g) (hR : R32 σ) (hM : R32 μ) (i_k : in32 k) (i_c5 : in32 c5) (i_i6 : in32 i6) (i_j7 : in32 j7) (i_l8 : in32 l8) (i_v9 : in32 v9) (i_n10 : in32 n10) (i_d12 : in32 d12) (i_a11 : in32 a11) (b_a : 0 ≤ a11 ∧ a11 < 6) {H : Heap} {locs : List Loc} {cells slots : Nat} {ls : Array Slot} (hc : cells ≤ room_1.cells ∧ slots ≤ room_1.slots) (hE : EW D (aL s) s.heap (wB g σ μ) H locs) (hl : lv_has ls 20 [(0, .ref b), (1, .ref (g.2 0)), (2, .ref (g.2 46)), (3, .ref (g.2 47)), (4, .int (I k)), (5, .int (I c5)), (6, .int (I i6)), (7, .int (I j7)), (8, .int (I l8)), (9, .int (I v9)), (10, .int (I n10)), (11, .ref (g.2 (51 + a11.toNat))), (12, .int (I d12))]) (h : L_mid σ μ c5 i6 j7 l8 v9 n10 d12 a11 = some (σr, μr))
    (next : ∀ (g1 : Ad) (σ1 μ1 : St) (H : Heap) (locs : List Loc) (ls : Array Slot), g1.1 = g.1 → some (σ1, μ1) = some (σr, μr) → R32 σ1 → R32 μ1 → EW D (aL s) s.heap (wP g1 σ1 μ1) H locs → lv_has ls 20 (lvH g1 b k) → W p l e room_1 s m #[Value.ref b] below meth c H locs cells slots Q (F0 m 1401 ls [])) : W p l e room_1 s m #[Value.ref b] below meth c H locs cells slots Q (F0 m 120 ls [.ref (g.2 48)]) := by
  have C0 := hC.1
  have hml := hC.2.1
  have hK3 := hC.2.2.2.2.2.2.1
  unfold L_mid at h
  refine lv_astore (lv' := [(14, .ref (g.2 48)), (0, .ref b), (1, .ref (g.2 0)), (2, .ref (g.2 46)), (3, .ref (g.2 47)), (4, .int (I k)), (5, .int (I c5)), (6, .int (I i6)), (7, .int (I j7)), (8, .int (I l8)), (9, .int (I v9)), (10, .int (I n10)), (11, .ref (g.2 (51 + a11.toNat))), (12, .int (I d12))]) C0.1 C0.2.1 dL_law_120 hl (by decide) rfl (fun ls hl => ?_)
  refine lv_iload C0.1 C0.2.1 dL_law_122 (lv_at hl 11 rfl) ?_
  refine lv_istore (lv' := [(15, .int (I n10)), (14, .ref (g.2 48)), (0, .ref b), (1, .ref (g.2 0)), (2, .ref (g.2 46)), (3, .ref (g.2 47)), (4, .int (I k)), (5, .int (I c5)), (6, .int (I i6)), (7, .int (I j7)), (8, .int (I l8)), (9, .int (I v9)), (10, .int (I n10)), (11, .ref (g.2 (51 + a11.toNat))), (12, .int (I d12))]) C0.1 C0.2.1 dL_law_124 hl (by decide) rfl (fun ls hl => ?_)
  refine lv_iconst (v := I 0) C0.1 C0.2.1 dL_law_126 rfl ?_
  refine lv_istore (lv' := [(16, .int (I 0)), (15, .int (I n10)), (14, .ref (g.2 48)), (0, .ref b), (1, .ref (g.2 0)), (2, .ref (g.2 46)), (3, .ref (g.2 47)), (4, .int (I k)), (5, .int (I c5)), (6, .int (I i6)), (7, .int (I j7)), (8, .int (I l8)), (9, .int (I v9)), (10, .int (I n10)), (11, .ref (g.2 (51 + a11.toNat))), (12, .int (I d12))]) C0.1 C0.2.1 dL_law_127 hl (by decide) rfl (fun ls hl => ?_)
  obtain ⟨k3, e_k3, h⟩ := jn_s h
  have h_k3 : ∀ (s1 : St) (hR : R32 s1) (m2 : St) (hM : R32 m2) (H : Heap) (locs : List Loc) (ls : Array Slot), EW D (aL s) s.heap (wB g s1 m2) H locs → lv_has ls 20 [(0, .ref b), (1, .ref (g.2 0)), (2, .ref (g.2 46)), (3, .ref (g.2 47)), (4, .int (I k)), (5, .int (I c5)), (6, .int (I i6)), (7, .int (I j7)), (8, .int (I l8)), (9, .int (I v9)), (10, .int (I n10)), (11, .ref (g.2 (51 + a11.toNat))), (12, .int (I d12)), (14, .ref (g.2 48)), (15, .int (I n10))] → k3 s1 m2 = some (σr, μr) → W p l e room_1 s m #[Value.ref b] below meth c H locs cells slots Q (F0 m 152 ls []) := by
    intro s1 hR m2 hM H locs ls hE hl h
    have h := (congrFun (congrFun e_k3 s1) m2).symm.trans h
    refine lv_iconst (v := I 1) C0.1 C0.2.1 dL_law_152 rfl ?_
    refine lv_istore (lv' := [(16, .int (I 1)), (0, .ref b), (1, .ref (g.2 0)), (2, .ref (g.2 46)), (3, .ref (g.2 47)), (4, .int (I k)), (5, .int (I c5)), (6, .int (I i6)), (7, .int (I j7)), (8, .int (I l8)), (9, .int (I v9)), (10, .int (I n10)), (11, .ref (g.2 (51 + a11.toNat))), (12, .int (I d12)), (14, .ref (g.2 48)), (15, .int (I n10))]) C0.1 C0.2.1 dL_law_153 hl (by decide) rfl (fun ls hl => ?_)
    refine lv_iload C0.1 C0.2.1 dL_law_155 (lv_at hl 6 rfl) ?_
    refine lv_bipush (v := I 15) C0.1 C0.2.1 dL_law_157 (by decide +kernel) ?_
    obtain ⟨v4, e_v4, i_v4, h⟩ := opure_s h (band_in _ _)
    refine x_and C0 e_v4 dL_law_159 ?_
    obtain ⟨k7, e_k7, h⟩ := jn_s h
    have h_k7 : ∀ (s5 : St) (hR : R32 s5) (m6 : St) (hM : R32 m6) (H : Heap) (locs : List Loc) (ls : Array Slot), EW D (aL s) s.heap (wB g s5 m6) H locs → lv_has ls 20 [(0, .ref b), (1, .ref (g.2 0)), (2, .ref (g.2 46)), (3, .ref (g.2 47)), (4, .int (I k))] → k7 s5 m6 = some (σr, μr) → W p l e room_1 s m #[Value.ref b] below meth c H locs cells slots Q (F0 m 1401 ls []) := by
      intro s5 hR m6 hM H locs ls hE hl h
      have h := (congrFun (congrFun e_k7 s5) m6).symm.trans h
      exact next g s5 m6 _ _ _ rfl h hR hM (dropB hE) (lv_sub hl [0, 1, 2, 3, 4] rfl)
    obtain ⟨k12, e_k12, h⟩ := jn_s h
    have h_k12 : ∀ (s8 : St) (hR : R32 s8) (m9 : St) (hM : R32 m9) (x10 : Int) (i_x10 : in32 x10) (x11 : Int) (i_x11 : in32 x11) (H : Heap) (locs : List Loc) (ls : Array Slot), EW D (aL s) s.heap (wB g s8 m9) H locs → lv_has ls 20 [(0, .ref b), (1, .ref (g.2 0)), (2, .ref (g.2 46)), (3, .ref (g.2 47)), (4, .int (I k)), (8, .int (I l8)), (12, .int (I d12)), (13, .int (I x10)), (14, .ref (g.2 48)), (15, .int (I x11))] → k12 s8 m9 x10 x11 = some (σr, μr) → W p l e room_1 s m #[Value.ref b] below meth c H locs cells slots Q (F0 m 1273 ls []) := by
      intro s8 hR m9 hM x10 i_x10 x11 i_x11 H locs ls hE hl h
      have h := (congrFun (congrFun (congrFun (congrFun e_k12 s8) m9) x10) x11).symm.trans h
      refine lv_iload C0.1 C0.2.1 dL_law_1273 (lv_at hl 7 rfl) ?_
      refine x_if_lt C0 i_x10 dL_law_1275 (tgt := 1291) (by decide) (fun c9 => ?_) (fun c9 => ?_)
      · have h := ite_t c9 h
        refine lv_iconst (v := I 0) C0.1 C0.2.1 dL_law_1291 rfl ?_
        cases h
      · have h := ite_f c9 h
        refine lv_aload_n C0.1 C0.2.1 dL_law_1278 rfl (lv_at hl 1 rfl) ?_
        refine lv_iconst (v := I 1) C0.1 C0.2.1 dL_law_1279 rfl ?_
        obtain ⟨v13, h_v13, h⟩ := bndp_s h
        refine lawB_i (rest := []) (σ' := s8) C0 hml hE (c_E_count l D g hR lit_1 h_v13) kw_L_29 ⟨Nat.le_of_ble_eq_true rfl, Nat.le_of_ble_eq_true rfl⟩ rfl hl.1 rfl (Nat.le_of_ble_eq_true rfl) dL_law_1280 hc (fun H locs hE i_v13 => ?_)
        refine lv_iload C0.1 C0.2.1 dL_law_1283 (lv_at hl 6 rfl) ?_
        refine lv_iload C0.1 C0.2.1 dL_law_1285 (lv_at hl 7 rfl) ?_
        obtain ⟨v14, e_v14, i_v14, h⟩ := oadd_s h
        refine x_add C0 e_v14 dL_law_1287 ?_
        refine x_icmp_eq C0 i_v13 i_v14 dL_law_1288 (tgt := 1293) (by decide) (fun c9 => ?_) (fun c9 => ?_)
        · have h := ite_t c9 h
          obtain ⟨v15, e_v15, h⟩ := chk6_s h
          have e9 : l8 = v15 := e_v15.1.symm
          subst e9
          refine lv_aload_n C0.1 C0.2.1 dL_law_1293 rfl (lv_at hl 2 rfl) ?_
          refine lv_iload C0.1 C0.2.1 dL_law_1294 (lv_at hl 5 rfl) ?_
          refine lv_aload C0.1 C0.2.1 dL_law_1296 (lv_at hl 8 rfl) ?_
          refine aastB C0 hK3 hC.2.2.2.2.2.2.2 hE i_l8 e_v15.2 dL_law_1298 (fun g1 H locs e1 hg hE => ?_)
          have hl := lv_sub (l' := [(0, .ref b), (1, .ref (g.2 0)), (2, .ref (g.2 46)), (3, .ref (g.2 47)), (4, .int (I k)), (8, .int (I l8)), (15, .int (I x11))]) hl [0, 1, 2, 3, 4, 5, 9] rfl
          rw [← hg 0 (by omega), ← hg 46 (by omega), ← hg 47 (by omega)] at hl
          exact c_L_tail (hC.cg e1) hR (mvB_R hM _) i_k i_l8 i_x11 hc hE hl h (fun g2 σ1 μ1 H locs ls e2 => next g2 σ1 μ1 H locs ls (e2.trans e1))
        · have h := ite_f c9 h
          refine lv_iconst (v := I 0) C0.1 C0.2.1 dL_law_1291 rfl ?_
          cases h
    obtain ⟨k16, e_k16, h⟩ := jn_s h
    have h_k16 : ∀ (H : Heap) (locs : List Loc) (ls : Array Slot), EW D (aL s) s.heap (wB g s1 m2) H locs → lv_has ls 20 [(0, .ref b), (1, .ref (g.2 0)), (2, .ref (g.2 46)), (3, .ref (g.2 47)), (4, .int (I k)), (6, .int (I i6)), (8, .int (I l8)), (9, .int (I v9)), (10, .int (I n10)), (12, .int (I d12)), (14, .ref (g.2 48)), (15, .int (I n10))] → k16 = some (σr, μr) → W p l e room_1 s m #[Value.ref b] below meth c H locs cells slots Q (F0 m 297 ls []) := by
      intro H locs ls hE hl h
      have h := e_k16.symm.trans h
      refine lv_iload C0.1 C0.2.1 dL_law_297 (lv_at hl 8 rfl) ?_
      refine lv_bipush (v := I 63) C0.1 C0.2.1 dL_law_299 (by decide +kernel) ?_
      refine x_icmp_ne C0 i_n10 lit_63 dL_law_301 (tgt := 307) (by decide) (fun c9 => ?_) (fun c9 => ?_)
      · have h := ite_f c9 h
        refine lv_aload_n C0.1 C0.2.1 dL_law_307 rfl (lv_at hl 1 rfl) ?_
        refine lv_iload C0.1 C0.2.1 dL_law_308 (lv_at hl 5 rfl) ?_
        refine lv_iload C0.1 C0.2.1 dL_law_310 (lv_at hl 7 rfl) ?_
        refine lv_iload C0.1 C0.2.1 dL_law_312 (lv_at hl 6 rfl) ?_
        obtain ⟨v17, s18, h_v17, h⟩ := bnd_s h
        refine lawB_i (rest := []) (σ' := s18) C0 hml hE (c_E_back l D g hR i_i6 i_v9 i_l8 h_v17) kw_L_36 ⟨Nat.le_of_ble_eq_true rfl, Nat.le_of_ble_eq_true rfl⟩ rfl hl.1 rfl (Nat.le_of_ble_eq_true rfl) dL_law_314 hc (fun H locs hE ⟨i_v17, hR⟩ => ?_)
        refine lv_istore (lv' := [(13, .int (I v17)), (0, .ref b), (1, .ref (g.2 0)), (2, .ref (g.2 46)), (3, .ref (g.2 47)), (4, .int (I k)), (6, .int (I i6)), (8, .int (I l8)), (9, .int (I v9)), (10, .int (I n10)), (12, .int (I d12)), (14, .ref (g.2 48)), (15, .int (I n10))]) C0.1 C0.2.1 dL_law_317 hl (by decide) rfl (fun ls hl => ?_)
        refine lv_aload C0.1 C0.2.1 dL_law_319 (lv_at hl 11 rfl) ?_
        refine lv_iload C0.1 C0.2.1 dL_law_321 (lv_at hl 9 rfl) ?_
        refine lv_iload C0.1 C0.2.1 dL_law_323 (lv_at hl 8 rfl) ?_
        obtain ⟨m19, e_m19, hM, h⟩ := wr_s hM i_v9 h
        refine bB_st C0 hE i_n10 e_m19 dL_law_325 (fun H locs hE => ?_)
        obtain ⟨v20, e_v20, i_v20, h⟩ := oadd_s h
        refine x_iinc (lv' := [(15, .int (I v20)), (13, .int (I v17)), (0, .ref b), (1, .ref (g.2 0)), (2, .ref (g.2 46)), (3, .ref (g.2 47)), (4, .int (I k)), (6, .int (I i6)), (8, .int (I l8)), (9, .int (I v9)), (10, .int (I n10)), (12, .int (I d12)), (14, .ref (g.2 48))]) C0 dL_law_326 hl (k := 12) rfl e_v20 (by decide) rfl (fun ls hl => ?_)
        refine x_goto C0 dL_law_329 (tgt := 1273) (by decide) ?_
        exact h_k12 s18 hR m19 hM v17 i_v17 v20 i_v20 _ _ _ hE (lv_sub hl [2, 3, 4, 5, 6, 8, 11, 1, 12, 0] rfl) h
      · have h := ite_t c9 h
        refine x_goto C0 dL_law_304 (tgt := 1401) (by decide) ?_
        exact h_k7 s1 hR m2 hM _ _ _ hE (lv_sub hl [0, 1, 2, 3, 4] rfl) h
    obtain ⟨k21, e_k21, h⟩ := jn_s h
    have h_k21 : ∀ (H : Heap) (locs : List Loc) (ls : Array Slot), EW D (aL s) s.heap (wB g s1 m2) H locs → lv_has ls 20 [(0, .ref b), (1, .ref (g.2 0)), (2, .ref (g.2 46)), (3, .ref (g.2 47)), (4, .int (I k)), (6, .int (I i6)), (8, .int (I l8)), (9, .int (I v9)), (10, .int (I n10)), (11, .ref (g.2 (51 + a11.toNat))), (12, .int (I d12)), (14, .ref (g.2 48)), (15, .int (I n10))] → k21 = some (σr, μr) → W p l e room_1 s m #[Value.ref b] below meth c H locs cells slots Q (F0 m 236 ls []) := by
      intro H locs ls hE hl h
      have h := e_k21.symm.trans h
      refine lv_iload C0.1 C0.2.1 dL_law_236 (lv_at hl 8 rfl) ?_
      refine lv_bipush (v := I 63) C0.1 C0.2.1 dL_law_238 (by decide +kernel) ?_
      refine x_icmp_ne C0 i_n10 lit_63 dL_law_240 (tgt := 246) (by decide) (fun c9 => ?_) (fun c9 => ?_)
      · have h := ite_f c9 h
        refine lv_aload_n C0.1 C0.2.1 dL_law_246 rfl (lv_at hl 1 rfl) ?_
        refine lv_iload C0.1 C0.2.1 dL_law_247 (lv_at hl 5 rfl) ?_
        refine lv_iload C0.1 C0.2.1 dL_law_249 (lv_at hl 7 rfl) ?_
        refine lv_iload C0.1 C0.2.1 dL_law_251 (lv_at hl 6 rfl) ?_
        obtain ⟨v22, s23, h_v22, h⟩ := bnd_s h
        refine lawB_i (rest := []) (σ' := s23) C0 hml hE (c_E_front l D g hR i_i6 i_v9 i_l8 h_v22) kw_L_32 ⟨Nat.le_of_ble_eq_true rfl, Nat.le_of_ble_eq_true rfl⟩ rfl hl.1 rfl (Nat.le_of_ble_eq_true rfl) dL_law_253 hc (fun H locs hE ⟨i_v22, hR⟩ => ?_)
        refine lv_istore (lv' := [(13, .int (I v22)), (0, .ref b), (1, .ref (g.2 0)), (2, .ref (g.2 46)), (3, .ref (g.2 47)), (4, .int (I k)), (6, .int (I i6)), (8, .int (I l8)), (9, .int (I v9)), (10, .int (I n10)), (11, .ref (g.2 (51 + a11.toNat))), (12, .int (I d12)), (14, .ref (g.2 48)), (15, .int (I n10))]) C0.1 C0.2.1 dL_law_256 hl (by decide) rfl (fun ls hl => ?_)
        refine lv_iload C0.1 C0.2.1 dL_law_258 (lv_at hl 9 rfl) ?_
        refine lv_istore (lv' := [(17, .int (I n10)), (13, .int (I v22)), (0, .ref b), (1, .ref (g.2 0)), (2, .ref (g.2 46)), (3, .ref (g.2 47)), (4, .int (I k)), (6, .int (I i6)), (8, .int (I l8)), (9, .int (I v9)), (10, .int (I n10)), (11, .ref (g.2 (51 + a11.toNat))), (12, .int (I d12)), (14, .ref (g.2 48)), (15, .int (I n10))]) C0.1 C0.2.1 dL_law_260 hl (by decide) rfl (fun ls hl => ?_)
        obtain ⟨k26, e_k26, h⟩ := jn_s h
        have h_k26 : ∀ (s24 : St) (hR : R32 s24) (m25 : St) (hM : R32 m25) (H : Heap) (locs : List Loc) (ls : Array Slot), EW D (aL s) s.heap (wB g s24 m25) H locs → lv_has ls 20 [(0, .ref b), (1, .ref (g.2 0)), (2, .ref (g.2 46)), (3, .ref (g.2 47)), (4, .int (I k)), (8, .int (I l8)), (9, .int (I v9)), (12, .int (I d12)), (13, .int (I v22)), (14, .ref (g.2 48)), (15, .int (I n10))] → k26 s24 m25 = some (σr, μr) → W p l e room_1 s m #[Value.ref b] below meth c H locs cells slots Q (F0 m 285 ls []) := by
          intro s24 hR m25 hM H locs ls hE hl h
          have h := (congrFun (congrFun e_k26 s24) m25).symm.trans h
          refine lv_aload C0.1 C0.2.1 dL_law_285 (lv_at hl 9 rfl) ?_
          refine lv_iconst (v := I 0) C0.1 C0.2.1 dL_law_287 rfl ?_
          refine lv_iload C0.1 C0.2.1 dL_law_288 (lv_at hl 6 rfl) ?_
          obtain ⟨m27, e_m27, hM, h⟩ := wr_s hM i_v9 h
          refine bB_st C0 hE lit_0 e_m27 dL_law_290 (fun H locs hE => ?_)
          obtain ⟨v28, e_v28, i_v28, h⟩ := oadd_s h
          refine x_iinc (lv' := [(15, .int (I v28)), (0, .ref b), (1, .ref (g.2 0)), (2, .ref (g.2 46)), (3, .ref (g.2 47)), (4, .int (I k)), (8, .int (I l8)), (9, .int (I v9)), (12, .int (I d12)), (13, .int (I v22)), (14, .ref (g.2 48))]) C0 dL_law_291 hl (k := 10) rfl e_v28 (by decide) rfl (fun ls hl => ?_)
          refine x_goto C0 dL_law_294 (tgt := 1273) (by decide) ?_
          exact h_k12 s24 hR m27 hM v22 i_v22 v28 i_v28 _ _ _ hE (lv_sub hl [1, 2, 3, 4, 5, 6, 8, 9, 10, 0] rfl) h
        have hL262 : ∀ (n : Nat) (s31 : St) (hR : R32 s31) (m32 : St) (hM : R32 m32) (x29 : Int) (i_x29 : in32 x29) (H : Heap) (locs : List Loc) (ls : Array Slot), EW D (aL s) s.heap (wB g s31 m32) H locs → lv_has ls 20 [(0, .ref b), (1, .ref (g.2 0)), (2, .ref (g.2 46)), (3, .ref (g.2 47)), (4, .int (I k)), (8, .int (I l8)), (9, .int (I v9)), (11, .ref (g.2 (51 + a11.toNat))), (12, .int (I d12)), (13, .int (I v22)), (14, .ref (g.2 48)), (15, .int (I n10)), (17, .int (I x29))] → L_mid_L262 k26 a11 n s31 m32 x29 = some (σr, μr) → W p l e room_1 s m #[Value.ref b] below meth c H locs cells slots Q (F0 m 262 ls []) := by
          intro n
          induction n with
          | zero => intros; rename_i h; cases h
          | succ n ih30 =>
            intro s31 hR m32 hM x29 i_x29 H locs ls hE hl h
            unfold L_mid_L262 at h
            refine lv_iload C0.1 C0.2.1 dL_law_262 (lv_at hl 12 rfl) ?_
            refine x_if_le C0 i_x29 dL_law_264 (tgt := 285) (by decide) (fun c9 => ?_) (fun c9 => ?_)
            · have h := ite_f c9 h
              exact h_k26 s31 hR m32 hM _ _ _ hE (lv_sub hl [0, 1, 2, 3, 4, 5, 6, 8, 9, 10, 11] rfl) h
            · have h := ite_t c9 h
              refine lv_aload C0.1 C0.2.1 dL_law_267 (lv_at hl 10 rfl) ?_
              refine lv_iload C0.1 C0.2.1 dL_law_269 (lv_at hl 12 rfl) ?_
              refine lv_aload C0.1 C0.2.1 dL_law_271 (lv_at hl 7 rfl) ?_
              refine lv_iload C0.1 C0.2.1 dL_law_273 (lv_at hl 12 rfl) ?_
              refine lv_iconst (v := I 1) C0.1 C0.2.1 dL_law_275 rfl ?_
              obtain ⟨v33, e_v33, i_v33, h⟩ := osub_s h
              refine x_sub C0 e_v33 dL_law_276 ?_
              obtain ⟨v34, e_v34, i_v34, h⟩ := rdA_s hM h
              refine rowB_l C0 hE b_a i_v33 e_v34 dL_law_277 ?_
              obtain ⟨m35, e_m35, hM, h⟩ := wr_s hM i_v34 h
              refine bB_st C0 hE i_x29 e_m35 dL_law_278 (fun H locs hE => ?_)
              obtain ⟨v36, e_v36, i_v36, h⟩ := oadd_s h
              refine x_iinc (lv' := [(17, .int (I v36)), (0, .ref b), (1, .ref (g.2 0)), (2, .ref (g.2 46)), (3, .ref (g.2 47)), (4, .int (I k)), (8, .int (I l8)), (9, .int (I v9)), (11, .ref (g.2 (51 + a11.toNat))), (12, .int (I d12)), (13, .int (I v22)), (14, .ref (g.2 48)), (15, .int (I n10))]) C0 dL_law_279 hl (k := 12) rfl e_v36 (by decide) rfl (fun ls hl => ?_)
              refine x_goto C0 dL_law_282 (tgt := 262) (by decide) ?_
              exact ih30 s31 hR m35 hM v36 i_v36 _ _ _ hE (lv_sub hl [1, 2, 3, 4, 5, 6, 7, 8, 9, 10, 11, 12, 0] rfl) h
        exact hL262 FU s23 hR m2 hM n10 i_n10 _ _ _ hE (lv_sub hl [2, 3, 4, 5, 6, 8, 9, 11, 12, 1, 13, 14, 0] rfl) h
      · have h := ite_t c9 h
        refine x_goto C0 dL_law_243 (tgt := 1401) (by decide) ?_
        exact h_k7 s1 hR m2 hM _ _ _ hE (lv_sub hl [0, 1, 2, 3, 4] rfl) h
    by_cases q37 : v4 = 0
    · have h := ite_t q37 h
      refine x_tabIn (tgt := 236) C0 0 i_v4 dL_law_160 q37 ⟨by decide, by decide, by rfl⟩ (by decide) ?_
      exact h_k21 _ _ _ hE (lv_sub hl [1, 2, 3, 4, 5, 7, 9, 10, 11, 12, 13, 14, 15] rfl) h
    have h := ite_f q37 h
    by_cases q38 : v4 = 1
    · have h := ite_t q38 h
      refine x_tabIn (tgt := 236) C0 1 i_v4 dL_law_160 q38 ⟨by decide, by decide, by rfl⟩ (by decide) ?_
      exact h_k21 _ _ _ hE (lv_sub hl [1, 2, 3, 4, 5, 7, 9, 10, 11, 12, 13, 14, 15] rfl) h
    have h := ite_f q38 h
    by_cases q39 : v4 = 2
    · have h := ite_t q39 h
      refine x_tabIn (tgt := 297) C0 2 i_v4 dL_law_160 q39 ⟨by decide, by decide, by rfl⟩ (by decide) ?_
      exact h_k16 _ _ _ hE (lv_sub hl [1, 2, 3, 4, 5, 7, 9, 10, 11, 13, 14, 15] rfl) h
    have h := ite_f q39 h
    by_cases q40 : v4 = 3
    · have h := ite_t q40 h
      refine x_tabIn (tgt := 297) C0 3 i_v4 dL_law_160 q40 ⟨by decide, by decide, by rfl⟩ (by decide) ?_
      exact h_k16 _ _ _ hE (lv_sub hl [1, 2, 3, 4, 5, 7, 9, 10, 11, 13, 14, 15] rfl) h
    have h := ite_f q40 h
    by_cases q41 : v4 = 4
    · have h := ite_t q41 h
      refine x_tabIn (tgt := 332) C0 4 i_v4 dL_law_160 q41 ⟨by decide, by decide, by rfl⟩ (by decide) ?_
      refine lv_aload_n C0.1 C0.2.1 dL_law_332 rfl (lv_at hl 2 rfl) ?_
      refine lv_iload C0.1 C0.2.1 dL_law_333 (lv_at hl 7 rfl) ?_
      refine lv_iload C0.1 C0.2.1 dL_law_335 (lv_at hl 9 rfl) ?_
      obtain ⟨v42, s43, h_v42, h⟩ := bnd_s h
      refine lawB_i (rest := []) (σ' := s43) C0 hml hE (c_E_first l D g hR i_i6 i_l8 h_v42) kw_L_39 ⟨Nat.le_of_ble_eq_true rfl, Nat.le_of_ble_eq_true rfl⟩ rfl hl.1 rfl (Nat.le_of_ble_eq_true rfl) dL_law_337 hc (fun H locs hE ⟨i_v42, hR⟩ => ?_)
      refine lv_istore (lv' := [(13, .int (I v42)), (16, .int (I 1)), (0, .ref b), (1, .ref (g.2 0)), (2, .ref (g.2 46)), (3, .ref (g.2 47)), (4, .int (I k)), (5, .int (I c5)), (6, .int (I i6)), (7, .int (I j7)), (8, .int (I l8)), (9, .int (I v9)), (10, .int (I n10)), (11, .ref (g.2 (51 + a11.toNat))), (12, .int (I d12)), (14, .ref (g.2 48)), (15, .int (I n10))]) C0.1 C0.2.1 dL_law_340 hl (by decide) rfl (fun ls hl => ?_)
      refine lv_iload C0.1 C0.2.1 dL_law_342 (lv_at hl 12 rfl) ?_
      refine x_if_ne C0 i_n10 dL_law_344 (tgt := 356) (by decide) (fun c9 => ?_) (fun c9 => ?_)
      · have h := ite_f c9 h
        refine lv_aload_n C0.1 C0.2.1 dL_law_356 rfl (lv_at hl 3 rfl) ?_
        refine lv_iconst (v := I 0) C0.1 C0.2.1 dL_law_357 rfl ?_
        obtain ⟨v44, h_v44, h⟩ := bndp_s h
        refine lawB_l (rest := []) (σ' := s43) C0 hml hE (c_E_row l D g hR lit_0 h_v44) kw_L_42 ⟨Nat.le_of_ble_eq_true rfl, Nat.le_of_ble_eq_true rfl⟩ rfl hl.1 rfl (Nat.le_of_ble_eq_true rfl) dL_law_358 hc (fun H locs hE i_v44 => ?_)
        refine lv_aload C0.1 C0.2.1 dL_law_361 (lv_at hl 13 rfl) ?_
        refine lv_iconst (v := I 0) C0.1 C0.2.1 dL_law_363 rfl ?_
        obtain ⟨v45, e_v45, i_v45, h⟩ := rdA_s hM h
        refine rowB_l C0 hE b_a lit_0 e_v45 dL_law_364 ?_
        refine x_i2l C0 i_v45 dL_law_365 ?_
        obtain ⟨v46, e_v46, i_v46, h⟩ := opure_s h (lcmpv_in _ _)
        refine x_lcmp C0 i_v44 (in64_of i_v45) e_v46 dL_law_366 ?_
        refine x_if_eq C0 i_v46 dL_law_367 (tgt := 372) (by decide) (fun c9 => ?_) (fun c9 => ?_)
        · have h := ite_t c9 h
          obtain ⟨v47, e_v47, i_v47, h⟩ := oadd_s h
          refine x_iinc (lv' := [(15, .int (I v47)), (13, .int (I v42)), (16, .int (I 1)), (0, .ref b), (1, .ref (g.2 0)), (2, .ref (g.2 46)), (3, .ref (g.2 47)), (4, .int (I k)), (5, .int (I c5)), (6, .int (I i6)), (7, .int (I j7)), (8, .int (I l8)), (9, .int (I v9)), (10, .int (I n10)), (11, .ref (g.2 (51 + a11.toNat))), (12, .int (I d12)), (14, .ref (g.2 48))]) C0 dL_law_372 hl (k := 16) rfl e_v47 (by decide) rfl (fun ls hl => ?_)
          refine lv_iconst (v := I 0) C0.1 C0.2.1 dL_law_375 rfl ?_
          refine lv_istore (lv' := [(17, .int (I 0)), (15, .int (I v47)), (13, .int (I v42)), (16, .int (I 1)), (0, .ref b), (1, .ref (g.2 0)), (2, .ref (g.2 46)), (3, .ref (g.2 47)), (4, .int (I k)), (5, .int (I c5)), (6, .int (I i6)), (7, .int (I j7)), (8, .int (I l8)), (9, .int (I v9)), (10, .int (I n10)), (11, .ref (g.2 (51 + a11.toNat))), (12, .int (I d12)), (14, .ref (g.2 48))]) C0.1 C0.2.1 dL_law_376 hl (by decide) rfl (fun ls hl => ?_)
          obtain ⟨k50, e_k50, h⟩ := jn_s h
          have h_k50 : ∀ (s48 : St) (hR : R32 s48) (m49 : St) (hM : R32 m49) (H : Heap) (locs : List Loc) (ls : Array Slot), EW D (aL s) s.heap (wB g s48 m49) H locs → lv_has ls 20 [(0, .ref b), (1, .ref (g.2 0)), (2, .ref (g.2 46)), (3, .ref (g.2 47)), (4, .int (I k)), (8, .int (I l8)), (12, .int (I d12)), (13, .int (I v42)), (14, .ref (g.2 48)), (15, .int (I v47))] → k50 s48 m49 = some (σr, μr) → W p l e room_1 s m #[Value.ref b] below meth c H locs cells slots Q (F0 m 403 ls []) := by
            intro s48 hR m49 hM H locs ls hE hl h
            have h := (congrFun (congrFun e_k50 s48) m49).symm.trans h
            refine x_goto C0 dL_law_403 (tgt := 1273) (by decide) ?_
            exact h_k12 s48 hR m49 hM v42 i_v42 v47 i_v47 _ _ _ hE (lv_sub hl [0, 1, 2, 3, 4, 5, 6, 7, 8, 9] rfl) h
          have hL378 : ∀ (n : Nat) (s53 : St) (hR : R32 s53) (m54 : St) (hM : R32 m54) (x51 : Int) (i_x51 : in32 x51) (H : Heap) (locs : List Loc) (ls : Array Slot), EW D (aL s) s.heap (wB g s53 m54) H locs → lv_has ls 20 [(0, .ref b), (1, .ref (g.2 0)), (2, .ref (g.2 46)), (3, .ref (g.2 47)), (4, .int (I k)), (8, .int (I l8)), (11, .ref (g.2 (51 + a11.toNat))), (12, .int (I d12)), (13, .int (I v42)), (14, .ref (g.2 48)), (15, .int (I v47)), (17, .int (I x51))] → L_mid_L378 k50 v47 a11 n s53 m54 x51 = some (σr, μr) → W p l e room_1 s m #[Value.ref b] below meth c H locs cells slots Q (F0 m 378 ls []) := by
            intro n
            induction n with
            | zero => intros; rename_i h; cases h
            | succ n ih52 =>
              intro s53 hR m54 hM x51 i_x51 H locs ls hE hl h
              unfold L_mid_L378 at h
              refine lv_iload C0.1 C0.2.1 dL_law_378 (lv_at hl 11 rfl) ?_
              refine lv_iload C0.1 C0.2.1 dL_law_380 (lv_at hl 10 rfl) ?_
              refine x_icmp_ge C0 i_x51 i_v47 dL_law_382 (tgt := 403) (by decide) (fun c9 => ?_) (fun c9 => ?_)
              · have h := ite_f c9 h
                exact h_k50 s53 hR m54 hM _ _ _ hE (lv_sub hl [0, 1, 2, 3, 4, 5, 7, 8, 9, 10] rfl) h
              · have h := ite_t c9 h
                refine lv_aload C0.1 C0.2.1 dL_law_385 (lv_at hl 9 rfl) ?_
                refine lv_iload C0.1 C0.2.1 dL_law_387 (lv_at hl 11 rfl) ?_
                refine lv_aload C0.1 C0.2.1 dL_law_389 (lv_at hl 6 rfl) ?_
                refine lv_iload C0.1 C0.2.1 dL_law_391 (lv_at hl 11 rfl) ?_
                refine lv_iconst (v := I 1) C0.1 C0.2.1 dL_law_393 rfl ?_
                obtain ⟨v55, e_v55, i_v55, h⟩ := oadd_s h
                refine x_add C0 e_v55 dL_law_394 ?_
                obtain ⟨v56, e_v56, i_v56, h⟩ := rdA_s hM h
                refine rowB_l C0 hE b_a i_v55 e_v56 dL_law_395 ?_
                obtain ⟨m57, e_m57, hM, h⟩ := wr_s hM i_v56 h
                refine bB_st C0 hE i_x51 e_m57 dL_law_396 (fun H locs hE => ?_)
                obtain ⟨v58, e_v58, i_v58, h⟩ := oadd_s h
                refine x_iinc (lv' := [(17, .int (I v58)), (0, .ref b), (1, .ref (g.2 0)), (2, .ref (g.2 46)), (3, .ref (g.2 47)), (4, .int (I k)), (8, .int (I l8)), (11, .ref (g.2 (51 + a11.toNat))), (12, .int (I d12)), (13, .int (I v42)), (14, .ref (g.2 48)), (15, .int (I v47))]) C0 dL_law_397 hl (k := 11) rfl e_v58 (by decide) rfl (fun ls hl => ?_)
                refine x_goto C0 dL_law_400 (tgt := 378) (by decide) ?_
                exact ih52 s53 hR m57 hM v58 i_v58 _ _ _ hE (lv_sub hl [1, 2, 3, 4, 5, 6, 7, 8, 9, 10, 11, 0] rfl) h
          exact hL378 FU s43 hR m2 hM 0 lit_0 _ _ _ hE (lv_sub hl [4, 5, 6, 7, 8, 12, 15, 16, 2, 17, 1, 0] rfl) h
        · have h := ite_f c9 h
          refine lv_iconst (v := I 0) C0.1 C0.2.1 dL_law_370 rfl ?_
          cases h
      · have h := ite_t c9 h
        refine lv_iload C0.1 C0.2.1 dL_law_347 (lv_at hl 0 rfl) ?_
        refine lv_bipush (v := I (-2)) C0.1 C0.2.1 dL_law_349 (by decide +kernel) ?_
        refine x_icmp_eq C0 i_v42 lit_m2 dL_law_351 (tgt := 1401) (by decide) (fun c9 => ?_) (fun c9 => ?_)
        · have h := ite_t c9 h
          exact h_k7 s43 hR m2 hM _ _ _ hE (lv_sub hl [2, 3, 4, 5, 6] rfl) h
        · have h := ite_f c9 h
          refine lv_iconst (v := I 0) C0.1 C0.2.1 dL_law_354 rfl ?_
          cases h
    have h := ite_f q41 h
    by_cases q59 : v4 = 5
    · have h := ite_t q59 h
      refine x_tabIn (tgt := 406) C0 5 i_v4 dL_law_160 q59 ⟨by decide, by decide, by rfl⟩ (by decide) ?_
      refine lv_aload_n C0.1 C0.2.1 dL_law_406 rfl (lv_at hl 2 rfl) ?_
      refine lv_iload C0.1 C0.2.1 dL_law_407 (lv_at hl 7 rfl) ?_
      refine lv_iload C0.1 C0.2.1 dL_law_409 (lv_at hl 9 rfl) ?_
      obtain ⟨v60, s61, h_v60, h⟩ := bnd_s h
      refine lawB_i (rest := []) (σ' := s61) C0 hml hE (c_E_last l D g hR i_i6 i_l8 h_v60) kw_L_46 ⟨Nat.le_of_ble_eq_true rfl, Nat.le_of_ble_eq_true rfl⟩ rfl hl.1 rfl (Nat.le_of_ble_eq_true rfl) dL_law_411 hc (fun H locs hE ⟨i_v60, hR⟩ => ?_)
      refine lv_istore (lv' := [(13, .int (I v60)), (16, .int (I 1)), (0, .ref b), (1, .ref (g.2 0)), (2, .ref (g.2 46)), (3, .ref (g.2 47)), (4, .int (I k)), (5, .int (I c5)), (6, .int (I i6)), (7, .int (I j7)), (8, .int (I l8)), (9, .int (I v9)), (10, .int (I n10)), (11, .ref (g.2 (51 + a11.toNat))), (12, .int (I d12)), (14, .ref (g.2 48)), (15, .int (I n10))]) C0.1 C0.2.1 dL_law_414 hl (by decide) rfl (fun ls hl => ?_)
      refine lv_iload C0.1 C0.2.1 dL_law_416 (lv_at hl 12 rfl) ?_
      refine x_if_ne C0 i_n10 dL_law_418 (tgt := 430) (by decide) (fun c9 => ?_) (fun c9 => ?_)
      · have h := ite_f c9 h
        refine lv_aload_n C0.1 C0.2.1 dL_law_430 rfl (lv_at hl 3 rfl) ?_
        refine lv_iconst (v := I 0) C0.1 C0.2.1 dL_law_431 rfl ?_
        obtain ⟨v62, h_v62, h⟩ := bndp_s h
        refine lawB_l (rest := []) (σ' := s61) C0 hml hE (c_E_row l D g hR lit_0 h_v62) kw_L_42 ⟨Nat.le_of_ble_eq_true rfl, Nat.le_of_ble_eq_true rfl⟩ rfl hl.1 rfl (Nat.le_of_ble_eq_true rfl) dL_law_432 hc (fun H locs hE i_v62 => ?_)
        refine lv_aload C0.1 C0.2.1 dL_law_435 (lv_at hl 13 rfl) ?_
        refine lv_iload C0.1 C0.2.1 dL_law_437 (lv_at hl 12 rfl) ?_
        refine lv_iconst (v := I 1) C0.1 C0.2.1 dL_law_439 rfl ?_
        obtain ⟨v63, e_v63, i_v63, h⟩ := osub_s h
        refine x_sub C0 e_v63 dL_law_440 ?_
        obtain ⟨v64, e_v64, i_v64, h⟩ := rdA_s hM h
        refine rowB_l C0 hE b_a i_v63 e_v64 dL_law_441 ?_
        refine x_i2l C0 i_v64 dL_law_442 ?_
        obtain ⟨v65, e_v65, i_v65, h⟩ := opure_s h (lcmpv_in _ _)
        refine x_lcmp C0 i_v62 (in64_of i_v64) e_v65 dL_law_443 ?_
        refine x_if_eq C0 i_v65 dL_law_444 (tgt := 449) (by decide) (fun c9 => ?_) (fun c9 => ?_)
        · have h := ite_t c9 h
          obtain ⟨v66, e_v66, i_v66, h⟩ := oadd_s h
          refine x_iinc (lv' := [(15, .int (I v66)), (13, .int (I v60)), (16, .int (I 1)), (0, .ref b), (1, .ref (g.2 0)), (2, .ref (g.2 46)), (3, .ref (g.2 47)), (4, .int (I k)), (5, .int (I c5)), (6, .int (I i6)), (7, .int (I j7)), (8, .int (I l8)), (9, .int (I v9)), (10, .int (I n10)), (11, .ref (g.2 (51 + a11.toNat))), (12, .int (I d12)), (14, .ref (g.2 48))]) C0 dL_law_449 hl (k := 16) rfl e_v66 (by decide) rfl (fun ls hl => ?_)
          refine x_goto C0 dL_law_452 (tgt := 1273) (by decide) ?_
          exact h_k12 s61 hR m2 hM v60 i_v60 v66 i_v66 _ _ _ hE (lv_sub hl [3, 4, 5, 6, 7, 11, 15, 1, 16, 0] rfl) h
        · have h := ite_f c9 h
          refine lv_iconst (v := I 0) C0.1 C0.2.1 dL_law_447 rfl ?_
          cases h
      · have h := ite_t c9 h
        refine lv_iload C0.1 C0.2.1 dL_law_421 (lv_at hl 0 rfl) ?_
        refine lv_bipush (v := I (-2)) C0.1 C0.2.1 dL_law_423 (by decide +kernel) ?_
        refine x_icmp_eq C0 i_v60 lit_m2 dL_law_425 (tgt := 1401) (by decide) (fun c9 => ?_) (fun c9 => ?_)
        · have h := ite_t c9 h
          exact h_k7 s61 hR m2 hM _ _ _ hE (lv_sub hl [2, 3, 4, 5, 6] rfl) h
        · have h := ite_f c9 h
          refine lv_iconst (v := I 0) C0.1 C0.2.1 dL_law_428 rfl ?_
          cases h
    have h := ite_f q59 h
    by_cases q67 : v4 = 6
    · have h := ite_t q67 h
      refine x_tabIn (tgt := 455) C0 6 i_v4 dL_law_160 q67 ⟨by decide, by decide, by rfl⟩ (by decide) ?_
      refine lv_iload C0.1 C0.2.1 dL_law_455 (lv_at hl 6 rfl) ?_
      refine lv_bipush (v := I 27) C0.1 C0.2.1 dL_law_457 (by decide +kernel) ?_
      obtain ⟨v68, e_v68, i_v68, h⟩ := opure_s h (bushr_in _ _)
      refine x_ushr C0 e_v68 dL_law_459 ?_
      refine lv_iload C0.1 C0.2.1 dL_law_460 (lv_at hl 11 rfl) ?_
      refine lv_iconst (v := I 1) C0.1 C0.2.1 dL_law_462 rfl ?_
      obtain ⟨v69, e_v69, i_v69, h⟩ := oadd_s h
      refine x_add C0 e_v69 dL_law_463 ?_
      obtain ⟨v70, e_v70, i_v70, h⟩ := orem_s i_v69 h
      refine x_rem C0 i_v68 i_v69 e_v70 dL_law_464 ?_
      refine lv_istore (lv' := [(17, .int (I v70)), (16, .int (I 1)), (0, .ref b), (1, .ref (g.2 0)), (2, .ref (g.2 46)), (3, .ref (g.2 47)), (4, .int (I k)), (5, .int (I c5)), (6, .int (I i6)), (7, .int (I j7)), (8, .int (I l8)), (9, .int (I v9)), (10, .int (I n10)), (11, .ref (g.2 (51 + a11.toNat))), (12, .int (I d12)), (14, .ref (g.2 48)), (15, .int (I n10))]) C0.1 C0.2.1 dL_law_465 hl (by decide) rfl (fun ls hl => ?_)
      refine lv_aload_n C0.1 C0.2.1 dL_law_467 rfl (lv_at hl 3 rfl) ?_
      refine lv_iload C0.1 C0.2.1 dL_law_468 (lv_at hl 8 rfl) ?_
      refine lv_iload C0.1 C0.2.1 dL_law_470 (lv_at hl 0 rfl) ?_
      refine lv_iload C0.1 C0.2.1 dL_law_472 (lv_at hl 11 rfl) ?_
      refine lv_iload C0.1 C0.2.1 dL_law_474 (lv_at hl 10 rfl) ?_
      obtain ⟨v71, s72, h_v71, h⟩ := bnd_s h
      refine lawB_i (rest := []) (σ' := s72) C0 hml hE (c_E_sets l D g hR i_i6 i_v70 i_v9 i_l8 h_v71) kw_L_49 ⟨Nat.le_of_ble_eq_true rfl, Nat.le_of_ble_eq_true rfl⟩ rfl hl.1 rfl (Nat.le_of_ble_eq_true rfl) dL_law_476 hc (fun H locs hE ⟨i_v71, hR⟩ => ?_)
      refine lv_istore (lv' := [(13, .int (I v71)), (17, .int (I v70)), (16, .int (I 1)), (0, .ref b), (1, .ref (g.2 0)), (2, .ref (g.2 46)), (3, .ref (g.2 47)), (4, .int (I k)), (5, .int (I c5)), (6, .int (I i6)), (7, .int (I j7)), (8, .int (I l8)), (9, .int (I v9)), (10, .int (I n10)), (11, .ref (g.2 (51 + a11.toNat))), (12, .int (I d12)), (14, .ref (g.2 48)), (15, .int (I n10))]) C0.1 C0.2.1 dL_law_479 hl (by decide) rfl (fun ls hl => ?_)
      refine lv_iload C0.1 C0.2.1 dL_law_481 (lv_at hl 1 rfl) ?_
      refine lv_iload C0.1 C0.2.1 dL_law_483 (lv_at hl 13 rfl) ?_
      refine x_icmp_ne C0 i_v70 i_n10 dL_law_485 (tgt := 496) (by decide) (fun c9 => ?_) (fun c9 => ?_)
      · have h := ite_f c9 h
        refine lv_aload C0.1 C0.2.1 dL_law_496 (lv_at hl 16 rfl) ?_
        refine lv_iload C0.1 C0.2.1 dL_law_498 (lv_at hl 1 rfl) ?_
        refine lv_iload C0.1 C0.2.1 dL_law_500 (lv_at hl 12 rfl) ?_
        obtain ⟨m73, e_m73, hM, h⟩ := wr_s hM i_v9 h
        refine bB_st C0 hE i_v70 e_m73 dL_law_502 (fun H locs hE => ?_)
        refine lv_iload C0.1 C0.2.1 dL_law_503 (lv_at hl 0 rfl) ?_
        obtain ⟨v74, e_v74, i_v74, h⟩ := oif_s h
        have kk_v74 : W p l e room_1 s m #[Value.ref b] below meth c H locs cells slots Q (F0 m 513 ls [.int (I v74)]) := by
          refine lv_aload C0.1 C0.2.1 dL_law_513 (lv_at hl 14 rfl) ?_
          refine lv_iload C0.1 C0.2.1 dL_law_515 (lv_at hl 1 rfl) ?_
          obtain ⟨v75, e_v75, i_v75, h⟩ := rdA_s hM h
          refine rowB_l C0 hE b_a i_v70 e_v75 dL_law_517 ?_
          refine lv_iload C0.1 C0.2.1 dL_law_518 (lv_at hl 12 rfl) ?_
          obtain ⟨v76, e_v76, i_v76, h⟩ := oif_s h
          have kk_v76 : W p l e room_1 s m #[Value.ref b] below meth c H locs cells slots Q (F0 m 528 ls [.int (I v76), .int (I v74)]) := by
            refine x_icmp_eq C0 i_v74 i_v76 dL_law_528 (tgt := 1273) (by decide) (fun c9 => ?_) (fun c9 => ?_)
            · have h := ite_t c9 h
              exact h_k12 s72 hR m73 hM v71 i_v71 n10 i_n10 _ _ _ hE (lv_sub hl [3, 4, 5, 6, 7, 11, 15, 0, 16, 17] rfl) h
            · have h := ite_f c9 h
              refine lv_iconst (v := I 0) C0.1 C0.2.1 dL_law_531 rfl ?_
              cases h
          refine x_icmp_eq C0 i_v75 i_v9 dL_law_520 (tgt := 527) (by decide) (fun c9 => ?_) (fun c9 => ?_)
          · have e9 := e_v76.trans (if_pos c9)
            refine lv_iconst (v := I 0) C0.1 C0.2.1 dL_law_527 rfl ?_
            rw [e9] at kk_v76; exact kk_v76
          · have e9 := e_v76.trans (if_neg c9)
            refine lv_iconst (v := I 1) C0.1 C0.2.1 dL_law_523 rfl ?_
            refine x_goto C0 dL_law_524 (tgt := 528) (by decide) ?_
            rw [e9] at kk_v76; exact kk_v76
        refine x_if_le C0 i_v71 dL_law_505 (tgt := 512) (by decide) (fun c9 => ?_) (fun c9 => ?_)
        · have e9 := e_v74.trans (if_neg c9)
          refine lv_iconst (v := I 0) C0.1 C0.2.1 dL_law_512 rfl ?_
          rw [e9] at kk_v74; exact kk_v74
        · have e9 := e_v74.trans (if_pos c9)
          refine lv_iconst (v := I 1) C0.1 C0.2.1 dL_law_508 rfl ?_
          refine x_goto C0 dL_law_509 (tgt := 513) (by decide) ?_
          rw [e9] at kk_v74; exact kk_v74
      · have h := ite_t c9 h
        refine lv_iload C0.1 C0.2.1 dL_law_488 (lv_at hl 0 rfl) ?_
        refine lv_iconst (v := I (-1)) C0.1 C0.2.1 dL_law_490 rfl ?_
        refine x_icmp_eq C0 i_v71 lit_m1 dL_law_491 (tgt := 1401) (by decide) (fun c9 => ?_) (fun c9 => ?_)
        · have h := ite_t c9 h
          exact h_k7 s72 hR m2 hM _ _ _ hE (lv_sub hl [3, 4, 5, 6, 7] rfl) h
        · have h := ite_f c9 h
          refine lv_iconst (v := I 0) C0.1 C0.2.1 dL_law_494 rfl ?_
          cases h
    have h := ite_f q67 h
    by_cases q77 : v4 = 7
    · have h := ite_t q77 h
      refine x_tabIn (tgt := 533) C0 7 i_v4 dL_law_160 q77 ⟨by decide, by decide, by rfl⟩ (by decide) ?_
      refine lv_iload C0.1 C0.2.1 dL_law_533 (lv_at hl 6 rfl) ?_
      refine lv_bipush (v := I 27) C0.1 C0.2.1 dL_law_535 (by decide +kernel) ?_
      obtain ⟨v78, e_v78, i_v78, h⟩ := opure_s h (bushr_in _ _)
      refine x_ushr C0 e_v78 dL_law_537 ?_
      refine lv_iload C0.1 C0.2.1 dL_law_538 (lv_at hl 11 rfl) ?_
      refine lv_iconst (v := I 1) C0.1 C0.2.1 dL_law_540 rfl ?_
      obtain ⟨v79, e_v79, i_v79, h⟩ := oadd_s h
      refine x_add C0 e_v79 dL_law_541 ?_
      obtain ⟨v80, e_v80, i_v80, h⟩ := orem_s i_v79 h
      refine x_rem C0 i_v78 i_v79 e_v80 dL_law_542 ?_
      refine lv_istore (lv' := [(17, .int (I v80)), (16, .int (I 1)), (0, .ref b), (1, .ref (g.2 0)), (2, .ref (g.2 46)), (3, .ref (g.2 47)), (4, .int (I k)), (5, .int (I c5)), (6, .int (I i6)), (7, .int (I j7)), (8, .int (I l8)), (9, .int (I v9)), (10, .int (I n10)), (11, .ref (g.2 (51 + a11.toNat))), (12, .int (I d12)), (14, .ref (g.2 48)), (15, .int (I n10))]) C0.1 C0.2.1 dL_law_543 hl (by decide) rfl (fun ls hl => ?_)
      refine lv_aload_n C0.1 C0.2.1 dL_law_545 rfl (lv_at hl 3 rfl) ?_
      refine lv_iload C0.1 C0.2.1 dL_law_546 (lv_at hl 8 rfl) ?_
      refine lv_iload C0.1 C0.2.1 dL_law_548 (lv_at hl 0 rfl) ?_
      refine lv_iload C0.1 C0.2.1 dL_law_550 (lv_at hl 12 rfl) ?_
      refine lv_iload C0.1 C0.2.1 dL_law_552 (lv_at hl 11 rfl) ?_
      refine lv_iload C0.1 C0.2.1 dL_law_554 (lv_at hl 10 rfl) ?_
      obtain ⟨v81, s82, h_v81, h⟩ := bnd_s h
      refine lawB_i (rest := []) (σ' := s82) C0 hml hE (c_E_adds l D g hR i_i6 i_v80 i_n10 i_v9 i_l8 h_v81) kw_L_53 ⟨Nat.le_of_ble_eq_true rfl, Nat.le_of_ble_eq_true rfl⟩ rfl hl.1 rfl (Nat.le_of_ble_eq_true rfl) dL_law_556 hc (fun H locs hE ⟨i_v81, hR⟩ => ?_)
      refine lv_istore (lv' := [(13, .int (I v81)), (17, .int (I v80)), (16, .int (I 1)), (0, .ref b), (1, .ref (g.2 0)), (2, .ref (g.2 46)), (3, .ref (g.2 47)), (4, .int (I k)), (5, .int (I c5)), (6, .int (I i6)), (7, .int (I j7)), (8, .int (I l8)), (9, .int (I v9)), (10, .int (I n10)), (11, .ref (g.2 (51 + a11.toNat))), (12, .int (I d12)), (14, .ref (g.2 48)), (15, .int (I n10))]) C0.1 C0.2.1 dL_law_559 hl (by decide) rfl (fun ls hl => ?_)
      refine lv_iload C0.1 C0.2.1 dL_law_561 (lv_at hl 1 rfl) ?_
      refine lv_istore (lv' := [(18, .int (I v80)), (13, .int (I v81)), (17, .int (I v80)), (16, .int (I 1)), (0, .ref b), (1, .ref (g.2 0)), (2, .ref (g.2 46)), (3, .ref (g.2 47)), (4, .int (I k)), (5, .int (I c5)), (6, .int (I i6)), (7, .int (I j7)), (8, .int (I l8)), (9, .int (I v9)), (10, .int (I n10)), (11, .ref (g.2 (51 + a11.toNat))), (12, .int (I d12)), (14, .ref (g.2 48)), (15, .int (I n10))]) C0.1 C0.2.1 dL_law_563 hl (by decide) rfl (fun ls hl => ?_)
      obtain ⟨k85, e_k85, h⟩ := jn_s h
      have h_k85 : ∀ (s83 : St) (hR : R32 s83) (m84 : St) (hM : R32 m84) (H : Heap) (locs : List Loc) (ls : Array Slot), EW D (aL s) s.heap (wB g s83 m84) H locs → lv_has ls 20 [(0, .ref b), (1, .ref (g.2 0)), (2, .ref (g.2 46)), (3, .ref (g.2 47)), (4, .int (I k)), (8, .int (I l8)), (12, .int (I d12)), (13, .int (I v81)), (14, .ref (g.2 48)), (15, .int (I n10))] → k85 s83 m84 = some (σr, μr) → W p l e room_1 s m #[Value.ref b] below meth c H locs cells slots Q (F0 m 594 ls []) := by
        intro s83 hR m84 hM H locs ls hE hl h
        have h := (congrFun (congrFun e_k85 s83) m84).symm.trans h
        refine x_goto C0 dL_law_594 (tgt := 1273) (by decide) ?_
        exact h_k12 s83 hR m84 hM v81 i_v81 n10 i_n10 _ _ _ hE (lv_sub hl [0, 1, 2, 3, 4, 5, 6, 7, 8, 9] rfl) h
      have hL565 : ∀ (n : Nat) (s88 : St) (hR : R32 s88) (m89 : St) (hM : R32 m89) (x86 : Int) (i_x86 : in32 x86) (H : Heap) (locs : List Loc) (ls : Array Slot), EW D (aL s) s.heap (wB g s88 m89) H locs → lv_has ls 20 [(0, .ref b), (1, .ref (g.2 0)), (2, .ref (g.2 46)), (3, .ref (g.2 47)), (4, .int (I k)), (8, .int (I l8)), (9, .int (I v9)), (10, .int (I n10)), (12, .int (I d12)), (13, .int (I v81)), (14, .ref (g.2 48)), (15, .int (I n10)), (18, .int (I x86))] → L_mid_L565 k85 v9 n10 n s88 m89 x86 = some (σr, μr) → W p l e room_1 s m #[Value.ref b] below meth c H locs cells slots Q (F0 m 565 ls []) := by
        intro n
        induction n with
        | zero => intros; rename_i h; cases h
        | succ n ih87 =>
          intro s88 hR m89 hM x86 i_x86 H locs ls hE hl h
          unfold L_mid_L565 at h
          refine lv_iload C0.1 C0.2.1 dL_law_565 (lv_at hl 12 rfl) ?_
          refine lv_iload C0.1 C0.2.1 dL_law_567 (lv_at hl 7 rfl) ?_
          refine x_icmp_ge C0 i_x86 i_n10 dL_law_569 (tgt := 594) (by decide) (fun c9 => ?_) (fun c9 => ?_)
          · have h := ite_f c9 h
            exact h_k85 s88 hR m89 hM _ _ _ hE (lv_sub hl [0, 1, 2, 3, 4, 5, 8, 9, 10, 11] rfl) h
          · have h := ite_t c9 h
            refine lv_aload C0.1 C0.2.1 dL_law_572 (lv_at hl 10 rfl) ?_
            refine lv_iload C0.1 C0.2.1 dL_law_574 (lv_at hl 12 rfl) ?_
            refine lv_aload C0.1 C0.2.1 dL_law_576 (lv_at hl 10 rfl) ?_
            refine lv_iload C0.1 C0.2.1 dL_law_578 (lv_at hl 12 rfl) ?_
            obtain ⟨v90, e_v90, i_v90, h⟩ := rd_s hM h
            refine bB_l C0 hE i_x86 e_v90 dL_law_580 ?_
            refine lv_iload C0.1 C0.2.1 dL_law_581 (lv_at hl 6 rfl) ?_
            obtain ⟨v91, e_v91, i_v91, h⟩ := oadd_s h
            refine x_add C0 e_v91 dL_law_583 ?_
            obtain ⟨v92, h_v92, h⟩ := bndp_s h
            refine lawSB_i (rest := [.int (I x86), .ref (g.2 48)]) (σ' := s88) C0 hml hE (c_Lw_held l D g (σ := s88) i_v91 h_v92) kw_L_57 ⟨Nat.le_of_ble_eq_true rfl, Nat.le_of_ble_eq_true rfl⟩ rfl hl.1 rfl (Nat.le_of_ble_eq_true rfl) dL_law_584 hc (fun H locs hE i_v92 => ?_)
            obtain ⟨m93, e_m93, hM, h⟩ := wr_s hM i_v92 h
            refine bB_st C0 hE i_x86 e_m93 dL_law_587 (fun H locs hE => ?_)
            obtain ⟨v94, e_v94, i_v94, h⟩ := oadd_s h
            refine x_iinc (lv' := [(18, .int (I v94)), (0, .ref b), (1, .ref (g.2 0)), (2, .ref (g.2 46)), (3, .ref (g.2 47)), (4, .int (I k)), (8, .int (I l8)), (9, .int (I v9)), (10, .int (I n10)), (12, .int (I d12)), (13, .int (I v81)), (14, .ref (g.2 48)), (15, .int (I n10))]) C0 dL_law_588 hl (k := 12) rfl e_v94 (by decide) rfl (fun ls hl => ?_)
            refine x_goto C0 dL_law_591 (tgt := 565) (by decide) ?_
            exact ih87 s88 hR m93 hM v94 i_v94 _ _ _ hE (lv_sub hl [1, 2, 3, 4, 5, 6, 7, 8, 9, 10, 11, 12, 0] rfl) h
      exact hL565 FU s82 hR m2 hM v80 i_v80 _ _ _ hE (lv_sub hl [4, 5, 6, 7, 8, 12, 13, 14, 16, 1, 17, 18, 0] rfl) h
    have h := ite_f q77 h
    by_cases q95 : v4 = 8
    · have h := ite_t q95 h
      refine x_tabIn (tgt := 597) C0 8 i_v4 dL_law_160 q95 ⟨by decide, by decide, by rfl⟩ (by decide) ?_
      refine lv_iload C0.1 C0.2.1 dL_law_597 (lv_at hl 6 rfl) ?_
      refine lv_bipush (v := I 27) C0.1 C0.2.1 dL_law_599 (by decide +kernel) ?_
      obtain ⟨v96, e_v96, i_v96, h⟩ := opure_s h (bushr_in _ _)
      refine x_ushr C0 e_v96 dL_law_601 ?_
      refine lv_iload C0.1 C0.2.1 dL_law_602 (lv_at hl 11 rfl) ?_
      refine lv_iconst (v := I 1) C0.1 C0.2.1 dL_law_604 rfl ?_
      obtain ⟨v97, e_v97, i_v97, h⟩ := oadd_s h
      refine x_add C0 e_v97 dL_law_605 ?_
      obtain ⟨v98, e_v98, i_v98, h⟩ := orem_s i_v97 h
      refine x_rem C0 i_v96 i_v97 e_v98 dL_law_606 ?_
      refine lv_istore (lv' := [(17, .int (I v98)), (16, .int (I 1)), (0, .ref b), (1, .ref (g.2 0)), (2, .ref (g.2 46)), (3, .ref (g.2 47)), (4, .int (I k)), (5, .int (I c5)), (6, .int (I i6)), (7, .int (I j7)), (8, .int (I l8)), (9, .int (I v9)), (10, .int (I n10)), (11, .ref (g.2 (51 + a11.toNat))), (12, .int (I d12)), (14, .ref (g.2 48)), (15, .int (I n10))]) C0.1 C0.2.1 dL_law_607 hl (by decide) rfl (fun ls hl => ?_)
      refine lv_aload_n C0.1 C0.2.1 dL_law_609 rfl (lv_at hl 3 rfl) ?_
      refine lv_iload C0.1 C0.2.1 dL_law_610 (lv_at hl 8 rfl) ?_
      refine lv_iload C0.1 C0.2.1 dL_law_612 (lv_at hl 0 rfl) ?_
      refine lv_iload C0.1 C0.2.1 dL_law_614 (lv_at hl 10 rfl) ?_
      obtain ⟨v99, s100, h_v99, h⟩ := bnd_s h
      refine lawB_i (rest := []) (σ' := s100) C0 hml hE (c_E_keeps l D g hR i_i6 i_v98 i_l8 h_v99) kw_L_60 ⟨Nat.le_of_ble_eq_true rfl, Nat.le_of_ble_eq_true rfl⟩ rfl hl.1 rfl (Nat.le_of_ble_eq_true rfl) dL_law_616 hc (fun H locs hE ⟨i_v99, hR⟩ => ?_)
      refine lv_istore (lv' := [(13, .int (I v99)), (17, .int (I v98)), (16, .int (I 1)), (0, .ref b), (1, .ref (g.2 0)), (2, .ref (g.2 46)), (3, .ref (g.2 47)), (4, .int (I k)), (5, .int (I c5)), (6, .int (I i6)), (7, .int (I j7)), (8, .int (I l8)), (9, .int (I v9)), (10, .int (I n10)), (11, .ref (g.2 (51 + a11.toNat))), (12, .int (I d12)), (14, .ref (g.2 48)), (15, .int (I n10))]) C0.1 C0.2.1 dL_law_619 hl (by decide) rfl (fun ls hl => ?_)
      refine lv_iload C0.1 C0.2.1 dL_law_621 (lv_at hl 1 rfl) ?_
      refine lv_istore (lv' := [(15, .int (I v98)), (13, .int (I v99)), (17, .int (I v98)), (16, .int (I 1)), (0, .ref b), (1, .ref (g.2 0)), (2, .ref (g.2 46)), (3, .ref (g.2 47)), (4, .int (I k)), (5, .int (I c5)), (6, .int (I i6)), (7, .int (I j7)), (8, .int (I l8)), (9, .int (I v9)), (10, .int (I n10)), (11, .ref (g.2 (51 + a11.toNat))), (12, .int (I d12)), (14, .ref (g.2 48))]) C0.1 C0.2.1 dL_law_623 hl (by decide) rfl (fun ls hl => ?_)
      refine x_goto C0 dL_law_625 (tgt := 1273) (by decide) ?_
      exact h_k12 s100 hR m2 hM v99 i_v99 v98 i_v98 _ _ _ hE (lv_sub hl [4, 5, 6, 7, 8, 12, 16, 1, 17, 0] rfl) h
    have h := ite_f q95 h
    by_cases q101 : v4 = 9
    · have h := ite_t q101 h
      refine x_tabIn (tgt := 628) C0 9 i_v4 dL_law_160 q101 ⟨by decide, by decide, by rfl⟩ (by decide) ?_
      refine lv_iload C0.1 C0.2.1 dL_law_628 (lv_at hl 6 rfl) ?_
      refine lv_bipush (v := I 27) C0.1 C0.2.1 dL_law_630 (by decide +kernel) ?_
      obtain ⟨v102, e_v102, i_v102, h⟩ := opure_s h (bushr_in _ _)
      refine x_ushr C0 e_v102 dL_law_632 ?_
      refine lv_iload C0.1 C0.2.1 dL_law_633 (lv_at hl 11 rfl) ?_
      refine lv_iconst (v := I 1) C0.1 C0.2.1 dL_law_635 rfl ?_
      obtain ⟨v103, e_v103, i_v103, h⟩ := oadd_s h
      refine x_add C0 e_v103 dL_law_636 ?_
      obtain ⟨v104, e_v104, i_v104, h⟩ := orem_s i_v103 h
      refine x_rem C0 i_v102 i_v103 e_v104 dL_law_637 ?_
      refine lv_istore (lv' := [(17, .int (I v104)), (16, .int (I 1)), (0, .ref b), (1, .ref (g.2 0)), (2, .ref (g.2 46)), (3, .ref (g.2 47)), (4, .int (I k)), (5, .int (I c5)), (6, .int (I i6)), (7, .int (I j7)), (8, .int (I l8)), (9, .int (I v9)), (10, .int (I n10)), (11, .ref (g.2 (51 + a11.toNat))), (12, .int (I d12)), (14, .ref (g.2 48)), (15, .int (I n10))]) C0.1 C0.2.1 dL_law_638 hl (by decide) rfl (fun ls hl => ?_)
      refine lv_aload_n C0.1 C0.2.1 dL_law_640 rfl (lv_at hl 3 rfl) ?_
      refine lv_iload C0.1 C0.2.1 dL_law_641 (lv_at hl 8 rfl) ?_
      refine lv_iload C0.1 C0.2.1 dL_law_643 (lv_at hl 0 rfl) ?_
      refine lv_iload C0.1 C0.2.1 dL_law_645 (lv_at hl 10 rfl) ?_
      obtain ⟨v105, s106, h_v105, h⟩ := bnd_s h
      refine lawB_i (rest := []) (σ' := s106) C0 hml hE (c_E_skips l D g hR i_i6 i_v104 i_l8 h_v105) kw_L_63 ⟨Nat.le_of_ble_eq_true rfl, Nat.le_of_ble_eq_true rfl⟩ rfl hl.1 rfl (Nat.le_of_ble_eq_true rfl) dL_law_647 hc (fun H locs hE ⟨i_v105, hR⟩ => ?_)
      refine lv_istore (lv' := [(13, .int (I v105)), (17, .int (I v104)), (16, .int (I 1)), (0, .ref b), (1, .ref (g.2 0)), (2, .ref (g.2 46)), (3, .ref (g.2 47)), (4, .int (I k)), (5, .int (I c5)), (6, .int (I i6)), (7, .int (I j7)), (8, .int (I l8)), (9, .int (I v9)), (10, .int (I n10)), (11, .ref (g.2 (51 + a11.toNat))), (12, .int (I d12)), (14, .ref (g.2 48)), (15, .int (I n10))]) C0.1 C0.2.1 dL_law_650 hl (by decide) rfl (fun ls hl => ?_)
      refine lv_iload C0.1 C0.2.1 dL_law_652 (lv_at hl 13 rfl) ?_
      refine lv_iload C0.1 C0.2.1 dL_law_654 (lv_at hl 1 rfl) ?_
      obtain ⟨v107, e_v107, i_v107, h⟩ := osub_s h
      refine x_sub C0 e_v107 dL_law_656 ?_
      refine lv_istore (lv' := [(15, .int (I v107)), (13, .int (I v105)), (17, .int (I v104)), (16, .int (I 1)), (0, .ref b), (1, .ref (g.2 0)), (2, .ref (g.2 46)), (3, .ref (g.2 47)), (4, .int (I k)), (5, .int (I c5)), (6, .int (I i6)), (7, .int (I j7)), (8, .int (I l8)), (9, .int (I v9)), (10, .int (I n10)), (11, .ref (g.2 (51 + a11.toNat))), (12, .int (I d12)), (14, .ref (g.2 48))]) C0.1 C0.2.1 dL_law_657 hl (by decide) rfl (fun ls hl => ?_)
      refine lv_iconst (v := I 0) C0.1 C0.2.1 dL_law_659 rfl ?_
      refine lv_istore (lv' := [(18, .int (I 0)), (15, .int (I v107)), (13, .int (I v105)), (17, .int (I v104)), (16, .int (I 1)), (0, .ref b), (1, .ref (g.2 0)), (2, .ref (g.2 46)), (3, .ref (g.2 47)), (4, .int (I k)), (5, .int (I c5)), (6, .int (I i6)), (7, .int (I j7)), (8, .int (I l8)), (9, .int (I v9)), (10, .int (I n10)), (11, .ref (g.2 (51 + a11.toNat))), (12, .int (I d12)), (14, .ref (g.2 48))]) C0.1 C0.2.1 dL_law_660 hl (by decide) rfl (fun ls hl => ?_)
      obtain ⟨k110, e_k110, h⟩ := jn_s h
      have h_k110 : ∀ (s108 : St) (hR : R32 s108) (m109 : St) (hM : R32 m109) (H : Heap) (locs : List Loc) (ls : Array Slot), EW D (aL s) s.heap (wB g s108 m109) H locs → lv_has ls 20 [(0, .ref b), (1, .ref (g.2 0)), (2, .ref (g.2 46)), (3, .ref (g.2 47)), (4, .int (I k)), (8, .int (I l8)), (12, .int (I d12)), (13, .int (I v105)), (14, .ref (g.2 48)), (15, .int (I v107))] → k110 s108 m109 = some (σr, μr) → W p l e room_1 s m #[Value.ref b] below meth c H locs cells slots Q (F0 m 688 ls []) := by
        intro s108 hR m109 hM H locs ls hE hl h
        have h := (congrFun (congrFun e_k110 s108) m109).symm.trans h
        refine x_goto C0 dL_law_688 (tgt := 1273) (by decide) ?_
        exact h_k12 s108 hR m109 hM v105 i_v105 v107 i_v107 _ _ _ hE (lv_sub hl [0, 1, 2, 3, 4, 5, 6, 7, 8, 9] rfl) h
      have hL662 : ∀ (n : Nat) (s113 : St) (hR : R32 s113) (m114 : St) (hM : R32 m114) (x111 : Int) (i_x111 : in32 x111) (H : Heap) (locs : List Loc) (ls : Array Slot), EW D (aL s) s.heap (wB g s113 m114) H locs → lv_has ls 20 [(0, .ref b), (1, .ref (g.2 0)), (2, .ref (g.2 46)), (3, .ref (g.2 47)), (4, .int (I k)), (8, .int (I l8)), (11, .ref (g.2 (51 + a11.toNat))), (12, .int (I d12)), (13, .int (I v105)), (14, .ref (g.2 48)), (15, .int (I v107)), (17, .int (I v104)), (18, .int (I x111))] → L_mid_L662 k110 v107 v104 a11 n s113 m114 x111 = some (σr, μr) → W p l e room_1 s m #[Value.ref b] below meth c H locs cells slots Q (F0 m 662 ls []) := by
        intro n
        induction n with
        | zero => intros; rename_i h; cases h
        | succ n ih112 =>
          intro s113 hR m114 hM x111 i_x111 H locs ls hE hl h
          unfold L_mid_L662 at h
          refine lv_iload C0.1 C0.2.1 dL_law_662 (lv_at hl 12 rfl) ?_
          refine lv_iload C0.1 C0.2.1 dL_law_664 (lv_at hl 10 rfl) ?_
          refine x_icmp_ge C0 i_x111 i_v107 dL_law_666 (tgt := 688) (by decide) (fun c9 => ?_) (fun c9 => ?_)
          · have h := ite_f c9 h
            exact h_k110 s113 hR m114 hM _ _ _ hE (lv_sub hl [0, 1, 2, 3, 4, 5, 7, 8, 9, 10] rfl) h
          · have h := ite_t c9 h
            refine lv_aload C0.1 C0.2.1 dL_law_669 (lv_at hl 9 rfl) ?_
            refine lv_iload C0.1 C0.2.1 dL_law_671 (lv_at hl 12 rfl) ?_
            refine lv_aload C0.1 C0.2.1 dL_law_673 (lv_at hl 6 rfl) ?_
            refine lv_iload C0.1 C0.2.1 dL_law_675 (lv_at hl 12 rfl) ?_
            refine lv_iload C0.1 C0.2.1 dL_law_677 (lv_at hl 11 rfl) ?_
            obtain ⟨v115, e_v115, i_v115, h⟩ := oadd_s h
            refine x_add C0 e_v115 dL_law_679 ?_
            obtain ⟨v116, e_v116, i_v116, h⟩ := rdA_s hM h
            refine rowB_l C0 hE b_a i_v115 e_v116 dL_law_680 ?_
            obtain ⟨m117, e_m117, hM, h⟩ := wr_s hM i_v116 h
            refine bB_st C0 hE i_x111 e_m117 dL_law_681 (fun H locs hE => ?_)
            obtain ⟨v118, e_v118, i_v118, h⟩ := oadd_s h
            refine x_iinc (lv' := [(18, .int (I v118)), (0, .ref b), (1, .ref (g.2 0)), (2, .ref (g.2 46)), (3, .ref (g.2 47)), (4, .int (I k)), (8, .int (I l8)), (11, .ref (g.2 (51 + a11.toNat))), (12, .int (I d12)), (13, .int (I v105)), (14, .ref (g.2 48)), (15, .int (I v107)), (17, .int (I v104))]) C0 dL_law_682 hl (k := 12) rfl e_v118 (by decide) rfl (fun ls hl => ?_)
            refine x_goto C0 dL_law_685 (tgt := 662) (by decide) ?_
            exact ih112 s113 hR m117 hM v118 i_v118 _ _ _ hE (lv_sub hl [1, 2, 3, 4, 5, 6, 7, 8, 9, 10, 11, 12, 0] rfl) h
      exact hL662 FU s106 hR m2 hM 0 lit_0 _ _ _ hE (lv_sub hl [5, 6, 7, 8, 9, 13, 16, 17, 2, 18, 1, 3, 0] rfl) h
    have h := ite_f q101 h
    by_cases q119 : v4 = 10
    · have h := ite_t q119 h
      refine x_tabIn (tgt := 691) C0 10 i_v4 dL_law_160 q119 ⟨by decide, by decide, by rfl⟩ (by decide) ?_
      refine lv_iload C0.1 C0.2.1 dL_law_691 (lv_at hl 11 rfl) ?_
      refine lv_aload_n C0.1 C0.2.1 dL_law_693 rfl (lv_at hl 4 rfl) ?_
      refine lv_iload C0.1 C0.2.1 dL_law_694 (lv_at hl 8 rfl) ?_
      obtain ⟨v120, e_v120, i_v120, h⟩ := rd_s hM h
      refine manyB_l C0 hE i_j7 e_v120 dL_law_696 ?_
      obtain ⟨v121, e_v121, i_v121, h⟩ := oadd_s h
      refine x_add C0 e_v121 dL_law_697 ?_
      refine lv_bipush (v := I 63) C0.1 C0.2.1 dL_law_698 (by decide +kernel) ?_
      refine x_icmp_le C0 i_v121 lit_63 dL_law_700 (tgt := 706) (by decide) (fun c9 => ?_) (fun c9 => ?_)
      · have h := ite_f c9 h
        refine lv_aload_n C0.1 C0.2.1 dL_law_706 rfl (lv_at hl 2 rfl) ?_
        refine lv_iload C0.1 C0.2.1 dL_law_707 (lv_at hl 7 rfl) ?_
        refine lv_iload C0.1 C0.2.1 dL_law_709 (lv_at hl 8 rfl) ?_
        refine lv_iload C0.1 C0.2.1 dL_law_711 (lv_at hl 9 rfl) ?_
        obtain ⟨v122, s123, h_v122, h⟩ := bnd_s h
        refine lawB_i (rest := []) (σ' := s123) C0 hml hE (c_E_appends l D g hR i_i6 i_j7 i_l8 h_v122) kw_L_66 ⟨Nat.le_of_ble_eq_true rfl, Nat.le_of_ble_eq_true rfl⟩ rfl hl.1 rfl (Nat.le_of_ble_eq_true rfl) dL_law_713 hc (fun H locs hE ⟨i_v122, hR⟩ => ?_)
        refine lv_istore (lv' := [(13, .int (I v122)), (16, .int (I 1)), (0, .ref b), (1, .ref (g.2 0)), (2, .ref (g.2 46)), (3, .ref (g.2 47)), (4, .int (I k)), (5, .int (I c5)), (6, .int (I i6)), (7, .int (I j7)), (8, .int (I l8)), (9, .int (I v9)), (10, .int (I n10)), (11, .ref (g.2 (51 + a11.toNat))), (12, .int (I d12)), (14, .ref (g.2 48)), (15, .int (I n10))]) C0.1 C0.2.1 dL_law_716 hl (by decide) rfl (fun ls hl => ?_)
        refine lv_iconst (v := I 0) C0.1 C0.2.1 dL_law_718 rfl ?_
        refine lv_istore (lv' := [(17, .int (I 0)), (13, .int (I v122)), (16, .int (I 1)), (0, .ref b), (1, .ref (g.2 0)), (2, .ref (g.2 46)), (3, .ref (g.2 47)), (4, .int (I k)), (5, .int (I c5)), (6, .int (I i6)), (7, .int (I j7)), (8, .int (I l8)), (9, .int (I v9)), (10, .int (I n10)), (11, .ref (g.2 (51 + a11.toNat))), (12, .int (I d12)), (14, .ref (g.2 48)), (15, .int (I n10))]) C0.1 C0.2.1 dL_law_719 hl (by decide) rfl (fun ls hl => ?_)
        obtain ⟨k126, e_k126, h⟩ := jn_s h
        have h_k126 : ∀ (s124 : St) (hR : R32 s124) (m125 : St) (hM : R32 m125) (H : Heap) (locs : List Loc) (ls : Array Slot), EW D (aL s) s.heap (wB g s124 m125) H locs → lv_has ls 20 [(0, .ref b), (1, .ref (g.2 0)), (2, .ref (g.2 46)), (3, .ref (g.2 47)), (4, .int (I k)), (7, .int (I j7)), (8, .int (I l8)), (10, .int (I n10)), (12, .int (I d12)), (13, .int (I v122)), (14, .ref (g.2 48))] → k126 s124 m125 = some (σr, μr) → W p l e room_1 s m #[Value.ref b] below meth c H locs cells slots Q (F0 m 751 ls []) := by
          intro s124 hR m125 hM H locs ls hE hl h
          have h := (congrFun (congrFun e_k126 s124) m125).symm.trans h
          refine lv_iload C0.1 C0.2.1 dL_law_751 (lv_at hl 7 rfl) ?_
          refine lv_aload_n C0.1 C0.2.1 dL_law_753 rfl (lv_at hl 3 rfl) ?_
          refine lv_iload C0.1 C0.2.1 dL_law_754 (lv_at hl 5 rfl) ?_
          obtain ⟨v127, e_v127, i_v127, h⟩ := rd_s hM h
          refine manyB_l C0 hE i_j7 e_v127 dL_law_756 ?_
          obtain ⟨v128, e_v128, i_v128, h⟩ := oadd_s h
          refine x_add C0 e_v128 dL_law_757 ?_
          refine lv_istore (lv' := [(15, .int (I v128)), (0, .ref b), (1, .ref (g.2 0)), (2, .ref (g.2 46)), (3, .ref (g.2 47)), (4, .int (I k)), (7, .int (I j7)), (8, .int (I l8)), (10, .int (I n10)), (12, .int (I d12)), (13, .int (I v122)), (14, .ref (g.2 48))]) C0.1 C0.2.1 dL_law_758 hl (by decide) rfl (fun ls hl => ?_)
          refine x_goto C0 dL_law_760 (tgt := 1273) (by decide) ?_
          exact h_k12 s124 hR m125 hM v122 i_v122 v128 i_v128 _ _ _ hE (lv_sub hl [1, 2, 3, 4, 5, 7, 9, 10, 11, 0] rfl) h
        have hL721 : ∀ (n : Nat) (s131 : St) (hR : R32 s131) (m132 : St) (hM : R32 m132) (x129 : Int) (i_x129 : in32 x129) (H : Heap) (locs : List Loc) (ls : Array Slot), EW D (aL s) s.heap (wB g s131 m132) H locs → lv_has ls 20 [(0, .ref b), (1, .ref (g.2 0)), (2, .ref (g.2 46)), (3, .ref (g.2 47)), (4, .int (I k)), (7, .int (I j7)), (8, .int (I l8)), (10, .int (I n10)), (12, .int (I d12)), (13, .int (I v122)), (14, .ref (g.2 48)), (17, .int (I x129))] → L_mid_L721 k126 j7 n10 n s131 m132 x129 = some (σr, μr) → W p l e room_1 s m #[Value.ref b] below meth c H locs cells slots Q (F0 m 721 ls []) := by
          intro n
          induction n with
          | zero => intros; rename_i h; cases h
          | succ n ih130 =>
            intro s131 hR m132 hM x129 i_x129 H locs ls hE hl h
            unfold L_mid_L721 at h
            refine lv_iload C0.1 C0.2.1 dL_law_721 (lv_at hl 11 rfl) ?_
            refine lv_aload_n C0.1 C0.2.1 dL_law_723 rfl (lv_at hl 3 rfl) ?_
            refine lv_iload C0.1 C0.2.1 dL_law_724 (lv_at hl 5 rfl) ?_
            obtain ⟨v133, e_v133, i_v133, h⟩ := rd_s hM h
            refine manyB_l C0 hE i_j7 e_v133 dL_law_726 ?_
            refine x_icmp_ge C0 i_x129 i_v133 dL_law_727 (tgt := 751) (by decide) (fun c9 => ?_) (fun c9 => ?_)
            · have h := ite_f c9 h
              exact h_k126 s131 hR m132 hM _ _ _ hE (lv_sub hl [0, 1, 2, 3, 4, 5, 6, 7, 8, 9, 10] rfl) h
            · have h := ite_t c9 h
              refine lv_aload C0.1 C0.2.1 dL_law_730 (lv_at hl 10 rfl) ?_
              refine lv_iload C0.1 C0.2.1 dL_law_732 (lv_at hl 7 rfl) ?_
              refine lv_iload C0.1 C0.2.1 dL_law_734 (lv_at hl 11 rfl) ?_
              obtain ⟨v134, e_v134, i_v134, h⟩ := oadd_s h
              refine x_add C0 e_v134 dL_law_736 ?_
              refine lv_aload_n C0.1 C0.2.1 dL_law_737 rfl (lv_at hl 2 rfl) ?_
              refine lv_iload C0.1 C0.2.1 dL_law_738 (lv_at hl 5 rfl) ?_
              obtain ⟨v135, e_v135, h⟩ := chk6_s h
              refine aald_at C0 hK3 hE rfl i_j7 e_v135 dL_law_740 ?_
              refine lv_iload C0.1 C0.2.1 dL_law_741 (lv_at hl 11 rfl) ?_
              obtain ⟨v136, e_v136, i_v136, h⟩ := rdA_s hM h
              refine rowB_l C0 hE e_v135.2 i_x129 e_v136 dL_law_743 ?_
              obtain ⟨m137, e_m137, hM, h⟩ := wr_s hM i_v136 h
              refine bB_st C0 hE i_v134 e_m137 dL_law_744 (fun H locs hE => ?_)
              obtain ⟨v138, e_v138, i_v138, h⟩ := oadd_s h
              refine x_iinc (lv' := [(17, .int (I v138)), (0, .ref b), (1, .ref (g.2 0)), (2, .ref (g.2 46)), (3, .ref (g.2 47)), (4, .int (I k)), (7, .int (I j7)), (8, .int (I l8)), (10, .int (I n10)), (12, .int (I d12)), (13, .int (I v122)), (14, .ref (g.2 48))]) C0 dL_law_745 hl (k := 11) rfl e_v138 (by decide) rfl (fun ls hl => ?_)
              refine x_goto C0 dL_law_748 (tgt := 721) (by decide) ?_
              exact ih130 s131 hR m137 hM v138 i_v138 _ _ _ hE (lv_sub hl [1, 2, 3, 4, 5, 6, 7, 8, 9, 10, 11, 0] rfl) h
        exact hL721 FU s123 hR m2 hM 0 lit_0 _ _ _ hE (lv_sub hl [3, 4, 5, 6, 7, 10, 11, 13, 15, 1, 16, 0] rfl) h
      · have h := ite_t c9 h
        refine x_goto C0 dL_law_703 (tgt := 1401) (by decide) ?_
        exact h_k7 s1 hR m2 hM _ _ _ hE (lv_sub hl [1, 2, 3, 4, 5] rfl) h
    have h := ite_f q119 h
    by_cases q139 : v4 = 11
    · have h := ite_t q139 h
      refine x_tabIn (tgt := 763) C0 11 i_v4 dL_law_160 q139 ⟨by decide, by decide, by rfl⟩ (by decide) ?_
      refine lv_iload C0.1 C0.2.1 dL_law_763 (lv_at hl 6 rfl) ?_
      refine lv_bipush (v := I 27) C0.1 C0.2.1 dL_law_765 (by decide +kernel) ?_
      obtain ⟨v140, e_v140, i_v140, h⟩ := opure_s h (bushr_in _ _)
      refine x_ushr C0 e_v140 dL_law_767 ?_
      refine lv_istore (lv' := [(17, .int (I v140)), (16, .int (I 1)), (0, .ref b), (1, .ref (g.2 0)), (2, .ref (g.2 46)), (3, .ref (g.2 47)), (4, .int (I k)), (5, .int (I c5)), (6, .int (I i6)), (7, .int (I j7)), (8, .int (I l8)), (9, .int (I v9)), (10, .int (I n10)), (11, .ref (g.2 (51 + a11.toNat))), (12, .int (I d12)), (14, .ref (g.2 48)), (15, .int (I n10))]) C0.1 C0.2.1 dL_law_768 hl (by decide) rfl (fun ls hl => ?_)
      refine lv_aload_n C0.1 C0.2.1 dL_law_770 rfl (lv_at hl 3 rfl) ?_
      refine lv_iload C0.1 C0.2.1 dL_law_771 (lv_at hl 0 rfl) ?_
      refine lv_iload C0.1 C0.2.1 dL_law_773 (lv_at hl 11 rfl) ?_
      refine lv_iload C0.1 C0.2.1 dL_law_775 (lv_at hl 10 rfl) ?_
      obtain ⟨v141, s142, h_v141, h⟩ := bnd_s h
      refine lawB_i (rest := []) (σ' := s142) C0 hml hE (c_E_fills l D g hR i_v140 i_v9 i_l8 h_v141) kw_L_69 ⟨Nat.le_of_ble_eq_true rfl, Nat.le_of_ble_eq_true rfl⟩ rfl hl.1 rfl (Nat.le_of_ble_eq_true rfl) dL_law_777 hc (fun H locs hE ⟨i_v141, hR⟩ => ?_)
      refine lv_istore (lv' := [(13, .int (I v141)), (17, .int (I v140)), (16, .int (I 1)), (0, .ref b), (1, .ref (g.2 0)), (2, .ref (g.2 46)), (3, .ref (g.2 47)), (4, .int (I k)), (5, .int (I c5)), (6, .int (I i6)), (7, .int (I j7)), (8, .int (I l8)), (9, .int (I v9)), (10, .int (I n10)), (11, .ref (g.2 (51 + a11.toNat))), (12, .int (I d12)), (14, .ref (g.2 48)), (15, .int (I n10))]) C0.1 C0.2.1 dL_law_780 hl (by decide) rfl (fun ls hl => ?_)
      refine lv_iload C0.1 C0.2.1 dL_law_782 (lv_at hl 1 rfl) ?_
      refine lv_istore (lv' := [(15, .int (I v140)), (13, .int (I v141)), (17, .int (I v140)), (16, .int (I 1)), (0, .ref b), (1, .ref (g.2 0)), (2, .ref (g.2 46)), (3, .ref (g.2 47)), (4, .int (I k)), (5, .int (I c5)), (6, .int (I i6)), (7, .int (I j7)), (8, .int (I l8)), (9, .int (I v9)), (10, .int (I n10)), (11, .ref (g.2 (51 + a11.toNat))), (12, .int (I d12)), (14, .ref (g.2 48))]) C0.1 C0.2.1 dL_law_784 hl (by decide) rfl (fun ls hl => ?_)
      refine lv_iconst (v := I 0) C0.1 C0.2.1 dL_law_786 rfl ?_
      refine lv_istore (lv' := [(18, .int (I 0)), (15, .int (I v140)), (13, .int (I v141)), (17, .int (I v140)), (16, .int (I 1)), (0, .ref b), (1, .ref (g.2 0)), (2, .ref (g.2 46)), (3, .ref (g.2 47)), (4, .int (I k)), (5, .int (I c5)), (6, .int (I i6)), (7, .int (I j7)), (8, .int (I l8)), (9, .int (I v9)), (10, .int (I n10)), (11, .ref (g.2 (51 + a11.toNat))), (12, .int (I d12)), (14, .ref (g.2 48))]) C0.1 C0.2.1 dL_law_787 hl (by decide) rfl (fun ls hl => ?_)
      obtain ⟨k145, e_k145, h⟩ := jn_s h
      have h_k145 : ∀ (s143 : St) (hR : R32 s143) (m144 : St) (hM : R32 m144) (H : Heap) (locs : List Loc) (ls : Array Slot), EW D (aL s) s.heap (wB g s143 m144) H locs → lv_has ls 20 [(0, .ref b), (1, .ref (g.2 0)), (2, .ref (g.2 46)), (3, .ref (g.2 47)), (4, .int (I k)), (8, .int (I l8)), (12, .int (I d12)), (13, .int (I v141)), (14, .ref (g.2 48)), (15, .int (I v140))] → k145 s143 m144 = some (σr, μr) → W p l e room_1 s m #[Value.ref b] below meth c H locs cells slots Q (F0 m 809 ls []) := by
        intro s143 hR m144 hM H locs ls hE hl h
        have h := (congrFun (congrFun e_k145 s143) m144).symm.trans h
        refine x_goto C0 dL_law_809 (tgt := 1273) (by decide) ?_
        exact h_k12 s143 hR m144 hM v141 i_v141 v140 i_v140 _ _ _ hE (lv_sub hl [0, 1, 2, 3, 4, 5, 6, 7, 8, 9] rfl) h
      have hL789 : ∀ (n : Nat) (s148 : St) (hR : R32 s148) (m149 : St) (hM : R32 m149) (x146 : Int) (i_x146 : in32 x146) (H : Heap) (locs : List Loc) (ls : Array Slot), EW D (aL s) s.heap (wB g s148 m149) H locs → lv_has ls 20 [(0, .ref b), (1, .ref (g.2 0)), (2, .ref (g.2 46)), (3, .ref (g.2 47)), (4, .int (I k)), (8, .int (I l8)), (9, .int (I v9)), (12, .int (I d12)), (13, .int (I v141)), (14, .ref (g.2 48)), (15, .int (I v140)), (18, .int (I x146))] → L_mid_L789 k145 v9 v140 n s148 m149 x146 = some (σr, μr) → W p l e room_1 s m #[Value.ref b] below meth c H locs cells slots Q (F0 m 789 ls []) := by
        intro n
        induction n with
        | zero => intros; rename_i h; cases h
        | succ n ih147 =>
          intro s148 hR m149 hM x146 i_x146 H locs ls hE hl h
          unfold L_mid_L789 at h
          refine lv_iload C0.1 C0.2.1 dL_law_789 (lv_at hl 11 rfl) ?_
          refine lv_iload C0.1 C0.2.1 dL_law_791 (lv_at hl 10 rfl) ?_
          refine x_icmp_ge C0 i_x146 i_v140 dL_law_793 (tgt := 809) (by decide) (fun c9 => ?_) (fun c9 => ?_)
          · have h := ite_f c9 h
            exact h_k145 s148 hR m149 hM _ _ _ hE (lv_sub hl [0, 1, 2, 3, 4, 5, 7, 8, 9, 10] rfl) h
          · have h := ite_t c9 h
            refine lv_aload C0.1 C0.2.1 dL_law_796 (lv_at hl 9 rfl) ?_
            refine lv_iload C0.1 C0.2.1 dL_law_798 (lv_at hl 11 rfl) ?_
            refine lv_iload C0.1 C0.2.1 dL_law_800 (lv_at hl 6 rfl) ?_
            obtain ⟨m150, e_m150, hM, h⟩ := wr_s hM i_v9 h
            refine bB_st C0 hE i_x146 e_m150 dL_law_802 (fun H locs hE => ?_)
            obtain ⟨v151, e_v151, i_v151, h⟩ := oadd_s h
            refine x_iinc (lv' := [(18, .int (I v151)), (0, .ref b), (1, .ref (g.2 0)), (2, .ref (g.2 46)), (3, .ref (g.2 47)), (4, .int (I k)), (8, .int (I l8)), (9, .int (I v9)), (12, .int (I d12)), (13, .int (I v141)), (14, .ref (g.2 48)), (15, .int (I v140))]) C0 dL_law_803 hl (k := 11) rfl e_v151 (by decide) rfl (fun ls hl => ?_)
            refine x_goto C0 dL_law_806 (tgt := 789) (by decide) ?_
            exact ih147 s148 hR m150 hM v151 i_v151 _ _ _ hE (lv_sub hl [1, 2, 3, 4, 5, 6, 7, 8, 9, 10, 11, 0] rfl) h
      exact hL789 FU s142 hR m2 hM 0 lit_0 _ _ _ hE (lv_sub hl [5, 6, 7, 8, 9, 13, 14, 17, 2, 18, 1, 0] rfl) h
    have h := ite_f q139 h
    by_cases q152 : v4 = 12
    · have h := ite_t q152 h
      refine x_tabIn (tgt := 812) C0 12 i_v4 dL_law_160 q152 ⟨by decide, by decide, by rfl⟩ (by decide) ?_
      refine lv_aload_n C0.1 C0.2.1 dL_law_812 rfl (lv_at hl 2 rfl) ?_
      refine lv_iload C0.1 C0.2.1 dL_law_813 (lv_at hl 7 rfl) ?_
      refine lv_iload C0.1 C0.2.1 dL_law_815 (lv_at hl 9 rfl) ?_
      obtain ⟨v153, s154, h_v153, h⟩ := bnd_s h
      refine lawB_i (rest := []) (σ' := s154) C0 hml hE (c_E_heaps l D g hR i_i6 i_l8 h_v153) kw_L_72 ⟨Nat.le_of_ble_eq_true rfl, Nat.le_of_ble_eq_true rfl⟩ rfl hl.1 rfl (Nat.le_of_ble_eq_true rfl) dL_law_817 hc (fun H locs hE ⟨i_v153, hR⟩ => ?_)
      refine lv_istore (lv' := [(13, .int (I v153)), (16, .int (I 1)), (0, .ref b), (1, .ref (g.2 0)), (2, .ref (g.2 46)), (3, .ref (g.2 47)), (4, .int (I k)), (5, .int (I c5)), (6, .int (I i6)), (7, .int (I j7)), (8, .int (I l8)), (9, .int (I v9)), (10, .int (I n10)), (11, .ref (g.2 (51 + a11.toNat))), (12, .int (I d12)), (14, .ref (g.2 48)), (15, .int (I n10))]) C0.1 C0.2.1 dL_law_820 hl (by decide) rfl (fun ls hl => ?_)
      refine lv_aload_n C0.1 C0.2.1 dL_law_822 rfl (lv_at hl 3 rfl) ?_
      refine lv_iload C0.1 C0.2.1 dL_law_823 (lv_at hl 10 rfl) ?_
      obtain ⟨v155, s156, h_v155, h⟩ := bnd_s h
      refine lawB_i (rest := []) (σ' := s156) C0 hml hE (c_E_heap l D g hR i_l8 h_v155) kw_L_75 ⟨Nat.le_of_ble_eq_true rfl, Nat.le_of_ble_eq_true rfl⟩ rfl hl.1 rfl (Nat.le_of_ble_eq_true rfl) dL_law_825 hc (fun H locs hE ⟨i_v155, hR⟩ => ?_)
      refine lv_iconst (v := I 1) C0.1 C0.2.1 dL_law_828 rfl ?_
      refine x_icmp_eq C0 i_v155 lit_1 dL_law_829 (tgt := 834) (by decide) (fun c9 => ?_) (fun c9 => ?_)
      · have h := ite_t c9 h
        refine lv_sipush (v := I 999) C0.1 C0.2.1 dL_law_834 (by decide +kernel) ?_
        refine lv_istore (lv' := [(17, .int (I 999)), (13, .int (I v153)), (16, .int (I 1)), (0, .ref b), (1, .ref (g.2 0)), (2, .ref (g.2 46)), (3, .ref (g.2 47)), (4, .int (I k)), (5, .int (I c5)), (6, .int (I i6)), (7, .int (I j7)), (8, .int (I l8)), (9, .int (I v9)), (10, .int (I n10)), (11, .ref (g.2 (51 + a11.toNat))), (12, .int (I d12)), (14, .ref (g.2 48)), (15, .int (I n10))]) C0.1 C0.2.1 dL_law_837 hl (by decide) rfl (fun ls hl => ?_)
        refine lv_iconst (v := I 0) C0.1 C0.2.1 dL_law_839 rfl ?_
        refine lv_istore (lv' := [(18, .int (I 0)), (17, .int (I 999)), (13, .int (I v153)), (16, .int (I 1)), (0, .ref b), (1, .ref (g.2 0)), (2, .ref (g.2 46)), (3, .ref (g.2 47)), (4, .int (I k)), (5, .int (I c5)), (6, .int (I i6)), (7, .int (I j7)), (8, .int (I l8)), (9, .int (I v9)), (10, .int (I n10)), (11, .ref (g.2 (51 + a11.toNat))), (12, .int (I d12)), (14, .ref (g.2 48)), (15, .int (I n10))]) C0.1 C0.2.1 dL_law_840 hl (by decide) rfl (fun ls hl => ?_)
        obtain ⟨k160, e_k160, h⟩ := jn_s h
        have h_k160 : ∀ (s157 : St) (hR : R32 s157) (m158 : St) (hM : R32 m158) (x159 : Int) (i_x159 : in32 x159) (H : Heap) (locs : List Loc) (ls : Array Slot), EW D (aL s) s.heap (wB g s157 m158) H locs → lv_has ls 20 [(0, .ref b), (1, .ref (g.2 0)), (2, .ref (g.2 46)), (3, .ref (g.2 47)), (4, .int (I k)), (8, .int (I l8)), (10, .int (I n10)), (11, .ref (g.2 (51 + a11.toNat))), (12, .int (I d12)), (13, .int (I v153)), (14, .ref (g.2 48)), (15, .int (I n10)), (17, .int (I x159))] → k160 s157 m158 x159 = some (σr, μr) → W p l e room_1 s m #[Value.ref b] below meth c H locs cells slots Q (F0 m 880 ls []) := by
          intro s157 hR m158 hM x159 i_x159 H locs ls hE hl h
          have h := (congrFun (congrFun (congrFun e_k160 s157) m158) x159).symm.trans h
          refine lv_iload C0.1 C0.2.1 dL_law_880 (lv_at hl 6 rfl) ?_
          obtain ⟨k161, e_k161, h⟩ := jn_s h
          have h_k161 : ∀ (H : Heap) (locs : List Loc) (ls : Array Slot), EW D (aL s) s.heap (wB g s157 m158) H locs → lv_has ls 20 [(0, .ref b), (1, .ref (g.2 0)), (2, .ref (g.2 46)), (3, .ref (g.2 47)), (4, .int (I k)), (8, .int (I l8)), (10, .int (I n10)), (11, .ref (g.2 (51 + a11.toNat))), (12, .int (I d12)), (13, .int (I v153)), (14, .ref (g.2 48)), (15, .int (I n10))] → k161 = some (σr, μr) → W p l e room_1 s m #[Value.ref b] below meth c H locs cells slots Q (F0 m 894 ls []) := by
            intro H locs ls hE hl h
            have h := e_k161.symm.trans h
            refine lv_aload_n C0.1 C0.2.1 dL_law_894 rfl (lv_at hl 1 rfl) ?_
            refine lv_iload C0.1 C0.2.1 dL_law_895 (lv_at hl 5 rfl) ?_
            refine lv_iconst (v := I 0) C0.1 C0.2.1 dL_law_897 rfl ?_
            refine lv_iload C0.1 C0.2.1 dL_law_898 (lv_at hl 6 rfl) ?_
            obtain ⟨v162, s163, h_v162, h⟩ := bnd_s h
            refine lawB_i (rest := []) (σ' := s163) C0 hml hE (c_E_sum l D g hR i_l8 lit_0 i_n10 h_v162) kw_L_83 ⟨Nat.le_of_ble_eq_true rfl, Nat.le_of_ble_eq_true rfl⟩ rfl hl.1 rfl (Nat.le_of_ble_eq_true rfl) dL_law_900 hc (fun H locs hE ⟨i_v162, hR⟩ => ?_)
            refine lv_aload_n C0.1 C0.2.1 dL_law_903 rfl (lv_at hl 1 rfl) ?_
            refine lv_iload C0.1 C0.2.1 dL_law_904 (lv_at hl 5 rfl) ?_
            refine lv_iconst (v := I 0) C0.1 C0.2.1 dL_law_906 rfl ?_
            refine lv_iload C0.1 C0.2.1 dL_law_907 (lv_at hl 6 rfl) ?_
            refine lv_iconst (v := I 2) C0.1 C0.2.1 dL_law_909 rfl ?_
            obtain ⟨v164, e_v164, i_v164, h⟩ := odiv_s i_n10 h
            refine x_div C0 i_n10 lit_2 e_v164 dL_law_910 ?_
            obtain ⟨v165, s166, h_v165, h⟩ := bnd_s h
            refine lawB_i (rest := [.int (I v162)]) (σ' := s166) C0 hml hE (c_E_sum l D g hR i_l8 lit_0 i_v164 h_v165) kw_L_83 ⟨Nat.le_of_ble_eq_true rfl, Nat.le_of_ble_eq_true rfl⟩ rfl hl.1 rfl (Nat.le_of_ble_eq_true rfl) dL_law_911 hc (fun H locs hE ⟨i_v165, hR⟩ => ?_)
            refine lv_aload_n C0.1 C0.2.1 dL_law_914 rfl (lv_at hl 1 rfl) ?_
            refine lv_iload C0.1 C0.2.1 dL_law_915 (lv_at hl 5 rfl) ?_
            refine lv_iload C0.1 C0.2.1 dL_law_917 (lv_at hl 6 rfl) ?_
            refine lv_iconst (v := I 2) C0.1 C0.2.1 dL_law_919 rfl ?_
            obtain ⟨v167, e_v167, i_v167, h⟩ := odiv_s i_n10 h
            refine x_div C0 i_n10 lit_2 e_v167 dL_law_920 ?_
            refine lv_iload C0.1 C0.2.1 dL_law_921 (lv_at hl 6 rfl) ?_
            obtain ⟨v168, s169, h_v168, h⟩ := bnd_s h
            refine lawB_i (rest := [.int (I v165), .int (I v162)]) (σ' := s169) C0 hml hE (c_E_sum l D g hR i_l8 i_v167 i_n10 h_v168) kw_L_83 ⟨Nat.le_of_ble_eq_true rfl, Nat.le_of_ble_eq_true rfl⟩ rfl hl.1 rfl (Nat.le_of_ble_eq_true rfl) dL_law_923 hc (fun H locs hE ⟨i_v168, hR⟩ => ?_)
            obtain ⟨v170, e_v170, i_v170, h⟩ := oadd_s h
            refine x_add C0 e_v170 dL_law_926 ?_
            refine x_icmp_eq C0 i_v162 i_v170 dL_law_927 (tgt := 932) (by decide) (fun c9 => ?_) (fun c9 => ?_)
            · have h := ite_t c9 h
              refine lv_iconst (v := I 0) C0.1 C0.2.1 dL_law_932 rfl ?_
              refine lv_istore (lv' := [(18, .int (I 0)), (0, .ref b), (1, .ref (g.2 0)), (2, .ref (g.2 46)), (3, .ref (g.2 47)), (4, .int (I k)), (8, .int (I l8)), (10, .int (I n10)), (11, .ref (g.2 (51 + a11.toNat))), (12, .int (I d12)), (13, .int (I v153)), (14, .ref (g.2 48)), (15, .int (I n10))]) C0.1 C0.2.1 dL_law_933 hl (by decide) rfl (fun ls hl => ?_)
              refine lv_iconst (v := I 0) C0.1 C0.2.1 dL_law_935 rfl ?_
              refine lv_istore (lv' := [(19, .int (I 0)), (18, .int (I 0)), (0, .ref b), (1, .ref (g.2 0)), (2, .ref (g.2 46)), (3, .ref (g.2 47)), (4, .int (I k)), (8, .int (I l8)), (10, .int (I n10)), (11, .ref (g.2 (51 + a11.toNat))), (12, .int (I d12)), (13, .int (I v153)), (14, .ref (g.2 48)), (15, .int (I n10))]) C0.1 C0.2.1 dL_law_936 hl (by decide) rfl (fun ls hl => ?_)
              obtain ⟨k172, e_k172, h⟩ := jn_s h
              have h_k172 : ∀ (x171 : Int) (i_x171 : in32 x171) (H : Heap) (locs : List Loc) (ls : Array Slot), EW D (aL s) s.heap (wB g s169 m158) H locs → lv_has ls 20 [(0, .ref b), (1, .ref (g.2 0)), (2, .ref (g.2 46)), (3, .ref (g.2 47)), (4, .int (I k)), (8, .int (I l8)), (12, .int (I d12)), (13, .int (I v153)), (14, .ref (g.2 48)), (15, .int (I n10)), (18, .int (I x171))] → k172 x171 = some (σr, μr) → W p l e room_1 s m #[Value.ref b] below meth c H locs cells slots Q (F0 m 967 ls []) := by
                intro x171 i_x171 H locs ls hE hl h
                have h := (congrFun e_k172 x171).symm.trans h
                refine lv_iload C0.1 C0.2.1 dL_law_967 (lv_at hl 10 rfl) ?_
                refine x_if_eq C0 i_x171 dL_law_969 (tgt := 1273) (by decide) (fun c9 => ?_) (fun c9 => ?_)
                · have h := ite_t c9 h
                  exact h_k12 s169 hR m158 hM v153 i_v153 n10 i_n10 _ _ _ hE (lv_sub hl [0, 1, 2, 3, 4, 5, 6, 7, 8, 9] rfl) h
                · have h := ite_f c9 h
                  refine lv_iconst (v := I 0) C0.1 C0.2.1 dL_law_972 rfl ?_
                  cases h
              have hL938 : ∀ (n : Nat) (x173 : Int) (i_x173 : in32 x173) (x174 : Int) (i_x174 : in32 x174) (H : Heap) (locs : List Loc) (ls : Array Slot), EW D (aL s) s.heap (wB g s169 m158) H locs → lv_has ls 20 [(0, .ref b), (1, .ref (g.2 0)), (2, .ref (g.2 46)), (3, .ref (g.2 47)), (4, .int (I k)), (8, .int (I l8)), (10, .int (I n10)), (11, .ref (g.2 (51 + a11.toNat))), (12, .int (I d12)), (13, .int (I v153)), (14, .ref (g.2 48)), (15, .int (I n10)), (18, .int (I x173)), (19, .int (I x174))] → L_mid_L938 k172 s169 m158 n10 a11 n x173 x174 = some (σr, μr) → W p l e room_1 s m #[Value.ref b] below meth c H locs cells slots Q (F0 m 938 ls []) := by
                intro n
                induction n with
                | zero => intros; rename_i h; cases h
                | succ n ih175 =>
                  intro x173 i_x173 x174 i_x174 H locs ls hE hl h
                  unfold L_mid_L938 at h
                  refine lv_iload C0.1 C0.2.1 dL_law_938 (lv_at hl 13 rfl) ?_
                  refine lv_iload C0.1 C0.2.1 dL_law_940 (lv_at hl 6 rfl) ?_
                  refine x_icmp_ge C0 i_x174 i_n10 dL_law_942 (tgt := 967) (by decide) (fun c9 => ?_) (fun c9 => ?_)
                  · have h := ite_f c9 h
                    exact h_k172 x173 i_x173 _ _ _ hE (lv_sub hl [0, 1, 2, 3, 4, 5, 8, 9, 10, 11, 12] rfl) h
                  · have h := ite_t c9 h
                    refine lv_iload C0.1 C0.2.1 dL_law_945 (lv_at hl 12 rfl) ?_
                    refine lv_aload C0.1 C0.2.1 dL_law_947 (lv_at hl 7 rfl) ?_
                    refine lv_iload C0.1 C0.2.1 dL_law_949 (lv_at hl 13 rfl) ?_
                    obtain ⟨v176, e_v176, i_v176, h⟩ := rdA_s hM h
                    refine rowB_l C0 hE b_a i_x174 e_v176 dL_law_951 ?_
                    refine lv_aload C0.1 C0.2.1 dL_law_952 (lv_at hl 10 rfl) ?_
                    refine lv_iload C0.1 C0.2.1 dL_law_954 (lv_at hl 13 rfl) ?_
                    obtain ⟨v177, e_v177, i_v177, h⟩ := rd_s hM h
                    refine bB_l C0 hE i_x174 e_v177 dL_law_956 ?_
                    obtain ⟨v178, e_v178, i_v178, h⟩ := osub_s h
                    refine x_sub C0 e_v178 dL_law_957 ?_
                    obtain ⟨v179, e_v179, i_v179, h⟩ := oadd_s h
                    refine x_add C0 e_v179 dL_law_958 ?_
                    refine lv_istore (lv' := [(18, .int (I v179)), (0, .ref b), (1, .ref (g.2 0)), (2, .ref (g.2 46)), (3, .ref (g.2 47)), (4, .int (I k)), (8, .int (I l8)), (10, .int (I n10)), (11, .ref (g.2 (51 + a11.toNat))), (12, .int (I d12)), (13, .int (I v153)), (14, .ref (g.2 48)), (15, .int (I n10)), (19, .int (I x174))]) C0.1 C0.2.1 dL_law_959 hl (by decide) rfl (fun ls hl => ?_)
                    obtain ⟨v180, e_v180, i_v180, h⟩ := oadd_s h
                    refine x_iinc (lv' := [(19, .int (I v180)), (18, .int (I v179)), (0, .ref b), (1, .ref (g.2 0)), (2, .ref (g.2 46)), (3, .ref (g.2 47)), (4, .int (I k)), (8, .int (I l8)), (10, .int (I n10)), (11, .ref (g.2 (51 + a11.toNat))), (12, .int (I d12)), (13, .int (I v153)), (14, .ref (g.2 48)), (15, .int (I n10))]) C0 dL_law_961 hl (k := 13) rfl e_v180 (by decide) rfl (fun ls hl => ?_)
                    refine x_goto C0 dL_law_964 (tgt := 938) (by decide) ?_
                    exact ih175 v179 i_v179 v180 i_v180 _ _ _ hE (lv_sub hl [2, 3, 4, 5, 6, 7, 8, 9, 10, 11, 12, 13, 1, 0] rfl) h
              exact hL938 FU 0 lit_0 0 lit_0 _ _ _ hE (lv_sub hl [2, 3, 4, 5, 6, 7, 8, 9, 10, 11, 12, 13, 1, 0] rfl) h
            · have h := ite_f c9 h
              refine lv_iconst (v := I 0) C0.1 C0.2.1 dL_law_930 rfl ?_
              cases h
          refine x_if_le C0 i_n10 dL_law_882 (tgt := 894) (by decide) (fun c9 => ?_) (fun c9 => ?_)
          · have h := ite_f c9 h
            exact h_k161 _ _ _ hE (lv_sub hl [0, 1, 2, 3, 4, 5, 6, 7, 8, 9, 10, 11] rfl) h
          · have h := ite_t c9 h
            refine lv_aload C0.1 C0.2.1 dL_law_885 (lv_at hl 10 rfl) ?_
            refine lv_iconst (v := I 0) C0.1 C0.2.1 dL_law_887 rfl ?_
            obtain ⟨v181, e_v181, i_v181, h⟩ := rd_s hM h
            refine bB_l C0 hE lit_0 e_v181 dL_law_888 ?_
            refine lv_iload C0.1 C0.2.1 dL_law_889 (lv_at hl 12 rfl) ?_
            refine x_icmp_ne C0 i_v181 i_x159 dL_law_891 (tgt := 930) (by decide) (fun c9 => ?_) (fun c9 => ?_)
            · have h := ite_f c9 h
              refine lv_iconst (v := I 0) C0.1 C0.2.1 dL_law_930 rfl ?_
              cases h
            · have h := ite_t c9 h
              exact h_k161 _ _ _ hE (lv_sub hl [0, 1, 2, 3, 4, 5, 6, 7, 8, 9, 10, 11] rfl) h
        have hL842 : ∀ (n : Nat) (s185 : St) (hR : R32 s185) (m186 : St) (hM : R32 m186) (x182 : Int) (i_x182 : in32 x182) (x183 : Int) (i_x183 : in32 x183) (H : Heap) (locs : List Loc) (ls : Array Slot), EW D (aL s) s.heap (wB g s185 m186) H locs → lv_has ls 20 [(0, .ref b), (1, .ref (g.2 0)), (2, .ref (g.2 46)), (3, .ref (g.2 47)), (4, .int (I k)), (8, .int (I l8)), (10, .int (I n10)), (11, .ref (g.2 (51 + a11.toNat))), (12, .int (I d12)), (13, .int (I v153)), (14, .ref (g.2 48)), (15, .int (I n10)), (17, .int (I x182)), (18, .int (I x183))] → L_mid_L842 k160 l8 n10 a11 n s185 m186 x182 x183 = some (σr, μr) → W p l e room_1 s m #[Value.ref b] below meth c H locs cells slots Q (F0 m 842 ls []) := by
          intro n
          induction n with
          | zero => intros; rename_i h; cases h
          | succ n ih184 =>
            intro s185 hR m186 hM x182 i_x182 x183 i_x183 H locs ls hE hl h
            unfold L_mid_L842 at h
            refine lv_iload C0.1 C0.2.1 dL_law_842 (lv_at hl 13 rfl) ?_
            refine lv_iload C0.1 C0.2.1 dL_law_844 (lv_at hl 6 rfl) ?_
            refine x_icmp_ge C0 i_x183 i_n10 dL_law_846 (tgt := 880) (by decide) (fun c9 => ?_) (fun c9 => ?_)
            · have h := ite_f c9 h
              exact h_k160 s185 hR m186 hM x182 i_x182 _ _ _ hE (lv_sub hl [0, 1, 2, 3, 4, 5, 6, 7, 8, 9, 10, 11, 12] rfl) h
            · have h := ite_t c9 h
              refine lv_aload C0.1 C0.2.1 dL_law_849 (lv_at hl 10 rfl) ?_
              refine lv_iload C0.1 C0.2.1 dL_law_851 (lv_at hl 13 rfl) ?_
              refine lv_aload_n C0.1 C0.2.1 dL_law_853 rfl (lv_at hl 1 rfl) ?_
              refine lv_iload C0.1 C0.2.1 dL_law_854 (lv_at hl 5 rfl) ?_
              refine lv_iload C0.1 C0.2.1 dL_law_856 (lv_at hl 13 rfl) ?_
              obtain ⟨v187, h_v187, h⟩ := bndp_s h
              refine lawB_i (rest := [.int (I x183), .ref (g.2 48)]) (σ' := s185) C0 hml hE (c_E_get l D g hR i_l8 i_x183 h_v187) kw_L_13 ⟨Nat.le_of_ble_eq_true rfl, Nat.le_of_ble_eq_true rfl⟩ rfl hl.1 rfl (Nat.le_of_ble_eq_true rfl) dL_law_858 hc (fun H locs hE i_v187 => ?_)
              obtain ⟨m188, e_m188, hM, h⟩ := wr_s hM i_v187 h
              refine bB_st C0 hE i_x183 e_m188 dL_law_861 (fun H locs hE => ?_)
              refine lv_iload C0.1 C0.2.1 dL_law_862 (lv_at hl 12 rfl) ?_
              refine lv_aload C0.1 C0.2.1 dL_law_864 (lv_at hl 7 rfl) ?_
              refine lv_iload C0.1 C0.2.1 dL_law_866 (lv_at hl 13 rfl) ?_
              obtain ⟨v189, e_v189, i_v189, h⟩ := rdA_s hM h
              refine rowB_l C0 hE b_a i_x183 e_v189 dL_law_868 ?_
              obtain ⟨v190, e_v190, i_v190, h⟩ := opure_s h (imin_in i_x182 i_v189)
              refine x_min C0 kw_L_78 (hml.trans hl.1.symm) i_x182 i_v189 e_v190 ⟨Nat.le_of_ble_eq_true rfl, Nat.le_of_ble_eq_true rfl⟩ hc dL_law_869 ?_
              refine lv_istore (lv' := [(17, .int (I v190)), (0, .ref b), (1, .ref (g.2 0)), (2, .ref (g.2 46)), (3, .ref (g.2 47)), (4, .int (I k)), (8, .int (I l8)), (10, .int (I n10)), (11, .ref (g.2 (51 + a11.toNat))), (12, .int (I d12)), (13, .int (I v153)), (14, .ref (g.2 48)), (15, .int (I n10)), (18, .int (I x183))]) C0.1 C0.2.1 dL_law_872 hl (by decide) rfl (fun ls hl => ?_)
              obtain ⟨v191, e_v191, i_v191, h⟩ := oadd_s h
              refine x_iinc (lv' := [(18, .int (I v191)), (17, .int (I v190)), (0, .ref b), (1, .ref (g.2 0)), (2, .ref (g.2 46)), (3, .ref (g.2 47)), (4, .int (I k)), (8, .int (I l8)), (10, .int (I n10)), (11, .ref (g.2 (51 + a11.toNat))), (12, .int (I d12)), (13, .int (I v153)), (14, .ref (g.2 48)), (15, .int (I n10))]) C0 dL_law_874 hl (k := 13) rfl e_v191 (by decide) rfl (fun ls hl => ?_)
              refine x_goto C0 dL_law_877 (tgt := 842) (by decide) ?_
              exact ih184 s185 hR m188 hM v190 i_v190 v191 i_v191 _ _ _ hE (lv_sub hl [2, 3, 4, 5, 6, 7, 8, 9, 10, 11, 12, 13, 1, 0] rfl) h
        exact hL842 FU s156 hR m2 hM 999 lit_999 0 lit_0 _ _ _ hE (lv_sub hl [4, 5, 6, 7, 8, 12, 14, 15, 16, 2, 17, 18, 1, 0] rfl) h
      · have h := ite_f c9 h
        refine lv_iconst (v := I 0) C0.1 C0.2.1 dL_law_832 rfl ?_
        cases h
    have h := ite_f q152 h
    by_cases q192 : v4 = 13
    · have h := ite_t q192 h
      refine x_tabIn (tgt := 974) C0 13 i_v4 dL_law_160 q192 ⟨by decide, by decide, by rfl⟩ (by decide) ?_
      refine lv_iload C0.1 C0.2.1 dL_law_974 (lv_at hl 6 rfl) ?_
      refine lv_bipush (v := I 27) C0.1 C0.2.1 dL_law_976 (by decide +kernel) ?_
      obtain ⟨v193, e_v193, i_v193, h⟩ := opure_s h (bushr_in _ _)
      refine x_ushr C0 e_v193 dL_law_978 ?_
      refine lv_istore (lv' := [(17, .int (I v193)), (16, .int (I 1)), (0, .ref b), (1, .ref (g.2 0)), (2, .ref (g.2 46)), (3, .ref (g.2 47)), (4, .int (I k)), (5, .int (I c5)), (6, .int (I i6)), (7, .int (I j7)), (8, .int (I l8)), (9, .int (I v9)), (10, .int (I n10)), (11, .ref (g.2 (51 + a11.toNat))), (12, .int (I d12)), (14, .ref (g.2 48)), (15, .int (I n10))]) C0.1 C0.2.1 dL_law_979 hl (by decide) rfl (fun ls hl => ?_)
      refine lv_aload_n C0.1 C0.2.1 dL_law_981 rfl (lv_at hl 3 rfl) ?_
      refine lv_iload C0.1 C0.2.1 dL_law_982 (lv_at hl 8 rfl) ?_
      refine lv_iload C0.1 C0.2.1 dL_law_984 (lv_at hl 0 rfl) ?_
      refine lv_iload C0.1 C0.2.1 dL_law_986 (lv_at hl 10 rfl) ?_
      obtain ⟨v194, s195, h_v194, h⟩ := bnd_s h
      refine lawB_i (rest := []) (σ' := s195) C0 hml hE (c_E_turned l D g hR i_i6 i_v193 i_l8 h_v194) kw_L_86 ⟨Nat.le_of_ble_eq_true rfl, Nat.le_of_ble_eq_true rfl⟩ rfl hl.1 rfl (Nat.le_of_ble_eq_true rfl) dL_law_988 hc (fun H locs hE ⟨i_v194, hR⟩ => ?_)
      refine lv_istore (lv' := [(13, .int (I v194)), (17, .int (I v193)), (16, .int (I 1)), (0, .ref b), (1, .ref (g.2 0)), (2, .ref (g.2 46)), (3, .ref (g.2 47)), (4, .int (I k)), (5, .int (I c5)), (6, .int (I i6)), (7, .int (I j7)), (8, .int (I l8)), (9, .int (I v9)), (10, .int (I n10)), (11, .ref (g.2 (51 + a11.toNat))), (12, .int (I d12)), (14, .ref (g.2 48)), (15, .int (I n10))]) C0.1 C0.2.1 dL_law_991 hl (by decide) rfl (fun ls hl => ?_)
      refine lv_iload C0.1 C0.2.1 dL_law_993 (lv_at hl 13 rfl) ?_
      refine x_if_ne C0 i_n10 dL_law_995 (tgt := 1007) (by decide) (fun c9 => ?_) (fun c9 => ?_)
      · have h := ite_f c9 h
        refine lv_iconst (v := I 0) C0.1 C0.2.1 dL_law_1007 rfl ?_
        refine lv_istore (lv' := [(18, .int (I 0)), (13, .int (I v194)), (17, .int (I v193)), (16, .int (I 1)), (0, .ref b), (1, .ref (g.2 0)), (2, .ref (g.2 46)), (3, .ref (g.2 47)), (4, .int (I k)), (5, .int (I c5)), (6, .int (I i6)), (7, .int (I j7)), (8, .int (I l8)), (9, .int (I v9)), (10, .int (I n10)), (11, .ref (g.2 (51 + a11.toNat))), (12, .int (I d12)), (14, .ref (g.2 48)), (15, .int (I n10))]) C0.1 C0.2.1 dL_law_1008 hl (by decide) rfl (fun ls hl => ?_)
        obtain ⟨k198, e_k198, h⟩ := jn_s h
        have h_k198 : ∀ (s196 : St) (hR : R32 s196) (m197 : St) (hM : R32 m197) (H : Heap) (locs : List Loc) (ls : Array Slot), EW D (aL s) s.heap (wB g s196 m197) H locs → lv_has ls 20 [(0, .ref b), (1, .ref (g.2 0)), (2, .ref (g.2 46)), (3, .ref (g.2 47)), (4, .int (I k)), (8, .int (I l8)), (12, .int (I d12)), (13, .int (I v194)), (14, .ref (g.2 48)), (15, .int (I n10))] → k198 s196 m197 = some (σr, μr) → W p l e room_1 s m #[Value.ref b] below meth c H locs cells slots Q (F0 m 1039 ls []) := by
          intro s196 hR m197 hM H locs ls hE hl h
          have h := (congrFun (congrFun e_k198 s196) m197).symm.trans h
          refine x_goto C0 dL_law_1039 (tgt := 1273) (by decide) ?_
          exact h_k12 s196 hR m197 hM v194 i_v194 n10 i_n10 _ _ _ hE (lv_sub hl [0, 1, 2, 3, 4, 5, 6, 7, 8, 9] rfl) h
        have hL1010 : ∀ (n : Nat) (s201 : St) (hR : R32 s201) (m202 : St) (hM : R32 m202) (x199 : Int) (i_x199 : in32 x199) (H : Heap) (locs : List Loc) (ls : Array Slot), EW D (aL s) s.heap (wB g s201 m202) H locs → lv_has ls 20 [(0, .ref b), (1, .ref (g.2 0)), (2, .ref (g.2 46)), (3, .ref (g.2 47)), (4, .int (I k)), (8, .int (I l8)), (10, .int (I n10)), (11, .ref (g.2 (51 + a11.toNat))), (12, .int (I d12)), (13, .int (I v194)), (14, .ref (g.2 48)), (15, .int (I n10)), (17, .int (I v193)), (18, .int (I x199))] → L_mid_L1010 k198 n10 v193 a11 n s201 m202 x199 = some (σr, μr) → W p l e room_1 s m #[Value.ref b] below meth c H locs cells slots Q (F0 m 1010 ls []) := by
          intro n
          induction n with
          | zero => intros; rename_i h; cases h
          | succ n ih200 =>
            intro s201 hR m202 hM x199 i_x199 H locs ls hE hl h
            unfold L_mid_L1010 at h
            refine lv_iload C0.1 C0.2.1 dL_law_1010 (lv_at hl 13 rfl) ?_
            refine lv_iload C0.1 C0.2.1 dL_law_1012 (lv_at hl 6 rfl) ?_
            refine x_icmp_ge C0 i_x199 i_n10 dL_law_1014 (tgt := 1039) (by decide) (fun c9 => ?_) (fun c9 => ?_)
            · have h := ite_f c9 h
              exact h_k198 s201 hR m202 hM _ _ _ hE (lv_sub hl [0, 1, 2, 3, 4, 5, 8, 9, 10, 11] rfl) h
            · have h := ite_t c9 h
              refine lv_aload C0.1 C0.2.1 dL_law_1017 (lv_at hl 10 rfl) ?_
              refine lv_iload C0.1 C0.2.1 dL_law_1019 (lv_at hl 13 rfl) ?_
              refine lv_aload C0.1 C0.2.1 dL_law_1021 (lv_at hl 7 rfl) ?_
              refine lv_iload C0.1 C0.2.1 dL_law_1023 (lv_at hl 13 rfl) ?_
              refine lv_iload C0.1 C0.2.1 dL_law_1025 (lv_at hl 12 rfl) ?_
              obtain ⟨v203, e_v203, i_v203, h⟩ := oadd_s h
              refine x_add C0 e_v203 dL_law_1027 ?_
              refine lv_iload C0.1 C0.2.1 dL_law_1028 (lv_at hl 6 rfl) ?_
              obtain ⟨v204, e_v204, i_v204, h⟩ := orem_s i_n10 h
              refine x_rem C0 i_v203 i_n10 e_v204 dL_law_1030 ?_
              obtain ⟨v205, e_v205, i_v205, h⟩ := rdA_s hM h
              refine rowB_l C0 hE b_a i_v204 e_v205 dL_law_1031 ?_
              obtain ⟨m206, e_m206, hM, h⟩ := wr_s hM i_v205 h
              refine bB_st C0 hE i_x199 e_m206 dL_law_1032 (fun H locs hE => ?_)
              obtain ⟨v207, e_v207, i_v207, h⟩ := oadd_s h
              refine x_iinc (lv' := [(18, .int (I v207)), (0, .ref b), (1, .ref (g.2 0)), (2, .ref (g.2 46)), (3, .ref (g.2 47)), (4, .int (I k)), (8, .int (I l8)), (10, .int (I n10)), (11, .ref (g.2 (51 + a11.toNat))), (12, .int (I d12)), (13, .int (I v194)), (14, .ref (g.2 48)), (15, .int (I n10)), (17, .int (I v193))]) C0 dL_law_1033 hl (k := 13) rfl e_v207 (by decide) rfl (fun ls hl => ?_)
              refine x_goto C0 dL_law_1036 (tgt := 1010) (by decide) ?_
              exact ih200 s201 hR m206 hM v207 i_v207 _ _ _ hE (lv_sub hl [1, 2, 3, 4, 5, 6, 7, 8, 9, 10, 11, 12, 13, 0] rfl) h
        exact hL1010 FU s195 hR m2 hM 0 lit_0 _ _ _ hE (lv_sub hl [4, 5, 6, 7, 8, 12, 14, 15, 16, 1, 17, 18, 2, 0] rfl) h
      · have h := ite_t c9 h
        refine lv_iload C0.1 C0.2.1 dL_law_998 (lv_at hl 0 rfl) ?_
        refine lv_bipush (v := I (-2)) C0.1 C0.2.1 dL_law_1000 (by decide +kernel) ?_
        refine x_icmp_eq C0 i_v194 lit_m2 dL_law_1002 (tgt := 1401) (by decide) (fun c9 => ?_) (fun c9 => ?_)
        · have h := ite_t c9 h
          exact h_k7 s195 hR m2 hM _ _ _ hE (lv_sub hl [3, 4, 5, 6, 7] rfl) h
        · have h := ite_f c9 h
          refine lv_iconst (v := I 0) C0.1 C0.2.1 dL_law_1005 rfl ?_
          cases h
    have h := ite_f q192 h
    by_cases q208 : v4 = 14
    · have h := ite_t q208 h
      refine x_tabIn (tgt := 1042) C0 14 i_v4 dL_law_160 q208 ⟨by decide, by decide, by rfl⟩ (by decide) ?_
      refine lv_aload_n C0.1 C0.2.1 dL_law_1042 rfl (lv_at hl 2 rfl) ?_
      refine lv_iload C0.1 C0.2.1 dL_law_1043 (lv_at hl 7 rfl) ?_
      refine lv_iload C0.1 C0.2.1 dL_law_1045 (lv_at hl 10 rfl) ?_
      refine lv_iconst (v := I 1) C0.1 C0.2.1 dL_law_1047 rfl ?_
      obtain ⟨v209, e_v209, i_v209, h⟩ := opure_s h (band_in _ _)
      refine x_and C0 e_v209 dL_law_1048 ?_
      refine lv_iload C0.1 C0.2.1 dL_law_1049 (lv_at hl 9 rfl) ?_
      obtain ⟨v210, s211, h_v210, h⟩ := bnd_s h
      refine lawB_i (rest := []) (σ' := s211) C0 hml hE (c_E_sides l D g hR i_i6 i_v209 i_l8 h_v210) kw_L_89 ⟨Nat.le_of_ble_eq_true rfl, Nat.le_of_ble_eq_true rfl⟩ rfl hl.1 rfl (Nat.le_of_ble_eq_true rfl) dL_law_1051 hc (fun H locs hE ⟨i_v210, hR⟩ => ?_)
      refine lv_istore (lv' := [(13, .int (I v210)), (16, .int (I 1)), (0, .ref b), (1, .ref (g.2 0)), (2, .ref (g.2 46)), (3, .ref (g.2 47)), (4, .int (I k)), (5, .int (I c5)), (6, .int (I i6)), (7, .int (I j7)), (8, .int (I l8)), (9, .int (I v9)), (10, .int (I n10)), (11, .ref (g.2 (51 + a11.toNat))), (12, .int (I d12)), (14, .ref (g.2 48)), (15, .int (I n10))]) C0.1 C0.2.1 dL_law_1054 hl (by decide) rfl (fun ls hl => ?_)
      refine lv_iload C0.1 C0.2.1 dL_law_1056 (lv_at hl 12 rfl) ?_
      obtain ⟨k213, e_k213, h⟩ := jn_s h
      have h_k213 : ∀ (x212 : Int) (i_x212 : in32 x212) (H : Heap) (locs : List Loc) (ls : Array Slot), EW D (aL s) s.heap (wB g s211 m2) H locs → lv_has ls 20 [(0, .ref b), (1, .ref (g.2 0)), (2, .ref (g.2 46)), (3, .ref (g.2 47)), (4, .int (I k)), (8, .int (I l8)), (9, .int (I v9)), (11, .ref (g.2 (51 + a11.toNat))), (12, .int (I d12)), (13, .int (I v210)), (14, .ref (g.2 48))] → k213 x212 = some (σr, μr) → W p l e room_1 s m #[Value.ref b] below meth c H locs cells slots Q (F0 m 1085 ls [.int (I x212)]) := by
        intro x212 i_x212 H locs ls hE hl h
        have h := (congrFun e_k213 x212).symm.trans h
        refine lv_istore (lv' := [(15, .int (I x212)), (0, .ref b), (1, .ref (g.2 0)), (2, .ref (g.2 46)), (3, .ref (g.2 47)), (4, .int (I k)), (8, .int (I l8)), (9, .int (I v9)), (11, .ref (g.2 (51 + a11.toNat))), (12, .int (I d12)), (13, .int (I v210)), (14, .ref (g.2 48))]) C0.1 C0.2.1 dL_law_1085 hl (by decide) rfl (fun ls hl => ?_)
        refine lv_iload C0.1 C0.2.1 dL_law_1087 (lv_at hl 0 rfl) ?_
        refine x_if_ne C0 i_x212 dL_law_1089 (tgt := 1101) (by decide) (fun c9 => ?_) (fun c9 => ?_)
        · have h := ite_f c9 h
          refine lv_iload C0.1 C0.2.1 dL_law_1101 (lv_at hl 10 rfl) ?_
          refine lv_iload C0.1 C0.2.1 dL_law_1103 (lv_at hl 0 rfl) ?_
          refine x_icmp_eq C0 i_v210 i_x212 dL_law_1105 (tgt := 1110) (by decide) (fun c9 => ?_) (fun c9 => ?_)
          · have h := ite_t c9 h
            refine lv_iconst (v := I 0) C0.1 C0.2.1 dL_law_1110 rfl ?_
            refine lv_istore (lv' := [(17, .int (I 0)), (15, .int (I x212)), (0, .ref b), (1, .ref (g.2 0)), (2, .ref (g.2 46)), (3, .ref (g.2 47)), (4, .int (I k)), (8, .int (I l8)), (9, .int (I v9)), (11, .ref (g.2 (51 + a11.toNat))), (12, .int (I d12)), (13, .int (I v210)), (14, .ref (g.2 48))]) C0.1 C0.2.1 dL_law_1111 hl (by decide) rfl (fun ls hl => ?_)
            obtain ⟨k216, e_k216, h⟩ := jn_s h
            have h_k216 : ∀ (s214 : St) (hR : R32 s214) (m215 : St) (hM : R32 m215) (H : Heap) (locs : List Loc) (ls : Array Slot), EW D (aL s) s.heap (wB g s214 m215) H locs → lv_has ls 20 [(0, .ref b), (1, .ref (g.2 0)), (2, .ref (g.2 46)), (3, .ref (g.2 47)), (4, .int (I k)), (8, .int (I l8)), (12, .int (I d12)), (14, .ref (g.2 48)), (15, .int (I x212))] → k216 s214 m215 = some (σr, μr) → W p l e room_1 s m #[Value.ref b] below meth c H locs cells slots Q (F0 m 1145 ls []) := by
              intro s214 hR m215 hM H locs ls hE hl h
              have h := (congrFun (congrFun e_k216 s214) m215).symm.trans h
              refine lv_iconst (v := I 0) C0.1 C0.2.1 dL_law_1145 rfl ?_
              refine lv_istore (lv' := [(13, .int (I 0)), (0, .ref b), (1, .ref (g.2 0)), (2, .ref (g.2 46)), (3, .ref (g.2 47)), (4, .int (I k)), (8, .int (I l8)), (12, .int (I d12)), (14, .ref (g.2 48)), (15, .int (I x212))]) C0.1 C0.2.1 dL_law_1146 hl (by decide) rfl (fun ls hl => ?_)
              refine x_goto C0 dL_law_1148 (tgt := 1273) (by decide) ?_
              exact h_k12 s214 hR m215 hM 0 lit_0 x212 i_x212 _ _ _ hE (lv_sub hl [1, 2, 3, 4, 5, 6, 7, 0, 8, 9] rfl) h
            have hL1113 : ∀ (n : Nat) (s219 : St) (hR : R32 s219) (m220 : St) (hM : R32 m220) (x217 : Int) (i_x217 : in32 x217) (H : Heap) (locs : List Loc) (ls : Array Slot), EW D (aL s) s.heap (wB g s219 m220) H locs → lv_has ls 20 [(0, .ref b), (1, .ref (g.2 0)), (2, .ref (g.2 46)), (3, .ref (g.2 47)), (4, .int (I k)), (8, .int (I l8)), (9, .int (I v9)), (11, .ref (g.2 (51 + a11.toNat))), (12, .int (I d12)), (14, .ref (g.2 48)), (15, .int (I x212)), (17, .int (I x217))] → L_mid_L1113 k216 v9 x212 a11 n s219 m220 x217 = some (σr, μr) → W p l e room_1 s m #[Value.ref b] below meth c H locs cells slots Q (F0 m 1113 ls []) := by
              intro n
              induction n with
              | zero => intros; rename_i h; cases h
              | succ n ih218 =>
                intro s219 hR m220 hM x217 i_x217 H locs ls hE hl h
                unfold L_mid_L1113 at h
                refine lv_iload C0.1 C0.2.1 dL_law_1113 (lv_at hl 11 rfl) ?_
                refine lv_iload C0.1 C0.2.1 dL_law_1115 (lv_at hl 10 rfl) ?_
                refine x_icmp_ge C0 i_x217 i_x212 dL_law_1117 (tgt := 1145) (by decide) (fun c9 => ?_) (fun c9 => ?_)
                · have h := ite_f c9 h
                  exact h_k216 s219 hR m220 hM _ _ _ hE (lv_sub hl [0, 1, 2, 3, 4, 5, 8, 9, 10] rfl) h
                · have h := ite_t c9 h
                  refine lv_aload C0.1 C0.2.1 dL_law_1120 (lv_at hl 9 rfl) ?_
                  refine lv_iload C0.1 C0.2.1 dL_law_1122 (lv_at hl 11 rfl) ?_
                  refine lv_aload C0.1 C0.2.1 dL_law_1124 (lv_at hl 7 rfl) ?_
                  refine lv_iconst (v := I 1) C0.1 C0.2.1 dL_law_1126 rfl ?_
                  refine lv_iload C0.1 C0.2.1 dL_law_1127 (lv_at hl 6 rfl) ?_
                  refine lv_iconst (v := I 1) C0.1 C0.2.1 dL_law_1129 rfl ?_
                  obtain ⟨v221, e_v221, i_v221, h⟩ := opure_s h (band_in _ _)
                  refine x_and C0 e_v221 dL_law_1130 ?_
                  obtain ⟨v222, e_v222, i_v222, h⟩ := oadd_s h
                  refine x_add C0 e_v222 dL_law_1131 ?_
                  refine lv_iconst (v := I 2) C0.1 C0.2.1 dL_law_1132 rfl ?_
                  refine lv_iload C0.1 C0.2.1 dL_law_1133 (lv_at hl 11 rfl) ?_
                  obtain ⟨v223, e_v223, i_v223, h⟩ := omul_s h
                  refine x_mul C0 e_v223 dL_law_1135 ?_
                  obtain ⟨v224, e_v224, i_v224, h⟩ := oadd_s h
                  refine x_add C0 e_v224 dL_law_1136 ?_
                  obtain ⟨v225, e_v225, i_v225, h⟩ := rdA_s hM h
                  refine rowB_l C0 hE b_a i_v224 e_v225 dL_law_1137 ?_
                  obtain ⟨m226, e_m226, hM, h⟩ := wr_s hM i_v225 h
                  refine bB_st C0 hE i_x217 e_m226 dL_law_1138 (fun H locs hE => ?_)
                  obtain ⟨v227, e_v227, i_v227, h⟩ := oadd_s h
                  refine x_iinc (lv' := [(17, .int (I v227)), (0, .ref b), (1, .ref (g.2 0)), (2, .ref (g.2 46)), (3, .ref (g.2 47)), (4, .int (I k)), (8, .int (I l8)), (9, .int (I v9)), (11, .ref (g.2 (51 + a11.toNat))), (12, .int (I d12)), (14, .ref (g.2 48)), (15, .int (I x212))]) C0 dL_law_1139 hl (k := 11) rfl e_v227 (by decide) rfl (fun ls hl => ?_)
                  refine x_goto C0 dL_law_1142 (tgt := 1113) (by decide) ?_
                  exact ih218 s219 hR m226 hM v227 i_v227 _ _ _ hE (lv_sub hl [1, 2, 3, 4, 5, 6, 7, 8, 9, 10, 11, 0] rfl) h
            exact hL1113 FU s211 hR m2 hM 0 lit_0 _ _ _ hE (lv_sub hl [2, 3, 4, 5, 6, 7, 8, 9, 10, 12, 1, 0] rfl) h
          · have h := ite_f c9 h
            refine lv_iconst (v := I 0) C0.1 C0.2.1 dL_law_1108 rfl ?_
            cases h
        · have h := ite_t c9 h
          refine lv_iload C0.1 C0.2.1 dL_law_1092 (lv_at hl 10 rfl) ?_
          refine lv_bipush (v := I (-2)) C0.1 C0.2.1 dL_law_1094 (by decide +kernel) ?_
          refine x_icmp_eq C0 i_v210 lit_m2 dL_law_1096 (tgt := 1401) (by decide) (fun c9 => ?_) (fun c9 => ?_)
          · have h := ite_t c9 h
            exact h_k7 s211 hR m2 hM _ _ _ hE (lv_sub hl [1, 2, 3, 4, 5] rfl) h
          · have h := ite_f c9 h
            refine lv_iconst (v := I 0) C0.1 C0.2.1 dL_law_1099 rfl ?_
            cases h
      refine x_if_ne C0 i_n10 dL_law_1058 (tgt := 1065) (by decide) (fun c9 => ?_) (fun c9 => ?_)
      · have h := ite_f c9 h
        refine lv_iload C0.1 C0.2.1 dL_law_1065 (lv_at hl 11 rfl) ?_
        refine lv_iconst (v := I 1) C0.1 C0.2.1 dL_law_1067 rfl ?_
        obtain ⟨v228, e_v228, i_v228, h⟩ := opure_s h (band_in _ _)
        refine x_and C0 e_v228 dL_law_1068 ?_
        refine x_if_ne C0 i_v228 dL_law_1069 (tgt := 1079) (by decide) (fun c9 => ?_) (fun c9 => ?_)
        · have h := ite_f c9 h
          refine lv_iload C0.1 C0.2.1 dL_law_1079 (lv_at hl 12 rfl) ?_
          refine lv_iconst (v := I 1) C0.1 C0.2.1 dL_law_1081 rfl ?_
          obtain ⟨v229, e_v229, i_v229, h⟩ := osub_s h
          refine x_sub C0 e_v229 dL_law_1082 ?_
          refine lv_iconst (v := I 2) C0.1 C0.2.1 dL_law_1083 rfl ?_
          obtain ⟨v230, e_v230, i_v230, h⟩ := odiv_s i_v229 h
          refine x_div C0 i_v229 lit_2 e_v230 dL_law_1084 ?_
          exact h_k213 v230 i_v230 _ _ _ hE (lv_sub hl [2, 3, 4, 5, 6, 10, 11, 13, 14, 0, 15] rfl) h
        · have h := ite_t c9 h
          refine lv_iload C0.1 C0.2.1 dL_law_1072 (lv_at hl 12 rfl) ?_
          refine lv_iconst (v := I 2) C0.1 C0.2.1 dL_law_1074 rfl ?_
          obtain ⟨v231, e_v231, i_v231, h⟩ := odiv_s i_n10 h
          refine x_div C0 i_n10 lit_2 e_v231 dL_law_1075 ?_
          refine x_goto C0 dL_law_1076 (tgt := 1085) (by decide) ?_
          exact h_k213 v231 i_v231 _ _ _ hE (lv_sub hl [2, 3, 4, 5, 6, 10, 11, 13, 14, 0, 15] rfl) h
      · have h := ite_t c9 h
        refine lv_iconst (v := I 0) C0.1 C0.2.1 dL_law_1061 rfl ?_
        refine x_goto C0 dL_law_1062 (tgt := 1085) (by decide) ?_
        exact h_k213 0 lit_0 _ _ _ hE (lv_sub hl [2, 3, 4, 5, 6, 10, 11, 13, 14, 0, 15] rfl) h
    have h := ite_f q208 h
    refine x_tabOut (tgt := 1151) C0 i_v4 dL_law_160 (by omega) (by decide) ?_
    refine lv_aload_n C0.1 C0.2.1 dL_law_1151 rfl (lv_at hl 2 rfl) ?_
    refine lv_iload C0.1 C0.2.1 dL_law_1152 (lv_at hl 7 rfl) ?_
    refine lv_iload C0.1 C0.2.1 dL_law_1154 (lv_at hl 9 rfl) ?_
    obtain ⟨v232, s233, h_v232, h⟩ := bnd_s h
    refine lawB_i (rest := []) (σ' := s233) C0 hml hE (c_E_pop l D g hR i_i6 i_l8 h_v232) kw_L_92 ⟨Nat.le_of_ble_eq_true rfl, Nat.le_of_ble_eq_true rfl⟩ rfl hl.1 rfl (Nat.le_of_ble_eq_true rfl) dL_law_1156 hc (fun H locs hE ⟨i_v232, hR⟩ => ?_)
    refine lv_istore (lv' := [(13, .int (I v232)), (16, .int (I 1)), (0, .ref b), (1, .ref (g.2 0)), (2, .ref (g.2 46)), (3, .ref (g.2 47)), (4, .int (I k)), (5, .int (I c5)), (6, .int (I i6)), (7, .int (I j7)), (8, .int (I l8)), (9, .int (I v9)), (10, .int (I n10)), (11, .ref (g.2 (51 + a11.toNat))), (12, .int (I d12)), (14, .ref (g.2 48)), (15, .int (I n10))]) C0.1 C0.2.1 dL_law_1159 hl (by decide) rfl (fun ls hl => ?_)
    refine lv_iload C0.1 C0.2.1 dL_law_1161 (lv_at hl 12 rfl) ?_
    refine x_if_ne C0 i_n10 dL_law_1163 (tgt := 1175) (by decide) (fun c9 => ?_) (fun c9 => ?_)
    · have h := ite_f c9 h
      refine lv_aload_n C0.1 C0.2.1 dL_law_1175 rfl (lv_at hl 3 rfl) ?_
      refine lv_iconst (v := I 0) C0.1 C0.2.1 dL_law_1176 rfl ?_
      obtain ⟨v234, h_v234, h⟩ := bndp_s h
      refine lawB_l (rest := []) (σ' := s233) C0 hml hE (c_E_row l D g hR lit_0 h_v234) kw_L_42 ⟨Nat.le_of_ble_eq_true rfl, Nat.le_of_ble_eq_true rfl⟩ rfl hl.1 rfl (Nat.le_of_ble_eq_true rfl) dL_law_1177 hc (fun H locs hE i_v234 => ?_)
      refine lv_aload C0.1 C0.2.1 dL_law_1180 (lv_at hl 13 rfl) ?_
      refine lv_iconst (v := I 0) C0.1 C0.2.1 dL_law_1182 rfl ?_
      obtain ⟨v235, e_v235, i_v235, h⟩ := rdA_s hM h
      refine rowB_l C0 hE b_a lit_0 e_v235 dL_law_1183 ?_
      refine x_i2l C0 i_v235 dL_law_1184 ?_
      obtain ⟨v236, e_v236, i_v236, h⟩ := opure_s h (lcmpv_in _ _)
      refine x_lcmp C0 i_v234 (in64_of i_v235) e_v236 dL_law_1185 ?_
      refine x_if_eq C0 i_v236 dL_law_1186 (tgt := 1191) (by decide) (fun c9 => ?_) (fun c9 => ?_)
      · have h := ite_t c9 h
        obtain ⟨v237, e_v237, i_v237, h⟩ := oadd_s h
        refine x_iinc (lv' := [(15, .int (I v237)), (13, .int (I v232)), (16, .int (I 1)), (0, .ref b), (1, .ref (g.2 0)), (2, .ref (g.2 46)), (3, .ref (g.2 47)), (4, .int (I k)), (5, .int (I c5)), (6, .int (I i6)), (7, .int (I j7)), (8, .int (I l8)), (9, .int (I v9)), (10, .int (I n10)), (11, .ref (g.2 (51 + a11.toNat))), (12, .int (I d12)), (14, .ref (g.2 48))]) C0 dL_law_1191 hl (k := 16) rfl e_v237 (by decide) rfl (fun ls hl => ?_)
        refine lv_aload C0.1 C0.2.1 dL_law_1194 (lv_at hl 14 rfl) ?_
        refine lv_iconst (v := I 0) C0.1 C0.2.1 dL_law_1196 rfl ?_
        obtain ⟨v238, e_v238, i_v238, h⟩ := rdA_s hM h
        refine rowB_l C0 hE b_a lit_0 e_v238 dL_law_1197 ?_
        obtain ⟨v239, e_v239, i_v239, h⟩ := oneg_s h
        refine x_neg C0 e_v239 dL_law_1198 ?_
        refine lv_istore (lv' := [(17, .int (I v239)), (15, .int (I v237)), (13, .int (I v232)), (16, .int (I 1)), (0, .ref b), (1, .ref (g.2 0)), (2, .ref (g.2 46)), (3, .ref (g.2 47)), (4, .int (I k)), (5, .int (I c5)), (6, .int (I i6)), (7, .int (I j7)), (8, .int (I l8)), (9, .int (I v9)), (10, .int (I n10)), (11, .ref (g.2 (51 + a11.toNat))), (12, .int (I d12)), (14, .ref (g.2 48))]) C0.1 C0.2.1 dL_law_1199 hl (by decide) rfl (fun ls hl => ?_)
        refine lv_iconst (v := I 0) C0.1 C0.2.1 dL_law_1201 rfl ?_
        refine lv_istore (lv' := [(18, .int (I 0)), (17, .int (I v239)), (15, .int (I v237)), (13, .int (I v232)), (16, .int (I 1)), (0, .ref b), (1, .ref (g.2 0)), (2, .ref (g.2 46)), (3, .ref (g.2 47)), (4, .int (I k)), (5, .int (I c5)), (6, .int (I i6)), (7, .int (I j7)), (8, .int (I l8)), (9, .int (I v9)), (10, .int (I n10)), (11, .ref (g.2 (51 + a11.toNat))), (12, .int (I d12)), (14, .ref (g.2 48))]) C0.1 C0.2.1 dL_law_1202 hl (by decide) rfl (fun ls hl => ?_)
        obtain ⟨k241, e_k241, h⟩ := jn_s h
        have h_k241 : ∀ (x240 : Int) (i_x240 : in32 x240) (H : Heap) (locs : List Loc) (ls : Array Slot), EW D (aL s) s.heap (wB g s233 m2) H locs → lv_has ls 20 [(0, .ref b), (1, .ref (g.2 0)), (2, .ref (g.2 46)), (3, .ref (g.2 47)), (4, .int (I k)), (8, .int (I l8)), (12, .int (I d12)), (13, .int (I v232)), (14, .ref (g.2 48)), (15, .int (I v237)), (17, .int (I x240))] → k241 x240 = some (σr, μr) → W p l e room_1 s m #[Value.ref b] below meth c H locs cells slots Q (F0 m 1227 ls []) := by
          intro x240 i_x240 H locs ls hE hl h
          have h := (congrFun e_k241 x240).symm.trans h
          refine lv_iconst (v := I 0) C0.1 C0.2.1 dL_law_1227 rfl ?_
          refine lv_istore (lv' := [(18, .int (I 0)), (0, .ref b), (1, .ref (g.2 0)), (2, .ref (g.2 46)), (3, .ref (g.2 47)), (4, .int (I k)), (8, .int (I l8)), (12, .int (I d12)), (13, .int (I v232)), (14, .ref (g.2 48)), (15, .int (I v237)), (17, .int (I x240))]) C0.1 C0.2.1 dL_law_1228 hl (by decide) rfl (fun ls hl => ?_)
          obtain ⟨k245, e_k245, h⟩ := jn_s h
          have h_k245 : ∀ (s242 : St) (hR : R32 s242) (m243 : St) (hM : R32 m243) (x244 : Int) (i_x244 : in32 x244) (H : Heap) (locs : List Loc) (ls : Array Slot), EW D (aL s) s.heap (wB g s242 m243) H locs → lv_has ls 20 [(0, .ref b), (1, .ref (g.2 0)), (2, .ref (g.2 46)), (3, .ref (g.2 47)), (4, .int (I k)), (8, .int (I l8)), (12, .int (I d12)), (13, .int (I v232)), (14, .ref (g.2 48)), (15, .int (I v237)), (17, .int (I x244))] → k245 s242 m243 x244 = some (σr, μr) → W p l e room_1 s m #[Value.ref b] below meth c H locs cells slots Q (F0 m 1266 ls []) := by
            intro s242 hR m243 hM x244 i_x244 H locs ls hE hl h
            have h := (congrFun (congrFun (congrFun e_k245 s242) m243) x244).symm.trans h
            refine lv_iload C0.1 C0.2.1 dL_law_1266 (lv_at hl 10 rfl) ?_
            refine x_if_eq C0 i_x244 dL_law_1268 (tgt := 1273) (by decide) (fun c9 => ?_) (fun c9 => ?_)
            · have h := ite_t c9 h
              exact h_k12 s242 hR m243 hM v232 i_v232 v237 i_v237 _ _ _ hE (lv_sub hl [0, 1, 2, 3, 4, 5, 6, 7, 8, 9] rfl) h
            · have h := ite_f c9 h
              refine lv_iconst (v := I 0) C0.1 C0.2.1 dL_law_1271 rfl ?_
              cases h
          have hL1230 : ∀ (n : Nat) (s249 : St) (hR : R32 s249) (m250 : St) (hM : R32 m250) (x246 : Int) (i_x246 : in32 x246) (x247 : Int) (i_x247 : in32 x247) (H : Heap) (locs : List Loc) (ls : Array Slot), EW D (aL s) s.heap (wB g s249 m250) H locs → lv_has ls 20 [(0, .ref b), (1, .ref (g.2 0)), (2, .ref (g.2 46)), (3, .ref (g.2 47)), (4, .int (I k)), (8, .int (I l8)), (12, .int (I d12)), (13, .int (I v232)), (14, .ref (g.2 48)), (15, .int (I v237)), (17, .int (I x246)), (18, .int (I x247))] → L_mid_L1230 k245 l8 v237 n s249 m250 x246 x247 = some (σr, μr) → W p l e room_1 s m #[Value.ref b] below meth c H locs cells slots Q (F0 m 1230 ls []) := by
            intro n
            induction n with
            | zero => intros; rename_i h; cases h
            | succ n ih248 =>
              intro s249 hR m250 hM x246 i_x246 x247 i_x247 H locs ls hE hl h
              unfold L_mid_L1230 at h
              refine lv_iload C0.1 C0.2.1 dL_law_1230 (lv_at hl 11 rfl) ?_
              refine lv_iload C0.1 C0.2.1 dL_law_1232 (lv_at hl 9 rfl) ?_
              refine x_icmp_ge C0 i_x247 i_v237 dL_law_1234 (tgt := 1266) (by decide) (fun c9 => ?_) (fun c9 => ?_)
              · have h := ite_f c9 h
                exact h_k245 s249 hR m250 hM x246 i_x246 _ _ _ hE (lv_sub hl [0, 1, 2, 3, 4, 5, 6, 7, 8, 9, 10] rfl) h
              · have h := ite_t c9 h
                refine lv_aload C0.1 C0.2.1 dL_law_1237 (lv_at hl 8 rfl) ?_
                refine lv_iload C0.1 C0.2.1 dL_law_1239 (lv_at hl 11 rfl) ?_
                refine lv_aload_n C0.1 C0.2.1 dL_law_1241 rfl (lv_at hl 1 rfl) ?_
                refine lv_iload C0.1 C0.2.1 dL_law_1242 (lv_at hl 5 rfl) ?_
                refine lv_iload C0.1 C0.2.1 dL_law_1244 (lv_at hl 11 rfl) ?_
                obtain ⟨v251, h_v251, h⟩ := bndp_s h
                refine lawB_i (rest := [.int (I x247), .ref (g.2 48)]) (σ' := s249) C0 hml hE (c_E_get l D g hR i_l8 i_x247 h_v251) kw_L_13 ⟨Nat.le_of_ble_eq_true rfl, Nat.le_of_ble_eq_true rfl⟩ rfl hl.1 rfl (Nat.le_of_ble_eq_true rfl) dL_law_1246 hc (fun H locs hE i_v251 => ?_)
                obtain ⟨m252, e_m252, hM, h⟩ := wr_s hM i_v251 h
                refine bB_st C0 hE i_x247 e_m252 dL_law_1249 (fun H locs hE => ?_)
                refine lv_iload C0.1 C0.2.1 dL_law_1250 (lv_at hl 10 rfl) ?_
                refine lv_aload C0.1 C0.2.1 dL_law_1252 (lv_at hl 8 rfl) ?_
                refine lv_iload C0.1 C0.2.1 dL_law_1254 (lv_at hl 11 rfl) ?_
                obtain ⟨v253, e_v253, i_v253, h⟩ := rd_s hM h
                refine bB_l C0 hE i_x247 e_v253 dL_law_1256 ?_
                obtain ⟨v254, e_v254, i_v254, h⟩ := osub_s h
                refine x_sub C0 e_v254 dL_law_1257 ?_
                refine lv_istore (lv' := [(17, .int (I v254)), (0, .ref b), (1, .ref (g.2 0)), (2, .ref (g.2 46)), (3, .ref (g.2 47)), (4, .int (I k)), (8, .int (I l8)), (12, .int (I d12)), (13, .int (I v232)), (14, .ref (g.2 48)), (15, .int (I v237)), (18, .int (I x247))]) C0.1 C0.2.1 dL_law_1258 hl (by decide) rfl (fun ls hl => ?_)
                obtain ⟨v255, e_v255, i_v255, h⟩ := oadd_s h
                refine x_iinc (lv' := [(18, .int (I v255)), (17, .int (I v254)), (0, .ref b), (1, .ref (g.2 0)), (2, .ref (g.2 46)), (3, .ref (g.2 47)), (4, .int (I k)), (8, .int (I l8)), (12, .int (I d12)), (13, .int (I v232)), (14, .ref (g.2 48)), (15, .int (I v237))]) C0 dL_law_1260 hl (k := 11) rfl e_v255 (by decide) rfl (fun ls hl => ?_)
                refine x_goto C0 dL_law_1263 (tgt := 1230) (by decide) ?_
                exact ih248 s249 hR m252 hM v254 i_v254 v255 i_v255 _ _ _ hE (lv_sub hl [2, 3, 4, 5, 6, 7, 8, 9, 10, 11, 1, 0] rfl) h
          exact hL1230 FU s233 hR m2 hM x240 i_x240 0 lit_0 _ _ _ hE (lv_sub hl [1, 2, 3, 4, 5, 6, 7, 8, 9, 10, 11, 0] rfl) h
        have hL1204 : ∀ (n : Nat) (x256 : Int) (i_x256 : in32 x256) (x257 : Int) (i_x257 : in32 x257) (H : Heap) (locs : List Loc) (ls : Array Slot), EW D (aL s) s.heap (wB g s233 m2) H locs → lv_has ls 20 [(0, .ref b), (1, .ref (g.2 0)), (2, .ref (g.2 46)), (3, .ref (g.2 47)), (4, .int (I k)), (8, .int (I l8)), (10, .int (I n10)), (11, .ref (g.2 (51 + a11.toNat))), (12, .int (I d12)), (13, .int (I v232)), (14, .ref (g.2 48)), (15, .int (I v237)), (17, .int (I x256)), (18, .int (I x257))] → L_mid_L1204 k241 s233 m2 n10 a11 n x256 x257 = some (σr, μr) → W p l e room_1 s m #[Value.ref b] below meth c H locs cells slots Q (F0 m 1204 ls []) := by
          intro n
          induction n with
          | zero => intros; rename_i h; cases h
          | succ n ih258 =>
            intro x256 i_x256 x257 i_x257 H locs ls hE hl h
            unfold L_mid_L1204 at h
            refine lv_iload C0.1 C0.2.1 dL_law_1204 (lv_at hl 13 rfl) ?_
            refine lv_iload C0.1 C0.2.1 dL_law_1206 (lv_at hl 6 rfl) ?_
            refine x_icmp_ge C0 i_x257 i_n10 dL_law_1208 (tgt := 1227) (by decide) (fun c9 => ?_) (fun c9 => ?_)
            · have h := ite_f c9 h
              exact h_k241 x256 i_x256 _ _ _ hE (lv_sub hl [0, 1, 2, 3, 4, 5, 8, 9, 10, 11, 12] rfl) h
            · have h := ite_t c9 h
              refine lv_iload C0.1 C0.2.1 dL_law_1211 (lv_at hl 12 rfl) ?_
              refine lv_aload C0.1 C0.2.1 dL_law_1213 (lv_at hl 7 rfl) ?_
              refine lv_iload C0.1 C0.2.1 dL_law_1215 (lv_at hl 13 rfl) ?_
              obtain ⟨v259, e_v259, i_v259, h⟩ := rdA_s hM h
              refine rowB_l C0 hE b_a i_x257 e_v259 dL_law_1217 ?_
              obtain ⟨v260, e_v260, i_v260, h⟩ := oadd_s h
              refine x_add C0 e_v260 dL_law_1218 ?_
              refine lv_istore (lv' := [(17, .int (I v260)), (0, .ref b), (1, .ref (g.2 0)), (2, .ref (g.2 46)), (3, .ref (g.2 47)), (4, .int (I k)), (8, .int (I l8)), (10, .int (I n10)), (11, .ref (g.2 (51 + a11.toNat))), (12, .int (I d12)), (13, .int (I v232)), (14, .ref (g.2 48)), (15, .int (I v237)), (18, .int (I x257))]) C0.1 C0.2.1 dL_law_1219 hl (by decide) rfl (fun ls hl => ?_)
              obtain ⟨v261, e_v261, i_v261, h⟩ := oadd_s h
              refine x_iinc (lv' := [(18, .int (I v261)), (17, .int (I v260)), (0, .ref b), (1, .ref (g.2 0)), (2, .ref (g.2 46)), (3, .ref (g.2 47)), (4, .int (I k)), (8, .int (I l8)), (10, .int (I n10)), (11, .ref (g.2 (51 + a11.toNat))), (12, .int (I d12)), (13, .int (I v232)), (14, .ref (g.2 48)), (15, .int (I v237))]) C0 dL_law_1221 hl (k := 13) rfl e_v261 (by decide) rfl (fun ls hl => ?_)
              refine x_goto C0 dL_law_1224 (tgt := 1204) (by decide) ?_
              exact ih258 v260 i_v260 v261 i_v261 _ _ _ hE (lv_sub hl [2, 3, 4, 5, 6, 7, 8, 9, 10, 11, 12, 13, 1, 0] rfl) h
        exact hL1204 FU v239 i_v239 0 lit_0 _ _ _ hE (lv_sub hl [5, 6, 7, 8, 9, 13, 15, 16, 17, 3, 18, 2, 1, 0] rfl) h
      · have h := ite_f c9 h
        refine lv_iconst (v := I 0) C0.1 C0.2.1 dL_law_1189 rfl ?_
        cases h
    · have h := ite_t c9 h
      refine lv_iload C0.1 C0.2.1 dL_law_1166 (lv_at hl 0 rfl) ?_
      refine lv_bipush (v := I (-2)) C0.1 C0.2.1 dL_law_1168 (by decide +kernel) ?_
      refine x_icmp_eq C0 i_v232 lit_m2 dL_law_1170 (tgt := 1401) (by decide) (fun c9 => ?_) (fun c9 => ?_)
      · have h := ite_t c9 h
        exact h_k7 s233 hR m2 hM _ _ _ hE (lv_sub hl [2, 3, 4, 5, 6] rfl) h
      · have h := ite_f c9 h
        refine lv_iconst (v := I 0) C0.1 C0.2.1 dL_law_1173 rfl ?_
        cases h
  have hL129 : ∀ (n : Nat) (s264 : St) (hR : R32 s264) (m265 : St) (hM : R32 m265) (x262 : Int) (i_x262 : in32 x262) (H : Heap) (locs : List Loc) (ls : Array Slot), EW D (aL s) s.heap (wB g s264 m265) H locs → lv_has ls 20 [(0, .ref b), (1, .ref (g.2 0)), (2, .ref (g.2 46)), (3, .ref (g.2 47)), (4, .int (I k)), (5, .int (I c5)), (6, .int (I i6)), (7, .int (I j7)), (8, .int (I l8)), (9, .int (I v9)), (10, .int (I n10)), (11, .ref (g.2 (51 + a11.toNat))), (12, .int (I d12)), (14, .ref (g.2 48)), (15, .int (I n10)), (16, .int (I x262))] → L_mid_L129 k3 n10 a11 n s264 m265 x262 = some (σr, μr) → W p l e room_1 s m #[Value.ref b] below meth c H locs cells slots Q (F0 m 129 ls []) := by
    intro n
    induction n with
    | zero => intros; rename_i h; cases h
    | succ n ih263 =>
      intro s264 hR m265 hM x262 i_x262 H locs ls hE hl h
      unfold L_mid_L129 at h
      refine lv_iload C0.1 C0.2.1 dL_law_129 (lv_at hl 15 rfl) ?_
      refine lv_iload C0.1 C0.2.1 dL_law_131 (lv_at hl 10 rfl) ?_
      refine x_icmp_ge C0 i_x262 i_n10 dL_law_133 (tgt := 152) (by decide) (fun c9 => ?_) (fun c9 => ?_)
      · have h := ite_f c9 h
        exact h_k3 s264 hR m265 hM _ _ _ hE (lv_sub hl [0, 1, 2, 3, 4, 5, 6, 7, 8, 9, 10, 11, 12, 13, 14] rfl) h
      · have h := ite_t c9 h
        refine lv_aload C0.1 C0.2.1 dL_law_136 (lv_at hl 13 rfl) ?_
        refine lv_iload C0.1 C0.2.1 dL_law_138 (lv_at hl 15 rfl) ?_
        refine lv_aload C0.1 C0.2.1 dL_law_140 (lv_at hl 11 rfl) ?_
        refine lv_iload C0.1 C0.2.1 dL_law_142 (lv_at hl 15 rfl) ?_
        obtain ⟨v266, e_v266, i_v266, h⟩ := rdA_s hM h
        refine rowB_l C0 hE b_a i_x262 e_v266 dL_law_144 ?_
        obtain ⟨m267, e_m267, hM, h⟩ := wr_s hM i_v266 h
        refine bB_st C0 hE i_x262 e_m267 dL_law_145 (fun H locs hE => ?_)
        obtain ⟨v268, e_v268, i_v268, h⟩ := oadd_s h
        refine x_iinc (lv' := [(16, .int (I v268)), (0, .ref b), (1, .ref (g.2 0)), (2, .ref (g.2 46)), (3, .ref (g.2 47)), (4, .int (I k)), (5, .int (I c5)), (6, .int (I i6)), (7, .int (I j7)), (8, .int (I l8)), (9, .int (I v9)), (10, .int (I n10)), (11, .ref (g.2 (51 + a11.toNat))), (12, .int (I d12)), (14, .ref (g.2 48)), (15, .int (I n10))]) C0 dL_law_146 hl (k := 15) rfl e_v268 (by decide) rfl (fun ls hl => ?_)
        refine x_goto C0 dL_law_149 (tgt := 129) (by decide) ?_
        exact ih263 s264 hR m267 hM v268 i_v268 _ _ _ hE (lv_sub hl [1, 2, 3, 4, 5, 6, 7, 8, 9, 10, 11, 12, 13, 14, 15, 0] rfl) h
  exact hL129 FU σ hR μ hM 0 lit_0 _ _ _ hE (lv_sub hl [3, 4, 5, 6, 7, 8, 9, 10, 11, 12, 13, 14, 15, 2, 1, 0] rfl) h
theorem newb_at {p : Program} {l : Launch} {e : Env} {s : State} {m : MethodId} {below : List Frame} {meth : Method} {c : Code} {Q : State → Prop} {D : va_G} {g : Ad} {b L : Nat} {xs : Nat → Int32} {σ μ : St} {H : Heap} {locs : List Loc} {cells slots : Nat} {ls : Array Slot} {rest : List Value} (hC : LC p s m meth c b L xs D g) (hroom : cells + 1 ≤ room_1.cells ∧ slots + 64 ≤ room_1.slots) (hE : EW D (aL s) s.heap (wP g σ μ) H locs) (hd : decode cL_law 118 = .ok (.newarray .int, 2))
    (kk : ∀ (q : Nat) (H1 : Heap), EW D (aL s) s.heap (wB (g.1, fun k => if k = 48 then q else g.2 k) σ (nwB μ)) H1 locs → W p l e room_1 s m #[Value.ref b] below meth c H1 locs (cells + 1) (slots + 64) Q (F0 m 120 ls (.ref q :: rest))) : W p l e room_1 s m #[Value.ref b] below meth c H locs cells slots Q (F0 m 118 ls (.int (I 64) :: rest)) :=
  x_newa (atype := .int) (ty := .int) (t := 0) (N := 64) (n := 64) (a0 := (64, .inl (fun _ => 0))) hC.1 hE (wt1 62 (by rfl) rfl) rfl rfl (fun _ _ h => h) (fun _ => rfl) (by decide) (by decide +kernel) (Nat.le_of_ble_eq_true rfl) hroom.1 hroom.2 hd (fun q H1 hE => kk q H1 (newB hE))

set_option maxRecDepth 100000 in
set_option maxHeartbeats 8000000 in
theorem c_L_head {p : Program} {l : Launch} {e : Env} {s : State} {m : MethodId} {below : List Frame} {meth : Method} {c : Code} {Q : State → Prop} {D : va_G} {g : Ad} {b L : Nat} {xs : Nat → Int32} {σ μ σr μr : St} {c5 k : Int} (hC : LC p s m meth c b L xs D g) (hR : R32 σ) (hM : R32 μ) (i_k : in32 k) (i_c5 : in32 c5) {H : Heap} {locs : List Loc} {cells slots : Nat} {ls : Array Slot} (hc : cells ≤ room_1.cells ∧ slots ≤ room_1.slots) (hroom : cells + 1 ≤ room_1.cells ∧ slots + 64 ≤ room_1.slots) (hE : EW D (aL s) s.heap (wP g σ μ) H locs) (hl : lv_has ls 20 [(0, .ref b), (1, .ref (g.2 0)), (2, .ref (g.2 46)), (3, .ref (g.2 47)), (4, .int (I k))]) (h : L_head σ μ c5 = some (σr, μr))
    (next : ∀ (g1 : Ad) (σ1 μ1 : St) (H : Heap) (locs : List Loc) (ls : Array Slot), g1.1 = g.1 → some (σ1, μ1) = some (σr, μr) → R32 σ1 → R32 μ1 → EW D (aL s) s.heap (wP g1 σ1 μ1) H locs → lv_has ls 20 (lvH g1 b k) → W p l e room_1 s m #[Value.ref b] below meth c H locs (cells + 1) (slots + 64) Q (F0 m 1401 ls [])) : W p l e room_1 s m #[Value.ref b] below meth c H locs cells slots Q (F0 m 38 ls [.int (I c5)]) := by
  have C0 := hC.1
  have hml := hC.2.1
  have hK3 := hC.2.2.2.2.2.2.1
  unfold L_head at h
  refine lv_istore (lv' := [(5, .int (I c5)), (0, .ref b), (1, .ref (g.2 0)), (2, .ref (g.2 46)), (3, .ref (g.2 47)), (4, .int (I k))]) C0.1 C0.2.1 dL_law_38 hl (by decide) rfl (fun ls hl => ?_)
  refine lv_iload C0.1 C0.2.1 dL_law_40 (lv_at hl 0 rfl) ?_
  refine lv_iconst (v := I 4) C0.1 C0.2.1 dL_law_42 rfl ?_
  obtain ⟨v1, e_v1, i_v1, h⟩ := opure_s h (bushr_in _ _)
  refine x_ushr C0 e_v1 dL_law_43 ?_
  refine lv_bipush (v := I 15) C0.1 C0.2.1 dL_law_44 (by decide +kernel) ?_
  obtain ⟨v2, e_v2, i_v2, h⟩ := opure_s h (band_in _ _)
  refine x_and C0 e_v2 dL_law_46 ?_
  refine lv_bipush (v := I 6) C0.1 C0.2.1 dL_law_47 (by decide +kernel) ?_
  obtain ⟨v3, e_v3, i_v3, h⟩ := orem_s lit_6 h
  refine x_rem C0 i_v2 lit_6 e_v3 dL_law_49 ?_
  refine lv_istore (lv' := [(6, .int (I v3)), (5, .int (I c5)), (0, .ref b), (1, .ref (g.2 0)), (2, .ref (g.2 46)), (3, .ref (g.2 47)), (4, .int (I k))]) C0.1 C0.2.1 dL_law_50 hl (by decide) rfl (fun ls hl => ?_)
  refine lv_iload C0.1 C0.2.1 dL_law_52 (lv_at hl 1 rfl) ?_
  refine lv_bipush (v := I 8) C0.1 C0.2.1 dL_law_54 (by decide +kernel) ?_
  obtain ⟨v4, e_v4, i_v4, h⟩ := opure_s h (bushr_in _ _)
  refine x_ushr C0 e_v4 dL_law_56 ?_
  refine lv_bipush (v := I 15) C0.1 C0.2.1 dL_law_57 (by decide +kernel) ?_
  obtain ⟨v5, e_v5, i_v5, h⟩ := opure_s h (band_in _ _)
  refine x_and C0 e_v5 dL_law_59 ?_
  refine lv_bipush (v := I 6) C0.1 C0.2.1 dL_law_60 (by decide +kernel) ?_
  obtain ⟨v6, e_v6, i_v6, h⟩ := orem_s lit_6 h
  refine x_rem C0 i_v5 lit_6 e_v6 dL_law_62 ?_
  refine lv_istore (lv' := [(7, .int (I v6)), (6, .int (I v3)), (5, .int (I c5)), (0, .ref b), (1, .ref (g.2 0)), (2, .ref (g.2 46)), (3, .ref (g.2 47)), (4, .int (I k))]) C0.1 C0.2.1 dL_law_63 hl (by decide) rfl (fun ls hl => ?_)
  refine lv_iload C0.1 C0.2.1 dL_law_65 (lv_at hl 2 rfl) ?_
  refine lv_bipush (v := I 12) C0.1 C0.2.1 dL_law_67 (by decide +kernel) ?_
  obtain ⟨v7, e_v7, i_v7, h⟩ := opure_s h (bushr_in _ _)
  refine x_ushr C0 e_v7 dL_law_69 ?_
  refine lv_bipush (v := I 15) C0.1 C0.2.1 dL_law_70 (by decide +kernel) ?_
  obtain ⟨v8, e_v8, i_v8, h⟩ := opure_s h (band_in _ _)
  refine x_and C0 e_v8 dL_law_72 ?_
  refine lv_bipush (v := I 6) C0.1 C0.2.1 dL_law_73 (by decide +kernel) ?_
  obtain ⟨v9, e_v9, i_v9, h⟩ := orem_s lit_6 h
  refine x_rem C0 i_v8 lit_6 e_v9 dL_law_75 ?_
  refine lv_istore (lv' := [(8, .int (I v9)), (7, .int (I v6)), (6, .int (I v3)), (5, .int (I c5)), (0, .ref b), (1, .ref (g.2 0)), (2, .ref (g.2 46)), (3, .ref (g.2 47)), (4, .int (I k))]) C0.1 C0.2.1 dL_law_76 hl (by decide) rfl (fun ls hl => ?_)
  refine lv_iload C0.1 C0.2.1 dL_law_78 (lv_at hl 3 rfl) ?_
  refine lv_bipush (v := I 16) C0.1 C0.2.1 dL_law_80 (by decide +kernel) ?_
  obtain ⟨v10, e_v10, i_v10, h⟩ := opure_s h (bushr_in _ _)
  refine x_ushr C0 e_v10 dL_law_82 ?_
  refine lv_sipush (v := I 2047) C0.1 C0.2.1 dL_law_83 (by decide +kernel) ?_
  obtain ⟨v11, e_v11, i_v11, h⟩ := opure_s h (band_in _ _)
  refine x_and C0 e_v11 dL_law_86 ?_
  refine lv_sipush (v := I 1999) C0.1 C0.2.1 dL_law_87 (by decide +kernel) ?_
  obtain ⟨v12, e_v12, i_v12, h⟩ := orem_s lit_1999 h
  refine x_rem C0 i_v11 lit_1999 e_v12 dL_law_90 ?_
  refine lv_sipush (v := I 999) C0.1 C0.2.1 dL_law_91 (by decide +kernel) ?_
  obtain ⟨v13, e_v13, i_v13, h⟩ := osub_s h
  refine x_sub C0 e_v13 dL_law_94 ?_
  refine lv_istore (lv' := [(9, .int (I v13)), (8, .int (I v9)), (7, .int (I v6)), (6, .int (I v3)), (5, .int (I c5)), (0, .ref b), (1, .ref (g.2 0)), (2, .ref (g.2 46)), (3, .ref (g.2 47)), (4, .int (I k))]) C0.1 C0.2.1 dL_law_95 hl (by decide) rfl (fun ls hl => ?_)
  refine lv_aload_n C0.1 C0.2.1 dL_law_97 rfl (lv_at hl 8 rfl) ?_
  refine lv_iload C0.1 C0.2.1 dL_law_98 (lv_at hl 3 rfl) ?_
  obtain ⟨v14, e_v14, i_v14, h⟩ := rd_s hM h
  refine manyP_l C0 hE i_v3 e_v14 dL_law_100 ?_
  refine lv_istore (lv' := [(10, .int (I v14)), (9, .int (I v13)), (8, .int (I v9)), (7, .int (I v6)), (6, .int (I v3)), (5, .int (I c5)), (0, .ref b), (1, .ref (g.2 0)), (2, .ref (g.2 46)), (3, .ref (g.2 47)), (4, .int (I k))]) C0.1 C0.2.1 dL_law_101 hl (by decide) rfl (fun ls hl => ?_)
  refine lv_aload_n C0.1 C0.2.1 dL_law_103 rfl (lv_at hl 8 rfl) ?_
  refine lv_iload C0.1 C0.2.1 dL_law_104 (lv_at hl 4 rfl) ?_
  obtain ⟨v15, e_v15, h⟩ := chk6_s h
  refine aald_at C0 hK3 hE rfl i_v3 e_v15 dL_law_106 ?_
  refine lv_astore (lv' := [(11, .ref (g.2 (51 + v15.toNat))), (10, .int (I v14)), (9, .int (I v13)), (8, .int (I v9)), (7, .int (I v6)), (6, .int (I v3)), (5, .int (I c5)), (0, .ref b), (1, .ref (g.2 0)), (2, .ref (g.2 46)), (3, .ref (g.2 47)), (4, .int (I k))]) C0.1 C0.2.1 dL_law_107 hl (by decide) rfl (fun ls hl => ?_)
  refine lv_aload_n C0.1 C0.2.1 dL_law_109 rfl (lv_at hl 8 rfl) ?_
  refine lv_iconst (v := I 1) C0.1 C0.2.1 dL_law_110 rfl ?_
  obtain ⟨v16, h_v16, h⟩ := bndp_s h
  refine lawP_i (rest := []) (σ' := σ) C0 hml hE (c_E_count l D g hR lit_1 h_v16) kw_L_29 ⟨Nat.le_of_ble_eq_true rfl, Nat.le_of_ble_eq_true rfl⟩ rfl hl.1 rfl (Nat.le_of_ble_eq_true rfl) dL_law_111 hc (fun H locs hE i_v16 => ?_)
  refine lv_istore (lv' := [(12, .int (I v16)), (11, .ref (g.2 (51 + v15.toNat))), (10, .int (I v14)), (9, .int (I v13)), (8, .int (I v9)), (7, .int (I v6)), (6, .int (I v3)), (5, .int (I c5)), (0, .ref b), (1, .ref (g.2 0)), (2, .ref (g.2 46)), (3, .ref (g.2 47)), (4, .int (I k))]) C0.1 C0.2.1 dL_law_114 hl (by decide) rfl (fun ls hl => ?_)
  refine lv_bipush (v := I 64) C0.1 C0.2.1 dL_law_116 (by decide +kernel) ?_
  have hl := lv_sub (l' := [(0, .ref b), (1, .ref (g.2 0)), (2, .ref (g.2 46)), (3, .ref (g.2 47)), (4, .int (I k)), (5, .int (I c5)), (6, .int (I v3)), (7, .int (I v6)), (8, .int (I v9)), (9, .int (I v13)), (10, .int (I v14)), (11, .ref (g.2 (51 + v15.toNat))), (12, .int (I v16))]) hl [8, 9, 10, 11, 12, 7, 6, 5, 4, 3, 2, 1, 0] rfl
  refine newb_at hC hroom hE dL_law_118 (fun q H hE => ?_)
  rw [← (show (if 51 + v15.toNat = 48 then q else g.2 (51 + v15.toNat)) = g.2 (51 + v15.toNat) from if_neg (by omega))] at hl
  exact c_L_mid (g := (g.1, fun k => if k = 48 then q else g.2 k)) (hC.cg rfl) hR (nwB_R hM) i_k i_c5 i_v3 i_v6 i_v9 i_v13 i_v14 i_v16 (by have := e_v15.2; omega) e_v15.2 hroom hE (lv_sub hl [0, 1, 2, 3, 4, 5, 6, 7, 8, 9, 10, 11, 12] rfl) h (fun g1 σ1 μ1 H locs ls e9 => next g1 σ1 μ1 H locs ls e9)

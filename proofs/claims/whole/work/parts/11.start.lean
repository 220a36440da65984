theorem NW_tab : ∀ w ∈ NW, w ∈ lw_tbl := by decide +kernel
theorem zE_R : R32 zE := by
  intro f j
  unfold zE
  repeat (first | decide | split)
theorem zM_R : R32 zM := fun _ _ => (by decide : in32 0)
theorem arr_of {s : State} {args : Array Value} (ty : FieldType) (hp : ∀ c : ClassId, s.vm.findClass ("[" ++ ty.toString) = some c → va_RA s c ty) (h : (Cond.arrayClass ty).before args s = true) : ∃ c : ClassId, ArrOfT s c ty ∧ va_RA s c ty := by
  obtain ⟨cA, kA, comp, h1, h2, h3⟩ := Cond.arrayClass_spec h
  exact ⟨cA, fun n z => ⟨fun k h => (by cases h), kA, h2, comp, h3⟩, hp cA h1⟩
set_option maxRecDepth 100000 in
set_option maxHeartbeats 4000000 in
theorem law_start {p : Program} {e : Env} {s : State} {m : MethodId} {below : List Frame} {meth : Method} {c : Code} (l : Launch) (hflags : l.flags = flags0) {b L : Nat} {xs : Nat → Int32} (hL : L ≤ 3072) (Z0 : lw_At p s m meth c b L xs) {S : Nat → St → St → Prop} (HI : S 0 zE zM) (HD : ∀ (k : Nat) (σ τ : St), S k σ τ → S (k + 1) σ τ) (H0 : HS_0 S) (H1 : HS_1 S) (H2 : HS_2 S) (H3 : HS_3 S) (H4 : HS_4 S) (H5 : HS_5 S) (H6 : HS_6 S) (H7 : HS_7 S) (H8 : HS_8 S) (H9 : HS_9 S) (H10 : HS_10 S) (H11 : HS_11 S) (H12 : HS_12 S) (H13 : HS_13 S) (H14 : HS_14 S) (H15 : HS_15 S) (H16 : HS_16 S) (H17 : HS_17 S) (H18 : HS_18 S) (H19 : HS_19 S) (H20 : HS_20 S) (H21 : HS_21 S) (H22 : HS_22 S) (H23 : HS_23 S) (H24 : HS_24 S) (H25 : HS_25 S) (H26 : HS_26 S) (H27 : HS_27 S) (H28 : HS_28 S) (H29 : HS_29 S) (H30 : HS_30 S) (H31 : HS_31 S) (H32 : HS_32 S) (H33 : HS_33 S) (H34 : HS_34 S) (H35 : HS_35 S) (H36 : HS_36 S) (H37 : HS_37 S) (H38 : HS_38 S) (H39 : HS_39 S) (H40 : HS_40 S) (H41 : HS_41 S) (H42 : HS_42 S) (H43 : HS_43 S) (H44 : HS_44 S) (H45 : HS_45 S) (H46 : HS_46 S) (H47 : HS_47 S) (H48 : HS_48 S) (H49 : HS_49 S) (H50 : HS_50 S) : W p l e room_1 s m #[Value.ref b] below meth c s.heap [] 0 0 (lw_Z below #[Value.ref b] s) (entryFrame m ([Value.ref b] : List Value).toArray 8) := by
  obtain ⟨hx, hb, hr, hml, hown, hts, hX, hbl, hlk, hgv⟩ := Z0
  have hl0 : l.stackTraces = false := by
    unfold Launch.stackTraces
    rw [hflags]
    decide +kernel
  have htw : ∀ w ∈ WT, w.before #[Value.ref b] s = true := fun w hw => hts w (List.mem_filter.mp hw).1
  obtain ⟨c0, i0, hK0⟩ := u_known (C := RX0) (T := TX0) (N := 10) (n := 10) htw inX0 (htw _ (wt1 26 (by rfl) rfl))
  obtain ⟨c1, i1, hK1⟩ := u_known (C := RX1) (T := TX1) (N := 14) (n := 14) htw inX1 (htw _ (wt1 81 (by rfl) rfl))
  obtain ⟨c2, i2, hK2⟩ := u_known (C := RX2) (T := TX2) (N := 2) (n := 2) htw inX2 (htw _ (wt1 65 (by rfl) rfl))
  obtain ⟨c4, i4, hK4⟩ := u_known (C := RX4) (T := TX4) (N := 2) (n := 2) htw inX4 (htw _ (wt1 87 (by rfl) rfl))
  obtain ⟨c5, i5, hK5⟩ := u_known (C := RX5) (T := TX5) (N := 2) (n := 2) htw inX5 (htw _ (wt1 168 (by rfl) rfl))
  obtain ⟨c6, i6, hK6⟩ := u_known (C := RX6) (T := TX6) (N := 3) (n := 3) htw inX6 (htw _ (wt1 150 (by rfl) rfl))
  obtain ⟨c7, i7, hK7⟩ := u_known (C := RX7) (T := TX7) (N := 12) (n := 12) htw inX7 (htw _ (wt1 18 (by rfl) rfl))
  obtain ⟨c8, i8, hK8⟩ := u_known (C := RX8) (T := TX8) (N := 30) (n := 30) htw inX8 (htw _ (wt4 155 (by rfl) rfl))
  obtain ⟨k0, hk0⟩ := arr_of .int (fun _ h => h) (htw _ (wt1 63 (by rfl) rfl))
  obtain ⟨k1, hk1⟩ := arr_of .long (fun _ h => h) (htw _ (wt1 79 (by rfl) rfl))
  obtain ⟨k2, hk2⟩ := arr_of .boolean (fun _ h => h) (htw _ (wt5 11 (by rfl) rfl))
  obtain ⟨k3, hk3⟩ := arr_of .byte (fun _ h => h) (htw _ (wt4 153 (by rfl) rfl))
  obtain ⟨dC, dI, hKc⟩ : ∃ (dC : Nat → ClassId) (dI : Nat → Nat → Nat), ∀ (k : Nat) (q : vw_C), vwCl[k]? = some q → u_Kn s q.1 q.2.1 q.2.2 (dC k) (dI k) := by
    refine ⟨fun k => if k = 0 then c0 else if k = 1 then c1 else if k = 2 then c2 else if k = 3 then c4 else if k = 4 then c5 else if k = 5 then c6 else if k = 6 then c7 else c8, fun k => if k = 0 then i0 else if k = 1 then i1 else if k = 2 then i2 else if k = 3 then i4 else if k = 4 then i5 else if k = 5 then i6 else if k = 6 then i7 else i8, ?_⟩
    intro k q hq
    match k, hq with
    | 0, hq => cases hq; exact hK0
    | 1, hq => cases hq; exact hK1
    | 2, hq => cases hq; exact hK2
    | 3, hq => cases hq; exact hK4
    | 4, hq => cases hq; exact hK5
    | 5, hq => cases hq; exact hK6
    | 6, hq => cases hq; exact hK7
    | 7, hq => cases hq; exact hK8
    | k + 8, hq => simp [vwCl] at hq
  have hKX : ∀ ad : Nat → Nat, KX (dC, dI) ((fun k => if k = 0 then k0 else if k = 1 then k1 else if k = 2 then k2 else k3), ad) s := by
    intro ad
    refine ⟨⟨hKc, ?_⟩, fun w hw => ?_⟩
    · intro k q hq
      match k, hq with
      | 0, hq => cases hq; exact hk0
      | 1, hq => cases hq; exact hk1
      | 2, hq => cases hq; exact hk2
      | 3, hq => cases hq; exact hk3
      | k + 4, hq => simp [tyA] at hq
    · have hm : w ∈ lw_tbl := NW_tab w hw
      have hn := NW_nest w hw
      have hb9 := hts w hm
      cases w <;> first | exact va_Nw.of rfl hb9 | exact absurd hn (fun q => q)
  generalize hkc : (fun k => if k = 0 then k0 else if k = 1 then k1 else if k = 2 then k2 else k3 : Nat → ClassId) = kc at hKX
  have C0 : ∀ ad : Nat → Nat, CX p c cL_law m s #[Value.ref b] (dC, dI) (kc, ad) RL := fun ad => ⟨hx, hb, hown, htw, hKX ad⟩
  have hflat := flat_of_before _ hgv
  have hXR : XR (aL s) s s.heap := by
    have hA : ∀ a : Nat, a < s.heap.size → ¬ aL s a := fun a h => Nat.not_le.mpr h
    refine ⟨?_, vx_Zqof (args := #[Value.ref b]) (hts _ (List.mem_append_right _ (List.mem_append_right _ (List.mem_append_right _ (List.mem_append_right _ (List.mem_append_left _ (List.mem_of_getElem? (i := 115) (by rfl)))))))) (htw _ (wt1 13 (by rfl) rfl)) (hflat _ (by decide +kernel)) hA,
      vx_Zqof (args := #[Value.ref b]) (hts _ (List.mem_append_right _ (List.mem_append_right _ (List.mem_append_right _ (List.mem_append_right _ (List.mem_append_left _ (List.mem_of_getElem? (i := 117) (by rfl)))))))) (htw _ (wt1 13 (by rfl) rfl)) (hflat _ (by decide +kernel)) hA, fun w hw => ?_⟩
    · have hex : (Cond.exactly (.string "EvenTrees" 309) "java/lang/String").before #[Value.ref b] s = true := hflat _ (by decide +kernel)
      obtain ⟨sa, c9, cell9, k9, hsa, -⟩ := Cond.exactly_spec hex
      have hsr : (Cond.stringRef RX7 309 "no such number in the row").before #[Value.ref b] s = true := hts _ (List.mem_append_right _ (List.mem_append_right _ (List.mem_append_right _ (List.mem_append_right _ (List.mem_append_left _ (List.mem_of_getElem? (i := 127) (by rfl)))))))
      exact ⟨sa, vk_R.of hsr hsa⟩
    · have hd := BX_dc w hw
      have hb9 := hts w (BX_tab w hw)
      cases w <;> first | exact va_Nw.of rfl hb9 | exact absurd hd (by simp [dcW])
  have hl := lv_entry ([.ref b]) (n := 8) (Nat.le_of_ble_eq_true rfl)
  rw [lg_entry_eq]
  generalize (lg_sl ([.ref b]) ++ List.replicate (8 - (lg_sl ([.ref b])).length) Slot.unset).toArray = ls at hl ⊢
  have hl : lv_has ls 8 [(0, .ref b)] := hl
  have hE : EW (dC, dI) (aL s) s.heap [] s.heap [] := ⟨fun k q h => by simp at h, ⟨fun i j p q h => by simp at h, fun k q h => by simp at h⟩, va_S.rf, fun q h => h⟩
  refine x_new (g := (kc, fun _ => 0)) (ci := 6) (fs := [.null, .null, .null, .null, .null, .null, .null, .null, .null, .null, .null, .null]) (C := RX7) (T := TX7) (N := 12) (C0 (fun _ => 0)) hE inX7 tyX7 tyX7_ok (wt1 17 (by rfl) rfl) (wt1 18 (by rfl) rfl) (wt1 1 (by rfl) rfl) rfl (fun j hj => by rcases (show j = 0 ∨ j = 1 ∨ j = 2 ∨ j = 3 ∨ j = 4 ∨ j = 5 ∨ j = 6 ∨ j = 7 ∨ j = 8 ∨ j = 9 ∨ j = 10 ∨ j = 11 by omega) with rfl | rfl | rfl | rfl | rfl | rfl | rfl | rfl | rfl | rfl | rfl | rfl <;> rfl) (Nat.le_of_ble_eq_true rfl) (Nat.le_of_ble_eq_true rfl) dL_law_0 (fun qE H hE => ?_)
  have hE : EW (dC, dI) (aL s) s.heap [(qE, .inr (6, [.null, .null, .null, .null, .null, .null, .null, .null, .null, .null, .null, .null]))] H [] := hE
  refine W.cs (cells' := 1) (slots' := 12) rfl rfl ?_
  refine lv_dup hx hb dL_law_3 rfl ?_
  refine callN (g := (kc, fun _ => 0)) (n := 0) (host := "EvenTrees") (wr := []) (wc := [(qE, .inr (6, [.null, .null, .null, .null, .null, .null, .null, .null, .null, .null, .null, .null]))]) (rest := [.ref qE]) (C0 (fun _ => 0)) hml hE [0] [] rfl rfl rfl (by decide) (by decide) (by decide) (n_E l (dC, dI) (kc, fun _ => 0) qE) ⟨Or.inr (wt1 19 (by rfl) rfl), (wt1 20 (by rfl) rfl), (wt1 1 (by rfl) rfl), (wt1 21 (by rfl) rfl), rfl, by decide +kernel⟩ ⟨Nat.le_of_ble_eq_true rfl, Nat.le_of_ble_eq_true rfl⟩ rfl hl.1 rfl (Nat.le_of_ble_eq_true rfl) dL_law_4 ⟨Nat.le_of_ble_eq_true rfl, Nat.le_of_ble_eq_true rfl⟩ (fun u H locs hE hu => ?_)
  refine W.cs (cells' := 30) (slots' := 35071) rfl rfl ?_
  have hE : EW (dC, dI) (aL s) s.heap (wE (kc, u) zE) H locs := hE
  refine lv_astore_n (lv' := [(1, .ref qE), (0, .ref b)]) hx hb dL_law_7 rfl hl (by decide) rfl (fun ls hl => ?_)
  refine x_new (g := (kc, fun _ => 0)) (ci := 7) (fs := [.null, .null, .null, .int 0, .null, .int 0, .null, .int 0, .int 0, .int 0, .null, .int 0, .int 0, .null, .int 0, .int 0, .int 0, .null, .null, .null, .null, .null, .null, .null, .int 0, .int 0, .int 0, .int 0, .int 0, .int 0]) (C := RX8) (T := TX8) (N := 30) (C0 (fun _ => 0)) hE inX8 tyX8 tyX8_ok (wt4 154 (by rfl) rfl) (wt4 155 (by rfl) rfl) (wt1 8 (by rfl) rfl) rfl (fun j hj => by rcases (show j = 0 ∨ j = 1 ∨ j = 2 ∨ j = 3 ∨ j = 4 ∨ j = 5 ∨ j = 6 ∨ j = 7 ∨ j = 8 ∨ j = 9 ∨ j = 10 ∨ j = 11 ∨ j = 12 ∨ j = 13 ∨ j = 14 ∨ j = 15 ∨ j = 16 ∨ j = 17 ∨ j = 18 ∨ j = 19 ∨ j = 20 ∨ j = 21 ∨ j = 22 ∨ j = 23 ∨ j = 24 ∨ j = 25 ∨ j = 26 ∨ j = 27 ∨ j = 28 ∨ j = 29 by omega) with rfl | rfl | rfl | rfl | rfl | rfl | rfl | rfl | rfl | rfl | rfl | rfl | rfl | rfl | rfl | rfl | rfl | rfl | rfl | rfl | rfl | rfl | rfl | rfl | rfl | rfl | rfl | rfl | rfl | rfl <;> rfl) (Nat.le_of_ble_eq_true rfl) (Nat.le_of_ble_eq_true rfl) dL_law_8 (fun qM H hE => ?_)
  have hE : EW (dC, dI) (aL s) s.heap (wE (kc, u) zE ++ [(qM, .inr (7, [.null, .null, .null, .int 0, .null, .int 0, .null, .int 0, .int 0, .int 0, .null, .int 0, .int 0, .null, .int 0, .int 0, .int 0, .null, .null, .null, .null, .null, .null, .null, .int 0, .int 0, .int 0, .int 0, .int 0, .int 0]))]) H locs := hE
  refine W.cs (cells' := 31) (slots' := 35101) rfl rfl ?_
  refine lv_dup hx hb dL_law_11 rfl ?_
  refine callN (g := (kc, fun _ => 0)) (n := 0) (host := "EvenTrees") (wr := wE (kc, u) zE) (wc := [(qM, .inr (7, [.null, .null, .null, .int 0, .null, .int 0, .null, .int 0, .int 0, .int 0, .null, .int 0, .int 0, .null, .int 0, .int 0, .int 0, .null, .null, .null, .null, .null, .null, .null, .int 0, .int 0, .int 0, .int 0, .int 0, .int 0]))]) (rest := [.ref qM]) (C0 (fun _ => 0)) hml hE [30] (List.range 30) rfl rfl rfl (by decide) (by decide +kernel) (by decide +kernel) (n_M l (dC, dI) (kc, fun _ => 0) qM) ⟨Or.inr (wt4 156 (by rfl) rfl), (wt4 157 (by rfl) rfl), (wt1 8 (by rfl) rfl), (wt4 158 (by rfl) rfl), rfl, by decide +kernel⟩ ⟨Nat.le_of_ble_eq_true rfl, Nat.le_of_ble_eq_true rfl⟩ rfl hl.1 rfl (Nat.le_of_ble_eq_true rfl) dL_law_12 ⟨Nat.le_of_ble_eq_true rfl, Nat.le_of_ble_eq_true rfl⟩ (fun w H locs hE hw => ?_)
  refine W.cs (cells' := 45) (slots' := 42327) rfl rfl ?_
  have hE : EW (dC, dI) (aL s) s.heap (wE (kc, u) zE ++ wM (kc, w) zM) H locs := hE
  refine lv_astore_n (lv' := [(2, .ref qM), (1, .ref qE), (0, .ref b)]) hx hb dL_law_15 rfl hl (by decide) rfl (fun ls hl => ?_)
  refine lv_iconst (v := I 1) hx hb dL_law_16 rfl ?_
  refine x_newa (g := (kc, fun _ => 0)) (atype := .long) (ty := .long) (t := 1) (N := 1) (n := 1) (a0 := (1, .inr (.inl (fun _ => 0)))) (C0 (fun _ => 0)) hE (wt1 79 (by rfl) rfl) rfl rfl (fun _ _ h => h) (fun _ => rfl) (by decide) (by decide +kernel) (Nat.le_of_ble_eq_true rfl) (Nat.le_of_ble_eq_true rfl) (Nat.le_of_ble_eq_true rfl) dL_law_17 (fun qO H hE => ?_)
  refine W.cs (cells' := 46) (slots' := 42328) rfl rfl ?_
  obtain ⟨g, hg, hg0, hg1, hg2⟩ : ∃ g : Ad, g = (kc, fun k => if k < 100 then u k else if k < 200 then w k else qO) ∧ g.2 0 = qE ∧ g.2 100 = qM ∧ g.2 200 = qO := ⟨_, rfl, hu, hw, rfl⟩
  have hE : EW (dC, dI) (aL s) s.heap (wL g zE zM 0) H locs := by
    have h1 : wL g zE zM 0 = wE (kc, u) zE ++ wM (kc, w) zM ++ [(qO, .inl (kc 1, (1, .inr (.inl (fun _ => 0)))))] := by
      rw [hg]
      show wE _ zE ++ (wM _ zM ++ wO _ 0) = _
      unfold wO
      rw [fO_0, List.append_assoc]
      rfl
    rw [h1]; exact hE
  refine lv_astore_n (lv' := [(3, .ref qO), (2, .ref qM), (1, .ref qE), (0, .ref b)]) hx hb dL_law_19 rfl hl (by decide) rfl (fun ls hl => ?_)
  refine lv_iconst (v := I 0) hx hb dL_law_20 rfl ?_
  refine lv_istore (lv' := [(4, .int (I 0)), (3, .ref qO), (2, .ref qM), (1, .ref qE), (0, .ref b)]) hx hb dL_law_21 hl (by decide) rfl (fun ls hl => ?_)
  have hl : lv_has ls 8 (lvL g b 0) := by
    unfold lvL
    rw [hg0, hg1, hg2]
    exact lv_sub hl [4, 3, 2, 1, 0] rfl
  have hLC : LC p s m meth c b L xs (dC, dI) g := ⟨by rw [hg]; exact C0 _, hml, hX, hbl, hlk, hr, hXR, hL⟩
  exact law_loop H0 H1 H2 H3 H4 H5 H6 H7 H8 H9 H10 H11 H12 H13 H14 H15 H16 H17 H18 H19 H20 H21 H22 H23 H24 H25 H26 H27 H28 H29 H30 H31 H32 H33 H34 H35 H36 H37 H38 H39 H40 H41 H42 H43 H44 H45 H46 H47 H48 H49 H50 HD hl0 hLC (L + 1) 0 zE zM 0 0 H locs 46 42328 ls (by omega) (by omega) (by omega) zE_R zM_R HI (by omega) (by omega) hE hl

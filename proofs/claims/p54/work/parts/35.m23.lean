-- MATH 23: appends, turned
theorem appends_loop (K : St → Option (Int × St)) (u : Int → Int) (n0 N : Int) (hN : 0 ≤ N ∧ 0 ≤ n0 ∧ n0 + N ≤ 255) (hu : ∀ z, 0 ≤ z → z < N → -999 ≤ u z ∧ u z ≤ 999) : ∀ (r m1 m2 : Nat) (ρ : Int → Int → Prop) (σ τ : St) (y x : Int), x + r = N → 0 ≤ x → r < m1 → r < m2 → Cx ρ σ τ (8 * (r : Int) + 1) → τ 30 0 + 8 * (r : Int) + 300 ≤ 2147483000 → RI ρ σ τ y (n0 + x) 7 →
    (∀ z, 0 ≤ z → z < N → σ 27 z = u z) → τ 3 8 = N → (∀ z, 0 ≤ z → z < N → τ 1 (256 * 8 + z) = u z) →
    ∃ y' σ' τ' ρ', Pool_putAll_other_L6 n0 N 1 m1 σ y x = some (y', σ') ∧ M_appends_L69 K m2 τ x = K τ' ∧ Sx ρ σ τ ρ' σ' τ' (8 * (r : Int)) ∧ RI ρ' σ' τ' y' (n0 + N) 7 ∧ Rws [6, 7] τ τ' := by
  intro r
  induction r with
  | zero =>
    intro m1 m2 ρ σ τ y x h1 h0 h2 h3 hC hm hI k1 k2 k3
    cases m1 with
    | zero => omega
    | succ m1 =>
    cases m2 with
    | zero => omega
    | succ m2 =>
    have e : x = N := by omega
    refine ⟨y, σ, τ, ρ, ?_, ?_, (Sx.rf hC.1 hC.2.1 (Fr.rf _ _) rfl).le (by omega), e ▸ hI, Rws.rf _ _⟩
    · unfold Pool_putAll_other_L6
      exact if_neg (by omega)
    · unfold M_appends_L69
      rw [rd_eq (by omega), k2, if_neg (by omega)]
  | succ r ih =>
    intro m1 m2 ρ σ τ y x h1 h0 h2 h3 hC hm hI k1 k2 k3
    cases m1 with
    | zero => omega
    | succ m1 =>
    cases m2 with
    | zero => omega
    | succ m2 =>
    have hn := hI.1
    obtain ⟨y1, σ1, τ1, ρ1, e1, e2, hX, hI1, r1⟩ := op_back (v := u x) (hC.le (e := 9) (by omega)) hI (by omega) (hu x h0 (by omega)) (by omega)
    have hcn := hX.cnt
    have en : n0 + x + 1 = n0 + (x + 1) := by omega
    rw [en] at hI1
    obtain ⟨y2, σ2, τ2, ρ2, g1, g2, hX2, hI2, r2⟩ := ih m1 m2 ρ1 σ1 τ1 y1 (x + 1) (by omega) (by omega) (by omega) (by omega) (hC.sx hX (by omega)) (by omega) hI1
      (fun z z0 zn => by rw [hX.2.2.2.2.2.1 27 (by decide)]; exact k1 z z0 zn) ((r1.2 8 (by decide)).trans k2) (fun z z0 zn => (r1.at (r := 8) (by decide) (by omega)).1.trans (k3 z z0 zn))
    have n1 : M_number τ 8 x = some (u x) := by rw [M_number_eq (by omega) (by omega), k3 x h0 (by omega)]
    have n2 := k1 x h0 (by omega)
    refine ⟨y2, σ2, τ2, ρ2, ?_, ?_, (hX.tr hX2).le (by omega), hI2, (r1.mono (by decide)).tr r2⟩
    · conv => lhs; unfold Pool_putAll_other_L6
      rw [if_pos (by omega), rd_eq (by omega), n2, oadd_eq (by omega), e1, bnd_eq, oadd_eq (by omega)]
      exact g1
    · conv => lhs; unfold M_appends_L69
      rw [rd_eq (by omega), k2, if_pos (by omega), n1, bndp_eq, e2, bnd_eq, oadd_eq (by omega)]
      exact g2
theorem call_appends : HS_17 SS := by
  intro k σ τ z0 z1 z2 hk hS i0 i1 i2
  have hS0 := hS
  obtain ⟨⟨ρ, hW⟩, hT, hr, hn, hm⟩ := hS
  have hmc := hm.c hk
  unfold E_appends M_appends
  by_cases a : 0 ≤ z0 ∧ z0 < 6
  · have s0 := (hW.2.2 z0 a.1 a.2).2.1
    have n0 := (hW.2.2 z0 a.1 a.2).1
    by_cases b : 0 ≤ z1 ∧ z1 < 6
    · have s1 := (hW.2.2 z1 b.1 b.2).2.1
      have n1 := (hW.2.2 z1 b.1 b.2).1
      by_cases c : 0 ≤ z2 ∧ z2 < 6
      · by_cases d : σ 25 z0 + σ 25 z1 ≤ 255
        · obtain ⟨σ1, ρ1, e1, hW1, hf, f1⟩ := begin_ex (hW.sc (f := 33) (v := 0) (by decide))
          have h24 : σ1 24 = σ 24 := f1 24 (by decide)
          have h25 : σ1 25 = σ 25 := f1 25 (by decide)
          have h32 : σ1 32 0 = σ 32 0 := by rw [f1 32 (by decide)]
          obtain ⟨σ2, e2, f2, c2⟩ := read_other_eq σ1 (σ1 24 z1) (σ1 25 z1) (by rw [h25]; omega)
          obtain ⟨τ1, d1, g1, r1, s6, s7, c6, c7⟩ := asks_ex (us τ 33 0 0) z0 a (by rw [us_ne (by decide)]; omega)
          have t13 : τ1 3 z1 = τ 3 z1 := by rw [r1.2 z1 (by simp; omega), us_ne (by decide)]
          obtain ⟨τ2, d2, g2, r2, s8, c8⟩ := takes_ex τ1 z1 8 (by omega) (by omega) (by omega)
          rw [t13] at s8 c8
          have t30 : τ2 30 0 = τ 30 0 := by rw [g2 30 (by decide), g1 30 (by decide), us_ne (by decide)]
          obtain ⟨τ3, hτ3⟩ : ∃ τ3, τ3 = us τ2 34 0 (τ2 30 0) := ⟨_, rfl⟩
          have d3 : M_begins τ2 = some (0, τ3) := by rw [hτ3]; rfl
          have g3 : Fr [34] τ2 τ3 := by rw [hτ3]; exact (Fr.rf _ _).us (by decide)
          have v30 : τ3 30 0 = σ 32 0 := by rw [g3 30 (by decide)]; omega
          have v34 : τ3 34 0 = σ 32 0 := by rw [hτ3, us_eq]; omega
          have ra : Rws [6, 7, 8] (us τ 33 0 0) τ3 := (r1.mono (by decide)).tr ((r2.mono (by decide)).tr (Rws.fr g3 (by decide) (by decide) (by decide) _))
          have hW3 : Wd ρ1 σ2 τ3 := hW1.mv f2 (by decide) ra (by decide) (by rw [v30, us_ne (by decide)]; omega)
          have hP := hW1.2.2 z0 a.1 a.2
          have hP1 := hW1.2.2 z1 b.1 b.2
          rw [us_ne (by decide)] at s7 c7
          have x0 : τ3 3 7 = τ1 3 7 := by rw [g3 3 (by decide), r2.2 7 (by decide)]
          have hI0 : RI ρ1 σ2 τ3 (σ2 24 z0) (σ2 25 z0) 7 := by
            rw [f2 24 (by decide), f2 25 (by decide)]
            refine (hP.es (f2 7 (by decide)) (f2 8 (by decide)) (f2 9 (by decide)) (f2 10 (by decide)) (f2 30 (by decide))).cp ?_ (fun x x9 xn => ?_)
            · rw [x0, s7, h25]; exact s0
            · rw [h25] at xn
              have t1 := c7 x x9 (by omega)
              have t2 := r2.at (r := 7) (x := x) (by decide) (by omega)
              rw [g3 1 (by decide), g3 2 (by decide)]
              exact ⟨t2.1.trans t1.1, t2.2.trans t1.2⟩
          have hC : Cx ρ1 σ2 τ3 4096 := ⟨hW3.1, hW3.2.1, by rw [f2 31 (by decide)]; exact hf, by rw [f2 32 (by decide)]; omega, by omega⟩
          have k25 : σ2 25 = σ 25 := (f2 25 (by decide)).trans h25
          have k24 : σ2 24 = σ 24 := (f2 24 (by decide)).trans h24
          have ez : σ2 25 z0 + 0 = σ2 25 z0 := by omega
          rw [← ez] at hI0
          have hu : ∀ z, 0 ≤ z → z < σ 25 z1 → -999 ≤ τ 1 (256 * z1 + z) ∧ τ 1 (256 * z1 + z) ≤ 999 := fun z q1 q2 => by
            have := (hP1.num (x := z) (by rw [h25]; omega)).2
            rw [us_ne (by decide)] at this
            exact this
          have k250 : σ2 25 z0 = σ 25 z0 := by rw [k25]
          have k251 : σ2 25 z1 = σ 25 z1 := by rw [k25]
          obtain ⟨y, σ3, τ4, ρ3, e4, e5, hX, hI, r3⟩ := appends_loop (fun (s14 : St) => bnd (M_ends s14 z2) fun v16 s17 => some (v16, s17)) (fun z => τ 1 (256 * z1 + z)) (σ2 25 z0) (σ2 25 z1) (by omega) (by rw [k251]; exact hu) (σ2 25 z1).toNat FU FU ρ1 σ2 τ3 (σ2 24 z0) 0 (by omega) (by omega) (by unfold FU; omega) (by unfold FU; omega) (hC.le (by omega)) (by omega) hI0
            (fun z q1 q2 => by
              rw [c2 z q1 (by rw [h25, ← k251]; omega), (hP1.num (x := z) (by rw [h25, ← k251]; omega)).1, us_ne (by decide)])
            (by rw [g3 3 (by decide), s8, k251]; exact s1)
            (fun z q1 q2 => by
              rw [g3 1 (by decide), (c8 z q1 (by omega)).1, (r1.at (r := z1) (x := z) (by simp; omega) (by omega)).1, us_ne (by decide)])
          obtain ⟨σ4, τ5, e7, e8, hW4, f4, g4, k1, k2, k3⟩ := close_ex (c := σ 32 0) hW3 hX (by omega) r3 (by decide) hI c ⟨by rw [f2 32 (by decide)]; exact h32, v30, v34⟩ hmc.2
          have e4 : Pool_putAll_other σ2 (σ2 24 z0) (σ2 25 z0) (σ2 25 z1) 1 = some (y, σ3) := e4
          rw [k250, k251] at e7
          refine ⟨σ4 32 0 - σ 32 0, σ4, τ5, ?_, ?_, hS0.fin hW4 ((f1.mono (by decide)).tr ((f2.mono (by decide)).tr ((hX.2.2.2.2.2.1.mono (by decide)).tr (f4.mono (by decide))))) (((fr_sc [33] τ 33 0 (by decide)).mono (by decide)).tr ((g1.mono (by decide)).tr ((g2.mono (by decide)).tr ((g3.mono (by decide)).tr ((hX.2.2.2.2.2.2.1.mono (by decide)).tr (g4.mono (by decide))))))) k1 ⟨k2, k3⟩⟩
          · simp (disch := omega) only [↓jn_e, ↓ite_y, ↓ite_n, ↓oadd_eq, ↓osub_eq, ↓omul_eq, ↓odiv_eq, ↓orem_eq, ↓rd_eq, ↓wr_eq, ↓gf_e, ↓pf_e, ↓bnd_e, ↓bndp_e, ↓opure_e, ↓oif_t, ↓oif_f, ↓E_isPlace_y, ↓E_isPlace_n, ↓E_isNumber_y, ↓E_isNumber_n, ↓M_isPlace_y, ↓M_isPlace_n, ↓M_isNumber_y, ↓M_isNumber_n, ↓M_in_y, ↓M_in_n, ↓us_ne, ↓e1, ↓e2, ↓e4, ↓e7]
          · simp (disch := omega) only [↓jn_e, ↓ite_y, ↓ite_n, ↓oadd_eq, ↓osub_eq, ↓omul_eq, ↓odiv_eq, ↓orem_eq, ↓rd_eq, ↓wr_eq, ↓gf_e, ↓pf_e, ↓bnd_e, ↓bndp_e, ↓opure_e, ↓oif_t, ↓oif_f, ↓E_isPlace_y, ↓E_isPlace_n, ↓E_isNumber_y, ↓E_isNumber_n, ↓M_isPlace_y, ↓M_isPlace_n, ↓M_isNumber_y, ↓M_isNumber_n, ↓M_in_y, ↓M_in_n, ↓us_ne, ↓d1, ↓d2, ↓d3]
            refine e5.trans ?_
            simp (disch := omega) only [↓jn_e, ↓ite_y, ↓ite_n, ↓oadd_eq, ↓osub_eq, ↓omul_eq, ↓odiv_eq, ↓orem_eq, ↓rd_eq, ↓wr_eq, ↓gf_e, ↓pf_e, ↓bnd_e, ↓bndp_e, ↓opure_e, ↓oif_t, ↓oif_f, ↓E_isPlace_y, ↓E_isPlace_n, ↓E_isNumber_y, ↓E_isNumber_n, ↓M_isPlace_y, ↓M_isPlace_n, ↓M_isNumber_y, ↓M_isNumber_n, ↓M_in_y, ↓M_in_n, ↓us_ne, ↓e8]
        · refine ⟨-2, σ, us τ 33 0 0, ?_, ?_, hS0.thr⟩
          · simp (disch := omega) only [↓jn_e, ↓ite_y, ↓ite_n, ↓oadd_eq, ↓osub_eq, ↓omul_eq, ↓odiv_eq, ↓orem_eq, ↓rd_eq, ↓wr_eq, ↓gf_e, ↓pf_e, ↓bnd_e, ↓bndp_e, ↓opure_e, ↓oif_t, ↓oif_f, ↓E_isPlace_y, ↓E_isPlace_n, ↓E_isNumber_y, ↓E_isNumber_n, ↓M_isPlace_y, ↓M_isPlace_n, ↓M_isNumber_y, ↓M_isNumber_n, ↓M_in_y, ↓M_in_n, ↓us_ne]
          · simp (disch := omega) only [↓jn_e, ↓ite_y, ↓ite_n, ↓oadd_eq, ↓osub_eq, ↓omul_eq, ↓odiv_eq, ↓orem_eq, ↓rd_eq, ↓wr_eq, ↓gf_e, ↓pf_e, ↓bnd_e, ↓bndp_e, ↓opure_e, ↓oif_t, ↓oif_f, ↓E_isPlace_y, ↓E_isPlace_n, ↓E_isNumber_y, ↓E_isNumber_n, ↓M_isPlace_y, ↓M_isPlace_n, ↓M_isNumber_y, ↓M_isNumber_n, ↓M_in_y, ↓M_in_n, ↓us_ne]
      · refine ⟨-1, σ, us τ 33 0 0, ?_, ?_, hS0.thr⟩
        · simp (disch := omega) only [↓jn_e, ↓ite_y, ↓ite_n, ↓oadd_eq, ↓osub_eq, ↓omul_eq, ↓odiv_eq, ↓orem_eq, ↓rd_eq, ↓wr_eq, ↓gf_e, ↓pf_e, ↓bnd_e, ↓bndp_e, ↓opure_e, ↓oif_t, ↓oif_f, ↓E_isPlace_y, ↓E_isPlace_n, ↓E_isNumber_y, ↓E_isNumber_n, ↓M_isPlace_y, ↓M_isPlace_n, ↓M_isNumber_y, ↓M_isNumber_n, ↓M_in_y, ↓M_in_n, ↓us_ne]
        · simp (disch := omega) only [↓jn_e, ↓ite_y, ↓ite_n, ↓oadd_eq, ↓osub_eq, ↓omul_eq, ↓odiv_eq, ↓orem_eq, ↓rd_eq, ↓wr_eq, ↓gf_e, ↓pf_e, ↓bnd_e, ↓bndp_e, ↓opure_e, ↓oif_t, ↓oif_f, ↓E_isPlace_y, ↓E_isPlace_n, ↓E_isNumber_y, ↓E_isNumber_n, ↓M_isPlace_y, ↓M_isPlace_n, ↓M_isNumber_y, ↓M_isNumber_n, ↓M_in_y, ↓M_in_n, ↓us_ne]
    · refine ⟨-1, σ, us τ 33 0 0, ?_, ?_, hS0.thr⟩
      · simp (disch := omega) only [↓jn_e, ↓ite_y, ↓ite_n, ↓oadd_eq, ↓osub_eq, ↓omul_eq, ↓odiv_eq, ↓orem_eq, ↓rd_eq, ↓wr_eq, ↓gf_e, ↓pf_e, ↓bnd_e, ↓bndp_e, ↓opure_e, ↓oif_t, ↓oif_f, ↓E_isPlace_y, ↓E_isPlace_n, ↓E_isNumber_y, ↓E_isNumber_n, ↓M_isPlace_y, ↓M_isPlace_n, ↓M_isNumber_y, ↓M_isNumber_n, ↓M_in_y, ↓M_in_n, ↓us_ne]
      · simp (disch := omega) only [↓jn_e, ↓ite_y, ↓ite_n, ↓oadd_eq, ↓osub_eq, ↓omul_eq, ↓odiv_eq, ↓orem_eq, ↓rd_eq, ↓wr_eq, ↓gf_e, ↓pf_e, ↓bnd_e, ↓bndp_e, ↓opure_e, ↓oif_t, ↓oif_f, ↓E_isPlace_y, ↓E_isPlace_n, ↓E_isNumber_y, ↓E_isNumber_n, ↓M_isPlace_y, ↓M_isPlace_n, ↓M_isNumber_y, ↓M_isNumber_n, ↓M_in_y, ↓M_in_n, ↓us_ne]
  · refine ⟨-1, σ, us τ 33 0 0, ?_, ?_, hS0.thr⟩
    · simp (disch := omega) only [↓jn_e, ↓ite_y, ↓ite_n, ↓oadd_eq, ↓osub_eq, ↓omul_eq, ↓odiv_eq, ↓orem_eq, ↓rd_eq, ↓wr_eq, ↓gf_e, ↓pf_e, ↓bnd_e, ↓bndp_e, ↓opure_e, ↓oif_t, ↓oif_f, ↓E_isPlace_y, ↓E_isPlace_n, ↓E_isNumber_y, ↓E_isNumber_n, ↓M_isPlace_y, ↓M_isPlace_n, ↓M_isNumber_y, ↓M_isNumber_n, ↓M_in_y, ↓M_in_n, ↓us_ne]
    · simp (disch := omega) only [↓jn_e, ↓ite_y, ↓ite_n, ↓oadd_eq, ↓osub_eq, ↓omul_eq, ↓odiv_eq, ↓orem_eq, ↓rd_eq, ↓wr_eq, ↓gf_e, ↓pf_e, ↓bnd_e, ↓bndp_e, ↓opure_e, ↓oif_t, ↓oif_f, ↓E_isPlace_y, ↓E_isPlace_n, ↓E_isNumber_y, ↓E_isNumber_n, ↓M_isPlace_y, ↓M_isPlace_n, ↓M_isNumber_y, ↓M_isNumber_n, ↓M_in_y, ↓M_in_n, ↓us_ne]
theorem turned_loop (K1 : St → Int → Option (Int × St)) (K2 : St → Option (Int × St)) (N n : Int) (hN : 0 ≤ N ∧ N ≤ 255) (hn : 1 ≤ n ∧ n ≤ 255) : ∀ (r m1 m2 : Nat) (ρ : Int → Int → Prop) (σ τ : St) (y x : Int), x + r = N → 0 ≤ x → r < m1 → r < m2 → Cx ρ σ τ (16 * (r : Int) + 1) → τ 30 0 + 16 * (r : Int) + 300 ≤ 2147483000 → RI ρ σ τ y n 7 →
    ∃ y' σ' τ' ρ', E_turned_L60 K1 N n m1 σ y x = K1 σ' y' ∧ M_turned_L57 K2 N m2 τ x = K2 τ' ∧ Sx ρ σ τ ρ' σ' τ' (16 * (r : Int)) ∧ RI ρ' σ' τ' y' n 7 ∧ Rws [6, 7] τ τ' := by
  intro r
  induction r with
  | zero =>
    intro m1 m2 ρ σ τ y x h1 h0 h2 h3 hC hm hI
    cases m1 with
    | zero => omega
    | succ m1 =>
    cases m2 with
    | zero => omega
    | succ m2 =>
    refine ⟨y, σ, τ, ρ, ?_, ?_, (Sx.rf hC.1 hC.2.1 (Fr.rf _ _) rfl).le (by omega), hI, Rws.rf _ _⟩
    · unfold E_turned_L60
      exact if_neg (by omega)
    · unfold M_turned_L57
      exact if_neg (by omega)
  | succ r ih =>
    intro m1 m2 ρ σ τ y x h1 h0 h2 h3 hC hm hI
    cases m1 with
    | zero => omega
    | succ m1 =>
    cases m2 with
    | zero => omega
    | succ m2 =>
    have hv := hI.num (x := 0) (by omega)
    rw [sl_0 _ _ (Int.le_refl 0)] at hv
    obtain ⟨y1, σ1, τ1, ρ1, e1, e2, hX, hI1, r1⟩ := op_first (hC.le (e := 8) (by omega)) hI (by omega)
    have hcn := hX.cnt
    have hC1 : Cx ρ1 σ1 τ1 (16 * (r : Int) + 9) := hC.sx hX (by omega)
    obtain ⟨y2, σ2, τ2, ρ2, e3, e4, hX2, hI2, r2⟩ := op_back (v := nu σ y) (hC1.le (by omega)) hI1 (by omega) (by rw [hv.1]; exact hv.2) (by omega)
    have hcn2 := hX2.cnt
    have en : n - 1 + 1 = n := by omega
    rw [en] at hI2
    obtain ⟨y3, σ3, τ3, ρ3, g1, g2, hX3, hI3, r3⟩ := ih m1 m2 ρ2 σ2 τ2 y2 (x + 1) (by omega) (by omega) (by omega) (by omega) (hC1.sx hX2 (by omega)) (by omega) hI2
    have n1 : M_number τ 7 0 = some (nu σ y) := by rw [M_number_eq (by omega) (by omega), hv.1]
    refine ⟨y3, σ3, τ3, ρ3, ?_, ?_, ((hX.tr hX2).tr hX3).le (by omega), hI3, r1.tr ((r2.mono (by decide)).tr r3)⟩
    · conv => lhs; unfold E_turned_L60
      simp (disch := omega) only [↓jn_e, ↓ite_y, ↓ite_n, ↓oadd_eq, ↓osub_eq, ↓omul_eq, ↓odiv_eq, ↓orem_eq, ↓rd_eq, ↓wr_eq, ↓gf_e, ↓pf_e, ↓bnd_e, ↓bndp_e, ↓opure_e, ↓oif_t, ↓oif_f, ↓E_isPlace_y, ↓E_isPlace_n, ↓E_isNumber_y, ↓E_isNumber_n, ↓M_isPlace_y, ↓M_isPlace_n, ↓M_isNumber_y, ↓M_isNumber_n, ↓M_in_y, ↓M_in_n, ↓us_ne, ↓Pool_numberOf_eq, ↓e1, ↓e3]
      exact g1
    · conv => lhs; unfold M_turned_L57
      simp (disch := omega) only [↓jn_e, ↓ite_y, ↓ite_n, ↓oadd_eq, ↓osub_eq, ↓omul_eq, ↓odiv_eq, ↓orem_eq, ↓rd_eq, ↓wr_eq, ↓gf_e, ↓pf_e, ↓bnd_e, ↓bndp_e, ↓opure_e, ↓oif_t, ↓oif_f, ↓E_isPlace_y, ↓E_isPlace_n, ↓E_isNumber_y, ↓E_isNumber_n, ↓M_isPlace_y, ↓M_isPlace_n, ↓M_isNumber_y, ↓M_isNumber_n, ↓M_in_y, ↓M_in_n, ↓us_ne, ↓n1, ↓e2, ↓e4]
      exact g2
theorem call_turned : HS_18 SS := by
  intro k σ τ z0 z1 z2 hk hS i0 i1 i2
  have hS0 := hS
  obtain ⟨⟨ρ, hW⟩, hT, hr, hn, hm⟩ := hS
  have hmc := hm.c hk
  unfold E_turned M_turned
  by_cases a : 0 ≤ z0 ∧ z0 < 6
  · have s0 := (hW.2.2 z0 a.1 a.2).2.1
    have n0 := (hW.2.2 z0 a.1 a.2).1
    by_cases c : 0 ≤ z2 ∧ z2 < 6
    · by_cases b : 0 ≤ z1 ∧ z1 ≤ 255
      · by_cases d : σ 25 z0 = 0
        · refine ⟨-2, σ, us τ 33 0 0, ?_, ?_, hS0.thr⟩
          · simp (disch := omega) only [↓jn_e, ↓ite_y, ↓ite_n, ↓oadd_eq, ↓osub_eq, ↓omul_eq, ↓odiv_eq, ↓orem_eq, ↓rd_eq, ↓wr_eq, ↓gf_e, ↓pf_e, ↓bnd_e, ↓bndp_e, ↓opure_e, ↓oif_t, ↓oif_f, ↓E_isPlace_y, ↓E_isPlace_n, ↓E_isNumber_y, ↓E_isNumber_n, ↓M_isPlace_y, ↓M_isPlace_n, ↓M_isNumber_y, ↓M_isNumber_n, ↓M_in_y, ↓M_in_n, ↓us_ne]
          · simp (disch := omega) only [↓jn_e, ↓ite_y, ↓ite_n, ↓oadd_eq, ↓osub_eq, ↓omul_eq, ↓odiv_eq, ↓orem_eq, ↓rd_eq, ↓wr_eq, ↓gf_e, ↓pf_e, ↓bnd_e, ↓bndp_e, ↓opure_e, ↓oif_t, ↓oif_f, ↓E_isPlace_y, ↓E_isPlace_n, ↓E_isNumber_y, ↓E_isNumber_n, ↓M_isPlace_y, ↓M_isPlace_n, ↓M_isNumber_y, ↓M_isNumber_n, ↓M_in_y, ↓M_in_n, ↓us_ne]
        · obtain ⟨σ1, ρ1, τ1, τ2, e1, e2, e3, hW1, hC, h6, h7, f1, g1, r1, m1, m2⟩ := open_ex (hW.sc (f := 33) (v := 0) (by decide)) (by rw [us_ne (by decide)]; exact hmc) a
          have q2 : σ1 25 z0 = σ 25 z0 := by rw [f1 25 (by decide)]
          rw [q2] at h7
          obtain ⟨y, σ3, τ3, ρ3, e4, e5, hX, hI, r3⟩ := turned_loop (fun (s7 : St) (x8 : Int) => bnd (E_keep s7 z2 x8 (σ 25 z0)) fun v10 s11 => gf s11 32 fun v12 => osub v12 (σ 32 0) fun v13 => some (v13, s11)) (fun (s10 : St) => bnd (M_ends s10 z2) fun v12 s13 => some (v12, s13)) z1 (σ 25 z0) b (by omega) z1.toNat FU FU ρ1 σ1 τ2 (σ1 24 z0) 0 (by omega) (by omega) (by unfold FU; omega) (by unfold FU; omega) (hC.le (by omega)) (by omega) h7
          obtain ⟨σ4, τ4, e7, e8, hW4, f4, g4, k1, k2, k3⟩ := close_ex hW1 hX (by omega) r3 (by decide) hI c ⟨by rw [f1 32 (by decide)], m1, m2⟩ hmc.2
          refine ⟨σ4 32 0 - σ 32 0, σ4, τ4, ?_, ?_, hS0.fin hW4 ((f1.mono (by decide)).tr ((hX.2.2.2.2.2.1.mono (by decide)).tr (f4.mono (by decide)))) (((fr_sc [33] τ 33 0 (by decide)).mono (by decide)).tr ((g1.mono (by decide)).tr ((hX.2.2.2.2.2.2.1.mono (by decide)).tr (g4.mono (by decide))))) k1 ⟨k2, k3⟩⟩
          · simp (disch := omega) only [↓jn_e, ↓ite_y, ↓ite_n, ↓oadd_eq, ↓osub_eq, ↓omul_eq, ↓odiv_eq, ↓orem_eq, ↓rd_eq, ↓wr_eq, ↓gf_e, ↓pf_e, ↓bnd_e, ↓bndp_e, ↓opure_e, ↓oif_t, ↓oif_f, ↓E_isPlace_y, ↓E_isPlace_n, ↓E_isNumber_y, ↓E_isNumber_n, ↓M_isPlace_y, ↓M_isPlace_n, ↓M_isNumber_y, ↓M_isNumber_n, ↓M_in_y, ↓M_in_n, ↓us_ne, ↓e1]
            refine e4.trans ?_
            simp (disch := omega) only [↓jn_e, ↓ite_y, ↓ite_n, ↓oadd_eq, ↓osub_eq, ↓omul_eq, ↓odiv_eq, ↓orem_eq, ↓rd_eq, ↓wr_eq, ↓gf_e, ↓pf_e, ↓bnd_e, ↓bndp_e, ↓opure_e, ↓oif_t, ↓oif_f, ↓E_isPlace_y, ↓E_isPlace_n, ↓E_isNumber_y, ↓E_isNumber_n, ↓M_isPlace_y, ↓M_isPlace_n, ↓M_isNumber_y, ↓M_isNumber_n, ↓M_in_y, ↓M_in_n, ↓us_ne, ↓e7]
          · simp (disch := omega) only [↓jn_e, ↓ite_y, ↓ite_n, ↓oadd_eq, ↓osub_eq, ↓omul_eq, ↓odiv_eq, ↓orem_eq, ↓rd_eq, ↓wr_eq, ↓gf_e, ↓pf_e, ↓bnd_e, ↓bndp_e, ↓opure_e, ↓oif_t, ↓oif_f, ↓E_isPlace_y, ↓E_isPlace_n, ↓E_isNumber_y, ↓E_isNumber_n, ↓M_isPlace_y, ↓M_isPlace_n, ↓M_isNumber_y, ↓M_isNumber_n, ↓M_in_y, ↓M_in_n, ↓us_ne, ↓e2, ↓e3]
            refine e5.trans ?_
            simp (disch := omega) only [↓jn_e, ↓ite_y, ↓ite_n, ↓oadd_eq, ↓osub_eq, ↓omul_eq, ↓odiv_eq, ↓orem_eq, ↓rd_eq, ↓wr_eq, ↓gf_e, ↓pf_e, ↓bnd_e, ↓bndp_e, ↓opure_e, ↓oif_t, ↓oif_f, ↓E_isPlace_y, ↓E_isPlace_n, ↓E_isNumber_y, ↓E_isNumber_n, ↓M_isPlace_y, ↓M_isPlace_n, ↓M_isNumber_y, ↓M_isNumber_n, ↓M_in_y, ↓M_in_n, ↓us_ne, ↓e8]
      · refine ⟨-1, σ, us τ 33 0 0, ?_, ?_, hS0.thr⟩
        · by_cases q : z1 < 0
          · simp (disch := omega) only [↓jn_e, ↓ite_y, ↓ite_n, ↓oadd_eq, ↓osub_eq, ↓omul_eq, ↓odiv_eq, ↓orem_eq, ↓rd_eq, ↓wr_eq, ↓gf_e, ↓pf_e, ↓bnd_e, ↓bndp_e, ↓opure_e, ↓oif_t, ↓oif_f, ↓E_isPlace_y, ↓E_isPlace_n, ↓E_isNumber_y, ↓E_isNumber_n, ↓M_isPlace_y, ↓M_isPlace_n, ↓M_isNumber_y, ↓M_isNumber_n, ↓M_in_y, ↓M_in_n, ↓us_ne]
          · simp (disch := omega) only [↓jn_e, ↓ite_y, ↓ite_n, ↓oadd_eq, ↓osub_eq, ↓omul_eq, ↓odiv_eq, ↓orem_eq, ↓rd_eq, ↓wr_eq, ↓gf_e, ↓pf_e, ↓bnd_e, ↓bndp_e, ↓opure_e, ↓oif_t, ↓oif_f, ↓E_isPlace_y, ↓E_isPlace_n, ↓E_isNumber_y, ↓E_isNumber_n, ↓M_isPlace_y, ↓M_isPlace_n, ↓M_isNumber_y, ↓M_isNumber_n, ↓M_in_y, ↓M_in_n, ↓us_ne]
        · simp (disch := omega) only [↓jn_e, ↓ite_y, ↓ite_n, ↓oadd_eq, ↓osub_eq, ↓omul_eq, ↓odiv_eq, ↓orem_eq, ↓rd_eq, ↓wr_eq, ↓gf_e, ↓pf_e, ↓bnd_e, ↓bndp_e, ↓opure_e, ↓oif_t, ↓oif_f, ↓E_isPlace_y, ↓E_isPlace_n, ↓E_isNumber_y, ↓E_isNumber_n, ↓M_isPlace_y, ↓M_isPlace_n, ↓M_isNumber_y, ↓M_isNumber_n, ↓M_in_y, ↓M_in_n, ↓us_ne]
    · refine ⟨-1, σ, us τ 33 0 0, ?_, ?_, hS0.thr⟩
      · simp (disch := omega) only [↓jn_e, ↓ite_y, ↓ite_n, ↓oadd_eq, ↓osub_eq, ↓omul_eq, ↓odiv_eq, ↓orem_eq, ↓rd_eq, ↓wr_eq, ↓gf_e, ↓pf_e, ↓bnd_e, ↓bndp_e, ↓opure_e, ↓oif_t, ↓oif_f, ↓E_isPlace_y, ↓E_isPlace_n, ↓E_isNumber_y, ↓E_isNumber_n, ↓M_isPlace_y, ↓M_isPlace_n, ↓M_isNumber_y, ↓M_isNumber_n, ↓M_in_y, ↓M_in_n, ↓us_ne]
      · by_cases b : 0 ≤ z1 ∧ z1 ≤ 255
        · simp (disch := omega) only [↓jn_e, ↓ite_y, ↓ite_n, ↓oadd_eq, ↓osub_eq, ↓omul_eq, ↓odiv_eq, ↓orem_eq, ↓rd_eq, ↓wr_eq, ↓gf_e, ↓pf_e, ↓bnd_e, ↓bndp_e, ↓opure_e, ↓oif_t, ↓oif_f, ↓E_isPlace_y, ↓E_isPlace_n, ↓E_isNumber_y, ↓E_isNumber_n, ↓M_isPlace_y, ↓M_isPlace_n, ↓M_isNumber_y, ↓M_isNumber_n, ↓M_in_y, ↓M_in_n, ↓us_ne]
        · simp (disch := omega) only [↓jn_e, ↓ite_y, ↓ite_n, ↓oadd_eq, ↓osub_eq, ↓omul_eq, ↓odiv_eq, ↓orem_eq, ↓rd_eq, ↓wr_eq, ↓gf_e, ↓pf_e, ↓bnd_e, ↓bndp_e, ↓opure_e, ↓oif_t, ↓oif_f, ↓E_isPlace_y, ↓E_isPlace_n, ↓E_isNumber_y, ↓E_isNumber_n, ↓M_isPlace_y, ↓M_isPlace_n, ↓M_isNumber_y, ↓M_isNumber_n, ↓M_in_y, ↓M_in_n, ↓us_ne]
  · refine ⟨-1, σ, us τ 33 0 0, ?_, ?_, hS0.thr⟩
    · simp (disch := omega) only [↓jn_e, ↓ite_y, ↓ite_n, ↓oadd_eq, ↓osub_eq, ↓omul_eq, ↓odiv_eq, ↓orem_eq, ↓rd_eq, ↓wr_eq, ↓gf_e, ↓pf_e, ↓bnd_e, ↓bndp_e, ↓opure_e, ↓oif_t, ↓oif_f, ↓E_isPlace_y, ↓E_isPlace_n, ↓E_isNumber_y, ↓E_isNumber_n, ↓M_isPlace_y, ↓M_isPlace_n, ↓M_isNumber_y, ↓M_isNumber_n, ↓M_in_y, ↓M_in_n, ↓us_ne]
    · simp (disch := omega) only [↓jn_e, ↓ite_y, ↓ite_n, ↓oadd_eq, ↓osub_eq, ↓omul_eq, ↓odiv_eq, ↓orem_eq, ↓rd_eq, ↓wr_eq, ↓gf_e, ↓pf_e, ↓bnd_e, ↓bndp_e, ↓opure_e, ↓oif_t, ↓oif_f, ↓E_isPlace_y, ↓E_isPlace_n, ↓E_isNumber_y, ↓E_isNumber_n, ↓M_isPlace_y, ↓M_isPlace_n, ↓M_isNumber_y, ↓M_isNumber_n, ↓M_in_y, ↓M_in_n, ↓us_ne]

-- MATH 22: calls: back, last, keeps, parts, appends, turned
theorem call_back : HS_13 SS := by
  intro k σ τ z0 z1 z2 hk hS i0 i1 i2
  have hS0 := hS
  obtain ⟨⟨ρ, hW⟩, hT, hr, hn, hm⟩ := hS
  have hmc := hm.c hk
  unfold E_back E_putOne M_back
  by_cases a : 0 ≤ z0 ∧ z0 < 6
  · have s0 := (hW.2.2 z0 a.1 a.2).2.1
    have n0 := (hW.2.2 z0 a.1 a.2).1
    by_cases b : -999 ≤ z1 ∧ z1 ≤ 999
    · by_cases c : 0 ≤ z2 ∧ z2 < 6
      · by_cases d : σ 25 z0 = 255
        · refine ⟨-2, σ, us τ 33 0 0, ?_, ?_, hS0.thr⟩
          · simp (disch := omega) only [↓jn_e, ↓ite_y, ↓ite_n, ↓oadd_eq, ↓osub_eq, ↓omul_eq, ↓odiv_eq, ↓orem_eq, ↓rd_eq, ↓wr_eq, ↓gf_e, ↓pf_e, ↓bnd_e, ↓bndp_e, ↓opure_e, ↓oif_t, ↓oif_f, ↓E_isPlace_y, ↓E_isPlace_n, ↓E_isNumber_y, ↓E_isNumber_n, ↓M_isPlace_y, ↓M_isPlace_n, ↓M_isNumber_y, ↓M_isNumber_n, ↓M_in_y, ↓M_in_n, ↓us_ne]
          · simp (disch := omega) only [↓jn_e, ↓ite_y, ↓ite_n, ↓oadd_eq, ↓osub_eq, ↓omul_eq, ↓odiv_eq, ↓orem_eq, ↓rd_eq, ↓wr_eq, ↓gf_e, ↓pf_e, ↓bnd_e, ↓bndp_e, ↓opure_e, ↓oif_t, ↓oif_f, ↓E_isPlace_y, ↓E_isPlace_n, ↓E_isNumber_y, ↓E_isNumber_n, ↓M_isPlace_y, ↓M_isPlace_n, ↓M_isNumber_y, ↓M_isNumber_n, ↓M_in_y, ↓M_in_n, ↓us_ne]
        · obtain ⟨σ1, ρ1, τ1, τ2, e1, e2, e3, hW1, hC, h6, h7, f1, g1, r1, m1, m2⟩ := open_ex (hW.sc (f := 33) (v := 0) (by decide)) (by rw [us_ne (by decide)]; exact hmc) a
          have q1 : τ2 3 z0 = σ1 25 z0 := (hW1.2.2 z0 a.1 a.2).2.1
          have q2 : σ1 25 z0 = σ 25 z0 := by rw [f1 25 (by decide)]
          obtain ⟨y, σ3, τ3, ρ3, e4, e5, hX, hI, r3⟩ := op_back (v := z1) (hC.le (e := 9) (by omega)) h7 (by omega) b (by omega)
          obtain ⟨σ4, τ4, e7, e8, hW4, f4, g4, k1, k2, k3⟩ := close_ex hW1 hX (by omega) r3 (by decide) hI c ⟨by rw [f1 32 (by decide)], m1, m2⟩ hmc.2
          have q3 : σ3 25 z0 = σ1 25 z0 := by rw [hX.2.2.2.2.2.1 25 (by decide)]
          rw [← q3] at e7
          refine ⟨σ4 32 0 - σ 32 0, σ4, τ4, ?_, ?_, hS0.fin hW4 ((f1.mono (by decide)).tr ((hX.2.2.2.2.2.1.mono (by decide)).tr (f4.mono (by decide)))) (((fr_sc [33] τ 33 0 (by decide)).mono (by decide)).tr ((g1.mono (by decide)).tr ((hX.2.2.2.2.2.2.1.mono (by decide)).tr (g4.mono (by decide))))) k1 ⟨k2, k3⟩⟩
          · simp (disch := omega) only [↓jn_e, ↓ite_y, ↓ite_n, ↓oadd_eq, ↓osub_eq, ↓omul_eq, ↓odiv_eq, ↓orem_eq, ↓rd_eq, ↓wr_eq, ↓gf_e, ↓pf_e, ↓bnd_e, ↓bndp_e, ↓opure_e, ↓oif_t, ↓oif_f, ↓E_isPlace_y, ↓E_isPlace_n, ↓E_isNumber_y, ↓E_isNumber_n, ↓M_isPlace_y, ↓M_isPlace_n, ↓M_isNumber_y, ↓M_isNumber_n, ↓M_in_y, ↓M_in_n, ↓us_ne, ↓e1, ↓e4, ↓e7]
          · simp (disch := omega) only [↓jn_e, ↓ite_y, ↓ite_n, ↓oadd_eq, ↓osub_eq, ↓omul_eq, ↓odiv_eq, ↓orem_eq, ↓rd_eq, ↓wr_eq, ↓gf_e, ↓pf_e, ↓bnd_e, ↓bndp_e, ↓opure_e, ↓oif_t, ↓oif_f, ↓E_isPlace_y, ↓E_isPlace_n, ↓E_isNumber_y, ↓E_isNumber_n, ↓M_isPlace_y, ↓M_isPlace_n, ↓M_isNumber_y, ↓M_isNumber_n, ↓M_in_y, ↓M_in_n, ↓us_ne, ↓e2, ↓e3, ↓e5, ↓e8]
      · refine ⟨-1, σ, us τ 33 0 0, ?_, ?_, hS0.thr⟩
        · simp (disch := omega) only [↓jn_e, ↓ite_y, ↓ite_n, ↓oadd_eq, ↓osub_eq, ↓omul_eq, ↓odiv_eq, ↓orem_eq, ↓rd_eq, ↓wr_eq, ↓gf_e, ↓pf_e, ↓bnd_e, ↓bndp_e, ↓opure_e, ↓oif_t, ↓oif_f, ↓E_isPlace_y, ↓E_isPlace_n, ↓E_isNumber_y, ↓E_isNumber_n, ↓M_isPlace_y, ↓M_isPlace_n, ↓M_isNumber_y, ↓M_isNumber_n, ↓M_in_y, ↓M_in_n, ↓us_ne]
        · simp (disch := omega) only [↓jn_e, ↓ite_y, ↓ite_n, ↓oadd_eq, ↓osub_eq, ↓omul_eq, ↓odiv_eq, ↓orem_eq, ↓rd_eq, ↓wr_eq, ↓gf_e, ↓pf_e, ↓bnd_e, ↓bndp_e, ↓opure_e, ↓oif_t, ↓oif_f, ↓E_isPlace_y, ↓E_isPlace_n, ↓E_isNumber_y, ↓E_isNumber_n, ↓M_isPlace_y, ↓M_isPlace_n, ↓M_isNumber_y, ↓M_isNumber_n, ↓M_in_y, ↓M_in_n, ↓us_ne]
    · refine ⟨-1, σ, us τ 33 0 0, ?_, ?_, hS0.thr⟩
      · simp (disch := omega) only [↓jn_e, ↓ite_y, ↓ite_n, ↓oadd_eq, ↓osub_eq, ↓omul_eq, ↓odiv_eq, ↓orem_eq, ↓rd_eq, ↓wr_eq, ↓gf_e, ↓pf_e, ↓bnd_e, ↓bndp_e, ↓opure_e, ↓oif_t, ↓oif_f, ↓E_isPlace_y, ↓E_isPlace_n, ↓E_isNumber_y, ↓E_isNumber_n, ↓M_isPlace_y, ↓M_isPlace_n, ↓M_isNumber_y, ↓M_isNumber_n, ↓M_in_y, ↓M_in_n, ↓us_ne]
      · simp (disch := omega) only [↓jn_e, ↓ite_y, ↓ite_n, ↓oadd_eq, ↓osub_eq, ↓omul_eq, ↓odiv_eq, ↓orem_eq, ↓rd_eq, ↓wr_eq, ↓gf_e, ↓pf_e, ↓bnd_e, ↓bndp_e, ↓opure_e, ↓oif_t, ↓oif_f, ↓E_isPlace_y, ↓E_isPlace_n, ↓E_isNumber_y, ↓E_isNumber_n, ↓M_isPlace_y, ↓M_isPlace_n, ↓M_isNumber_y, ↓M_isNumber_n, ↓M_in_y, ↓M_in_n, ↓us_ne]
  · refine ⟨-1, σ, us τ 33 0 0, ?_, ?_, hS0.thr⟩
    · simp (disch := omega) only [↓jn_e, ↓ite_y, ↓ite_n, ↓oadd_eq, ↓osub_eq, ↓omul_eq, ↓odiv_eq, ↓orem_eq, ↓rd_eq, ↓wr_eq, ↓gf_e, ↓pf_e, ↓bnd_e, ↓bndp_e, ↓opure_e, ↓oif_t, ↓oif_f, ↓E_isPlace_y, ↓E_isPlace_n, ↓E_isNumber_y, ↓E_isNumber_n, ↓M_isPlace_y, ↓M_isPlace_n, ↓M_isNumber_y, ↓M_isNumber_n, ↓M_in_y, ↓M_in_n, ↓us_ne]
    · simp (disch := omega) only [↓jn_e, ↓ite_y, ↓ite_n, ↓oadd_eq, ↓osub_eq, ↓omul_eq, ↓odiv_eq, ↓orem_eq, ↓rd_eq, ↓wr_eq, ↓gf_e, ↓pf_e, ↓bnd_e, ↓bndp_e, ↓opure_e, ↓oif_t, ↓oif_f, ↓E_isPlace_y, ↓E_isPlace_n, ↓E_isNumber_y, ↓E_isNumber_n, ↓M_isPlace_y, ↓M_isPlace_n, ↓M_isNumber_y, ↓M_isNumber_n, ↓M_in_y, ↓M_in_n, ↓us_ne]
theorem call_last : HS_15 SS := by
  intro k σ τ z0 z1 hk hS i0 i1
  have hS0 := hS
  obtain ⟨⟨ρ, hW⟩, hT, hr, hn, hm⟩ := hS
  have hmc := hm.c hk
  unfold E_last E_takeOne M_last
  by_cases a : 0 ≤ z0 ∧ z0 < 6
  · have hP := hW.2.2 z0 a.1 a.2
    have s0 := hP.2.1
    have n0 := hP.1
    by_cases c : 0 ≤ z1 ∧ z1 < 6
    · by_cases d : σ 25 z0 = 0
      · refine ⟨-2, σ, us τ 33 0 0, ?_, ?_, hS0.thr⟩
        · simp (disch := omega) only [↓jn_e, ↓ite_y, ↓ite_n, ↓oadd_eq, ↓osub_eq, ↓omul_eq, ↓odiv_eq, ↓orem_eq, ↓rd_eq, ↓wr_eq, ↓gf_e, ↓pf_e, ↓bnd_e, ↓bndp_e, ↓opure_e, ↓oif_t, ↓oif_f, ↓E_isPlace_y, ↓E_isPlace_n, ↓E_isNumber_y, ↓E_isNumber_n, ↓M_isPlace_y, ↓M_isPlace_n, ↓M_isNumber_y, ↓M_isNumber_n, ↓M_in_y, ↓M_in_n, ↓us_ne]
        · simp (disch := omega) only [↓jn_e, ↓ite_y, ↓ite_n, ↓oadd_eq, ↓osub_eq, ↓omul_eq, ↓odiv_eq, ↓orem_eq, ↓rd_eq, ↓wr_eq, ↓gf_e, ↓pf_e, ↓bnd_e, ↓bndp_e, ↓opure_e, ↓oif_t, ↓oif_f, ↓E_isPlace_y, ↓E_isPlace_n, ↓E_isNumber_y, ↓E_isNumber_n, ↓M_isPlace_y, ↓M_isPlace_n, ↓M_isNumber_y, ↓M_isNumber_n, ↓M_in_y, ↓M_in_n, ↓us_ne]
      · have hv := hP.num (x := σ 25 z0 - 1) (by omega)
        obtain ⟨v, hv0⟩ : ∃ v, v = τ 1 (256 * z0 + (σ 25 z0 - 1)) := ⟨_, rfl⟩
        rw [← hv0] at hv
        have n1 : Pool_numberAt σ (σ 24 z0) (σ 25 z0 - 1) = some v := by rw [numberAt_eq σ _ (by omega), hv.1]
        have n2 : M_number (us (us τ 33 0 0) 32 0 0) z0 (τ 3 z0 - 1) = some v := by rw [M_number_eq (by omega) (by omega), us_ne (by decide), us_ne (by decide), hv0, s0]
        obtain ⟨σt, τt, t1, t2, t3, t4, t5, -⟩ := tells1 σ (us τ 33 0 0) (a := v) (by omega)
        have hWt : Wd ρ σt τt := hW.mv t4 (by decide) (Rws.fr (((fr_sc [5, 32, 33] τ 33 0 (by decide))).tr (t5.mono (by decide))) (by decide) (by decide) (by decide) []) (by decide) (by rw [t5 30 (by decide), us_ne (by decide)])
        have u1 : σt 32 0 = σ 32 0 := by rw [t4 32 (by decide)]
        have u2 : τt 30 0 = τ 30 0 := by rw [t5 30 (by decide), us_ne (by decide)]
        obtain ⟨σ1, ρ1, τ1, τ2, e1, e2, e3, hW1, hC, h6, h7, f1, g1, r1, m1, m2⟩ := open_ex hWt (by omega) a
        have q2 : σ1 25 z0 = σ 25 z0 := by rw [f1 25 (by decide), t4 25 (by decide)]
        obtain ⟨y, σ3, τ3, ρ3, e4, e5, hX, hI, r3⟩ := op_last (hC.le (e := 9) (by omega)) h7 (by omega) (by omega)
        obtain ⟨σ4, τ4, e7, e8, hW4, f4, g4, k1, k2, k3⟩ := close_ex hW1 hX (by omega) r3 (by decide) hI c ⟨by rw [f1 32 (by decide)], m1, m2⟩ (by omega)
        have q3 : σ3 25 z0 = σ1 25 z0 := by rw [hX.2.2.2.2.2.1 25 (by decide)]
        rw [← q3] at e7
        have fE : Fr (13 :: 34 :: AE) σ σ4 := (t4.mono (by decide)).tr ((f1.mono (by decide)).tr ((hX.2.2.2.2.2.1.mono (by decide)).tr (f4.mono (by decide))))
        have fM : Fr (5 :: 32 :: AM) τ τ4 := ((fr_sc [33] τ 33 0 (by decide)).mono (by decide)).tr ((t5.mono (by decide)).tr ((g1.mono (by decide)).tr ((hX.2.2.2.2.2.2.1.mono (by decide)).tr (g4.mono (by decide)))))
        have hr4 : Rw σ4 τ4 := t3.fr (((f1.mono (by decide)).tr ((hX.2.2.2.2.2.1.mono (by decide)).tr (f4.mono (by decide)))) : Fr AE σt σ4) ((g1.mono (by decide)).tr ((hX.2.2.2.2.2.2.1.mono (by decide)).tr (g4.mono (by decide))) : Fr AM τt τ4) (by decide) (by decide)
        refine ⟨σ4 32 0 - σt 32 0, σ4, τ4, ?_, ?_, hS0.finr hW4 fE fM hr4 k1 ⟨by omega, by omega⟩⟩
        · simp (disch := omega) only [↓jn_e, ↓ite_y, ↓ite_n, ↓oadd_eq, ↓osub_eq, ↓omul_eq, ↓odiv_eq, ↓orem_eq, ↓rd_eq, ↓wr_eq, ↓gf_e, ↓pf_e, ↓bnd_e, ↓bndp_e, ↓opure_e, ↓oif_t, ↓oif_f, ↓E_isPlace_y, ↓E_isPlace_n, ↓E_isNumber_y, ↓E_isNumber_n, ↓M_isPlace_y, ↓M_isPlace_n, ↓M_isNumber_y, ↓M_isNumber_n, ↓M_in_y, ↓M_in_n, ↓us_ne, ↓n1, ↓t1, ↓e1, ↓e4, ↓e7]
        · simp (disch := omega) only [↓jn_e, ↓ite_y, ↓ite_n, ↓oadd_eq, ↓osub_eq, ↓omul_eq, ↓odiv_eq, ↓orem_eq, ↓rd_eq, ↓wr_eq, ↓gf_e, ↓pf_e, ↓bnd_e, ↓bndp_e, ↓opure_e, ↓oif_t, ↓oif_f, ↓E_isPlace_y, ↓E_isPlace_n, ↓E_isNumber_y, ↓E_isNumber_n, ↓M_isPlace_y, ↓M_isPlace_n, ↓M_isNumber_y, ↓M_isNumber_n, ↓M_in_y, ↓M_in_n, ↓us_ne, ↓n2, ↓t2, ↓e2, ↓e3, ↓e5, ↓e8]
    · refine ⟨-1, σ, us τ 33 0 0, ?_, ?_, hS0.thr⟩
      · simp (disch := omega) only [↓jn_e, ↓ite_y, ↓ite_n, ↓oadd_eq, ↓osub_eq, ↓omul_eq, ↓odiv_eq, ↓orem_eq, ↓rd_eq, ↓wr_eq, ↓gf_e, ↓pf_e, ↓bnd_e, ↓bndp_e, ↓opure_e, ↓oif_t, ↓oif_f, ↓E_isPlace_y, ↓E_isPlace_n, ↓E_isNumber_y, ↓E_isNumber_n, ↓M_isPlace_y, ↓M_isPlace_n, ↓M_isNumber_y, ↓M_isNumber_n, ↓M_in_y, ↓M_in_n, ↓us_ne]
      · simp (disch := omega) only [↓jn_e, ↓ite_y, ↓ite_n, ↓oadd_eq, ↓osub_eq, ↓omul_eq, ↓odiv_eq, ↓orem_eq, ↓rd_eq, ↓wr_eq, ↓gf_e, ↓pf_e, ↓bnd_e, ↓bndp_e, ↓opure_e, ↓oif_t, ↓oif_f, ↓E_isPlace_y, ↓E_isPlace_n, ↓E_isNumber_y, ↓E_isNumber_n, ↓M_isPlace_y, ↓M_isPlace_n, ↓M_isNumber_y, ↓M_isNumber_n, ↓M_in_y, ↓M_in_n, ↓us_ne]
  · refine ⟨-1, σ, us τ 33 0 0, ?_, ?_, hS0.thr⟩
    · simp (disch := omega) only [↓jn_e, ↓ite_y, ↓ite_n, ↓oadd_eq, ↓osub_eq, ↓omul_eq, ↓odiv_eq, ↓orem_eq, ↓rd_eq, ↓wr_eq, ↓gf_e, ↓pf_e, ↓bnd_e, ↓bndp_e, ↓opure_e, ↓oif_t, ↓oif_f, ↓E_isPlace_y, ↓E_isPlace_n, ↓E_isNumber_y, ↓E_isNumber_n, ↓M_isPlace_y, ↓M_isPlace_n, ↓M_isNumber_y, ↓M_isNumber_n, ↓M_in_y, ↓M_in_n, ↓us_ne]
    · simp (disch := omega) only [↓jn_e, ↓ite_y, ↓ite_n, ↓oadd_eq, ↓osub_eq, ↓omul_eq, ↓odiv_eq, ↓orem_eq, ↓rd_eq, ↓wr_eq, ↓gf_e, ↓pf_e, ↓bnd_e, ↓bndp_e, ↓opure_e, ↓oif_t, ↓oif_f, ↓E_isPlace_y, ↓E_isPlace_n, ↓E_isNumber_y, ↓E_isNumber_n, ↓M_isPlace_y, ↓M_isPlace_n, ↓M_isNumber_y, ↓M_isNumber_n, ↓M_in_y, ↓M_in_n, ↓us_ne]
theorem keeps_loop (K : St → Option (Int × St)) (N size w : Int) (hN : 0 ≤ N ∧ N ≤ size ∧ size ≤ 255) (hw : w = size - N) : ∀ (r m1 m2 : Nat) (ρ : Int → Int → Prop) (σ τ : St) (y x : Int), x + r = N → 0 ≤ x → r < m1 → r < m2 → Cx ρ σ τ (8 * (r : Int) + 400) → RI ρ σ τ y (size - x) 7 →
    ∃ y' σ' τ' ρ', Pool_takeMany_L6 size N 3 m1 σ y x = some (y', σ') ∧ M_keeps_L46 K w m2 τ = K τ' ∧ Sx ρ σ τ ρ' σ' τ' (8 * (r : Int)) ∧ RI ρ' σ' τ' y' (size - N) 7 ∧ Rws [7] τ τ' := by
  intro r
  induction r with
  | zero =>
    intro m1 m2 ρ σ τ y x h1 h0 h2 h3 hC hI
    cases m1 with
    | zero => omega
    | succ m1 =>
    cases m2 with
    | zero => omega
    | succ m2 =>
    have e : size - x = size - N := by omega
    have s7 := hI.2.1
    refine ⟨y, σ, τ, ρ, ?_, ?_, (Sx.rf hC.1 hC.2.1 (Fr.rf _ _) rfl).le (by omega), ?_, Rws.rf _ _⟩
    · unfold Pool_takeMany_L6
      exact if_neg (by omega)
    · unfold M_keeps_L46
      rw [rd_eq (by omega), s7, if_neg (by omega)]
    · rw [← e]; exact hI
  | succ r ih =>
    intro m1 m2 ρ σ τ y x h1 h0 h2 h3 hC hI
    cases m1 with
    | zero => omega
    | succ m1 =>
    cases m2 with
    | zero => omega
    | succ m2 =>
    have hn := hI.1
    have s7 := hI.2.1
    have hC' := hC
    obtain ⟨-, -, -, -, hC5⟩ := hC'
    obtain ⟨y1, σ1, τ1, ρ1, e1, e2, hX, hI1, r1⟩ := op_last (hC.le (e := 9) (by omega)) hI (by omega) (by omega)
    have ex : size - x - 1 = size - (x + 1) := by omega
    rw [ex] at hI1
    obtain ⟨y2, σ2, τ2, ρ2, g1, g2, hX2, hI2, r2⟩ := ih m1 m2 ρ1 σ1 τ1 y1 (x + 1) (by omega) (by omega) (by omega) (by omega) (hC.sx hX (by omega)) hI1
    refine ⟨y2, σ2, τ2, ρ2, ?_, ?_, (hX.tr hX2).le (by omega), hI2, r1.tr r2⟩
    · conv => lhs; unfold Pool_takeMany_L6
      simp (disch := omega) only [↓jn_e, ↓ite_y, ↓ite_n, ↓oadd_eq, ↓osub_eq, ↓omul_eq, ↓odiv_eq, ↓orem_eq, ↓rd_eq, ↓wr_eq, ↓gf_e, ↓pf_e, ↓bnd_e, ↓bndp_e, ↓opure_e, ↓oif_t, ↓oif_f, ↓E_isPlace_y, ↓E_isPlace_n, ↓E_isNumber_y, ↓E_isNumber_n, ↓M_isPlace_y, ↓M_isPlace_n, ↓M_isNumber_y, ↓M_isNumber_n, ↓M_in_y, ↓M_in_n, ↓us_ne, ↓e1]
      exact g1
    · conv => lhs; unfold M_keeps_L46
      rw [rd_eq (by omega), s7, if_pos (by omega), e2, bnd_eq]
      exact g2
theorem call_keeps : HS_20 SS := by
  intro k σ τ z0 z1 z2 hk hS i0 i1 i2
  have hS0 := hS
  obtain ⟨⟨ρ, hW⟩, hT, hr, hn, hm⟩ := hS
  have hmc := hm.c hk
  unfold E_keeps M_keeps
  by_cases a : 0 ≤ z0 ∧ z0 < 6
  · have s0 := (hW.2.2 z0 a.1 a.2).2.1
    have n0 := (hW.2.2 z0 a.1 a.2).1
    by_cases b : 0 ≤ z1 ∧ z1 ≤ σ 25 z0
    · have b1 : E_isRange σ z0 0 z1 = some 1 := isRange_y (by omega)
      have b2 : M_in z1 0 (τ 3 z0) = some 1 := M_in_y (by omega)
      by_cases c : 0 ≤ z2 ∧ z2 < 6
      · obtain ⟨σ1, ρ1, τ1, τ2, e1, e2, e3, hW1, hC, h6, h7, f1, g1, r1, m1, m2⟩ := open_ex (hW.sc (f := 33) (v := 0) (by decide)) (by rw [us_ne (by decide)]; exact hmc) a
        have q2 : σ1 25 z0 = σ 25 z0 := by rw [f1 25 (by decide)]
        have e0 : σ1 25 z0 - 0 = σ1 25 z0 := by omega
        rw [← e0] at h7
        obtain ⟨y, σ3, τ3, ρ3, e4, e5, hX, hI, r3⟩ := keeps_loop (fun (s10 : St) => bnd (M_ends s10 z2) fun v12 s13 => some (v12, s13)) (σ1 25 z0 - z1) (σ1 25 z0) z1 (by omega) (by omega) (σ1 25 z0 - z1).toNat FU FU ρ1 σ1 τ2 (σ1 24 z0) 0 (by omega) (by omega) (by unfold FU; omega) (by unfold FU; omega) (hC.le (by omega)) h7
        have ez : σ1 25 z0 - (σ1 25 z0 - z1) = z1 := by omega
        rw [ez] at hI
        obtain ⟨σ4, τ4, e7, e8, hW4, f4, g4, k1, k2, k3⟩ := close_ex hW1 hX (by omega) r3 (by decide) hI c ⟨by rw [f1 32 (by decide)], m1, m2⟩ hmc.2
        have e4 : Pool_takeMany σ1 (σ1 24 z0) (σ1 25 z0) (σ1 25 z0 - z1) 3 = some (y, σ3) := e4
        refine ⟨σ4 32 0 - σ 32 0, σ4, τ4, ?_, ?_, hS0.fin hW4 ((f1.mono (by decide)).tr ((hX.2.2.2.2.2.1.mono (by decide)).tr (f4.mono (by decide)))) (((fr_sc [33] τ 33 0 (by decide)).mono (by decide)).tr ((g1.mono (by decide)).tr ((hX.2.2.2.2.2.2.1.mono (by decide)).tr (g4.mono (by decide))))) k1 ⟨k2, k3⟩⟩
        · simp (disch := omega) only [↓jn_e, ↓ite_y, ↓ite_n, ↓oadd_eq, ↓osub_eq, ↓omul_eq, ↓odiv_eq, ↓orem_eq, ↓rd_eq, ↓wr_eq, ↓gf_e, ↓pf_e, ↓bnd_e, ↓bndp_e, ↓opure_e, ↓oif_t, ↓oif_f, ↓E_isPlace_y, ↓E_isPlace_n, ↓E_isNumber_y, ↓E_isNumber_n, ↓M_isPlace_y, ↓M_isPlace_n, ↓M_isNumber_y, ↓M_isNumber_n, ↓M_in_y, ↓M_in_n, ↓us_ne, ↓b1, ↓e1, ↓e4, ↓e7]
        · simp (disch := omega) only [↓jn_e, ↓ite_y, ↓ite_n, ↓oadd_eq, ↓osub_eq, ↓omul_eq, ↓odiv_eq, ↓orem_eq, ↓rd_eq, ↓wr_eq, ↓gf_e, ↓pf_e, ↓bnd_e, ↓bndp_e, ↓opure_e, ↓oif_t, ↓oif_f, ↓E_isPlace_y, ↓E_isPlace_n, ↓E_isNumber_y, ↓E_isNumber_n, ↓M_isPlace_y, ↓M_isPlace_n, ↓M_isNumber_y, ↓M_isNumber_n, ↓M_in_y, ↓M_in_n, ↓us_ne, ↓b2, ↓e2, ↓e3, ↓e5, ↓e8]
      · refine ⟨-1, σ, us τ 33 0 0, ?_, ?_, hS0.thr⟩
        · simp (disch := omega) only [↓jn_e, ↓ite_y, ↓ite_n, ↓oadd_eq, ↓osub_eq, ↓omul_eq, ↓odiv_eq, ↓orem_eq, ↓rd_eq, ↓wr_eq, ↓gf_e, ↓pf_e, ↓bnd_e, ↓bndp_e, ↓opure_e, ↓oif_t, ↓oif_f, ↓E_isPlace_y, ↓E_isPlace_n, ↓E_isNumber_y, ↓E_isNumber_n, ↓M_isPlace_y, ↓M_isPlace_n, ↓M_isNumber_y, ↓M_isNumber_n, ↓M_in_y, ↓M_in_n, ↓us_ne, ↓b1]
        · simp (disch := omega) only [↓jn_e, ↓ite_y, ↓ite_n, ↓oadd_eq, ↓osub_eq, ↓omul_eq, ↓odiv_eq, ↓orem_eq, ↓rd_eq, ↓wr_eq, ↓gf_e, ↓pf_e, ↓bnd_e, ↓bndp_e, ↓opure_e, ↓oif_t, ↓oif_f, ↓E_isPlace_y, ↓E_isPlace_n, ↓E_isNumber_y, ↓E_isNumber_n, ↓M_isPlace_y, ↓M_isPlace_n, ↓M_isNumber_y, ↓M_isNumber_n, ↓M_in_y, ↓M_in_n, ↓us_ne, ↓b2]
    · have b1 : E_isRange σ z0 0 z1 = some 0 := isRange_n (by omega)
      have b2 : M_in z1 0 (τ 3 z0) = some 0 := M_in_n (by omega)
      refine ⟨-1, σ, us τ 33 0 0, ?_, ?_, hS0.thr⟩
      · simp (disch := omega) only [↓jn_e, ↓ite_y, ↓ite_n, ↓oadd_eq, ↓osub_eq, ↓omul_eq, ↓odiv_eq, ↓orem_eq, ↓rd_eq, ↓wr_eq, ↓gf_e, ↓pf_e, ↓bnd_e, ↓bndp_e, ↓opure_e, ↓oif_t, ↓oif_f, ↓E_isPlace_y, ↓E_isPlace_n, ↓E_isNumber_y, ↓E_isNumber_n, ↓M_isPlace_y, ↓M_isPlace_n, ↓M_isNumber_y, ↓M_isNumber_n, ↓M_in_y, ↓M_in_n, ↓us_ne, ↓b1]
      · simp (disch := omega) only [↓jn_e, ↓ite_y, ↓ite_n, ↓oadd_eq, ↓osub_eq, ↓omul_eq, ↓odiv_eq, ↓orem_eq, ↓rd_eq, ↓wr_eq, ↓gf_e, ↓pf_e, ↓bnd_e, ↓bndp_e, ↓opure_e, ↓oif_t, ↓oif_f, ↓E_isPlace_y, ↓E_isPlace_n, ↓E_isNumber_y, ↓E_isNumber_n, ↓M_isPlace_y, ↓M_isPlace_n, ↓M_isNumber_y, ↓M_isNumber_n, ↓M_in_y, ↓M_in_n, ↓us_ne, ↓b2]
  · have b1 : E_isRange σ z0 0 z1 = some 0 := isRange_n (by omega)
    refine ⟨-1, σ, us τ 33 0 0, ?_, ?_, hS0.thr⟩
    · simp (disch := omega) only [↓jn_e, ↓ite_y, ↓ite_n, ↓oadd_eq, ↓osub_eq, ↓omul_eq, ↓odiv_eq, ↓orem_eq, ↓rd_eq, ↓wr_eq, ↓gf_e, ↓pf_e, ↓bnd_e, ↓bndp_e, ↓opure_e, ↓oif_t, ↓oif_f, ↓E_isPlace_y, ↓E_isPlace_n, ↓E_isNumber_y, ↓E_isNumber_n, ↓M_isPlace_y, ↓M_isPlace_n, ↓M_isNumber_y, ↓M_isNumber_n, ↓M_in_y, ↓M_in_n, ↓us_ne, ↓b1]
    · simp (disch := omega) only [↓jn_e, ↓ite_y, ↓ite_n, ↓oadd_eq, ↓osub_eq, ↓omul_eq, ↓odiv_eq, ↓orem_eq, ↓rd_eq, ↓wr_eq, ↓gf_e, ↓pf_e, ↓bnd_e, ↓bndp_e, ↓opure_e, ↓oif_t, ↓oif_f, ↓E_isPlace_y, ↓E_isPlace_n, ↓E_isNumber_y, ↓E_isNumber_n, ↓M_isPlace_y, ↓M_isPlace_n, ↓M_isNumber_y, ↓M_isNumber_n, ↓M_in_y, ↓M_in_n, ↓us_ne]
theorem parts106 (K : St → Option (Int × St)) (p : Int) : ∀ (m : Nat) (τ : St) (x : Int), M_parts_L106 K p m τ x = M_skips_L49 K p m τ x := by
  intro m
  induction m with
  | zero => intro τ x; rfl
  | succ m ih =>
    intro τ x
    unfold M_parts_L106 M_skips_L49
    by_cases h : x < p
    · rw [if_pos h, if_pos h]
      simp only [ih]
    · rw [if_neg h, if_neg h]
theorem parts70 (K : St → Option (Int × St)) (p : Int) : ∀ (m : Nat) (τ : St), M_parts_L70 K p m τ = M_keeps_L46 K p m τ := by
  intro m
  induction m with
  | zero => intro τ; rfl
  | succ m ih =>
    intro τ
    unfold M_parts_L70 M_keeps_L46
    simp only [ih]
theorem call_parts : HS_25 SS := by
  intro k σ τ z0 z1 z2 z3 hk hS i0 i1 i2 i3
  have hS0 := hS
  obtain ⟨⟨ρ, hW⟩, hT, hr, hn, hm⟩ := hS
  have hmc := hm.c hk
  unfold E_parts M_parts
  by_cases a : 0 ≤ z0 ∧ z0 < 6
  · have s0 := (hW.2.2 z0 a.1 a.2).2.1
    have n0 := (hW.2.2 z0 a.1 a.2).1
    by_cases b : 0 ≤ z1 ∧ z1 ≤ σ 25 z0
    · have b1 : E_isRange σ z0 0 z1 = some 1 := isRange_y (by omega)
      have b2 : M_in z1 0 (τ 3 z0) = some 1 := M_in_y (by omega)
      by_cases c : 0 ≤ z2 ∧ z2 < 6
      · by_cases c2 : 0 ≤ z3 ∧ z3 < 6
        · by_cases d : z2 = z3
          · refine ⟨-2, σ, us τ 33 0 0, ?_, ?_, hS0.thr⟩
            · simp (disch := omega) only [↓jn_e, ↓ite_y, ↓ite_n, ↓oadd_eq, ↓osub_eq, ↓omul_eq, ↓odiv_eq, ↓orem_eq, ↓rd_eq, ↓wr_eq, ↓gf_e, ↓pf_e, ↓bnd_e, ↓bndp_e, ↓opure_e, ↓oif_t, ↓oif_f, ↓E_isPlace_y, ↓E_isPlace_n, ↓E_isNumber_y, ↓E_isNumber_n, ↓M_isPlace_y, ↓M_isPlace_n, ↓M_isNumber_y, ↓M_isNumber_n, ↓M_in_y, ↓M_in_n, ↓us_ne, ↓b1]
            · simp (disch := omega) only [↓jn_e, ↓ite_y, ↓ite_n, ↓oadd_eq, ↓osub_eq, ↓omul_eq, ↓odiv_eq, ↓orem_eq, ↓rd_eq, ↓wr_eq, ↓gf_e, ↓pf_e, ↓bnd_e, ↓bndp_e, ↓opure_e, ↓oif_t, ↓oif_f, ↓E_isPlace_y, ↓E_isPlace_n, ↓E_isNumber_y, ↓E_isNumber_n, ↓M_isPlace_y, ↓M_isPlace_n, ↓M_isNumber_y, ↓M_isNumber_n, ↓M_in_y, ↓M_in_n, ↓us_ne, ↓b2]
          · have hW0 := hW.sc (f := 33) (v := 0) (by decide)
            obtain ⟨τ0, d0, g0, r0, x0, y0⟩ := takes_ex (us τ 33 0 0) z0 8 (by omega) (by omega) (by rw [us_ne (by decide)]; omega)
            have hW00 : Wd ρ σ τ0 := hW0.mv (m := []) (Fr.rf _ _) (by decide) r0 (by decide) (by rw [g0 30 (by decide)])
            have w30 : τ0 30 0 = τ 30 0 := by rw [g0 30 (by decide), us_ne (by decide)]
            obtain ⟨σ1, ρ1, τ1, τ2, e1, e2, e3, hW1, hC, h6, h7, f1, g1, r1, m1, m2⟩ := open_ex hW00 (by omega) a
            have q24 : σ1 24 z0 = σ 24 z0 := by rw [f1 24 (by decide)]
            have q2 : σ1 25 z0 = σ 25 z0 := by rw [f1 25 (by decide)]
            -- row 8 has it as it was
            have h8 : RI ρ1 σ1 τ2 (σ 24 z0) (σ 25 z0) 8 := by
              have hP := hW1.2.2 z0 a.1 a.2
              rw [q24, q2] at hP
              have g8 := r1.2 8 (by decide)
              refine hP.cp (by rw [g8, x0, us_ne (by decide)]; exact s0) (fun x x9 xn => ?_)
              have t1 := r1.at (r := 8) (x := x) (by decide) (by omega)
              have t2 := y0 x x9 (by rw [us_ne (by decide)]; omega)
              have t3 := r1.at (r := z0) (x := x) (by simp; omega) (by omega)
              have t4 := r0.at (r := z0) (x := x) (by simp; omega) (by omega)
              exact ⟨t1.1.trans (t2.1.trans (t4.1.symm.trans t3.1.symm)), t1.2.trans (t2.2.trans (t4.2.symm.trans t3.2.symm))⟩
            rw [q24, q2] at h7
            have e0 : σ 25 z0 - 0 = σ 25 z0 := by omega
            rw [← e0] at h7
            obtain ⟨y, σ3, τ3, ρ3, e4, e5, hX, hI, r3⟩ := keeps_loop (fun (s13 : St) => bnd (M_takes s13 7 z2) fun _ s16 => bnd (M_takes s16 8 7) fun _ s18 => jn (fun (s19 : St) => bnd (M_ends s19 z3) fun v21 s22 => some (v21, s22)) fun k20 => M_parts_L106 k20 z1 FU s18 0) (σ 25 z0 - z1) (σ 25 z0) z1 (by omega) (by omega) (σ 25 z0 - z1).toNat FU FU ρ1 σ1 τ2 (σ 24 z0) 0 (by omega) (by omega) (by unfold FU; omega) (by unfold FU; omega) (hC.le (by omega)) h7
            have ez : σ 25 z0 - (σ 25 z0 - z1) = z1 := by omega
            rw [ez] at hI
            obtain ⟨σ4, τ4, e7, e8, hW4, f4, g4, r4, s4⟩ := keep_ends hW1 hX r3 (by decide) (w := 7) (by omega) hI c
            have h8' : RI ρ3 σ4 τ4 (σ 24 z0) (σ 25 z0) 8 := (((h8.sw hX r3 (by decide)).rw r4 (by simp; omega))).es (f4 7 (by decide)) (f4 8 (by decide)) (f4 9 (by decide)) (f4 10 (by decide)) (f4 30 (by decide))
            have x8 := h8'.2.1
            obtain ⟨τ5, d5, g5, r5, x5, y5⟩ := takes_ex τ4 8 7 (by omega) (by omega) (by omega)
            rw [x8] at x5 y5
            have hW5 : Wd ρ3 σ4 τ5 := hW4.mv (m := []) (Fr.rf _ _) (by decide) r5 (by decide) (by rw [g5 30 (by decide)])
            have h75 : RI ρ3 σ4 τ5 (σ 24 z0) (σ 25 z0) 7 := h8'.cp x5 y5
            have hcn := hX.cnt
            have hfm := hX.2.2.2.2.2.2.2
            unfold Cnt at hfm
            have u31 : σ4 31 0 = σ3 31 0 := by rw [f4 31 (by decide)]
            have u32 : σ4 32 0 = σ3 32 0 := by rw [f4 32 (by decide)]
            have v32 : σ1 32 0 = σ 32 0 := by rw [f1 32 (by decide)]
            have v31 := hC.2.2.1
            have t30 : τ5 30 0 = τ3 30 0 := by rw [g5 30 (by decide), g4 30 (by decide)]
            have hC5 : Cx ρ3 σ4 τ5 (8 * z1) := ⟨hW5.1, hW5.2.1, by omega, by omega, by omega⟩
            rw [← e0] at h75
            obtain ⟨y6, σ6, τ6, ρ6, e9, e10, hX6, hI6, r6⟩ := skips_loop (fun (s19 : St) => bnd (M_ends s19 z3) fun v21 s22 => some (v21, s22)) z1 (σ 25 z0) (by omega) z1.toNat FU FU ρ3 σ4 τ5 (σ 24 z0) 0 (by omega) (by omega) (by unfold FU; omega) (by unfold FU; omega) (hC5.le (by omega)) h75
            obtain ⟨σ7, τ7, e11, e12, hW7, f7, g7, r7, s7⟩ := keep_ends hW5 hX6 r6 (by decide) (w := 7) (by omega) hI6 c2
            have hcn6 := hX6.cnt
            have w32 : σ7 32 0 = σ6 32 0 := by rw [f7 32 (by decide)]
            have w30 : τ7 30 0 = τ6 30 0 := by rw [g7 30 (by decide)]
            have w34 : τ7 34 0 = σ 32 0 := by rw [g7 34 (by decide), hX6.2.2.2.2.2.2.1 34 (by decide), g5 34 (by decide), g4 34 (by decide), hX.2.2.2.2.2.2.1 34 (by decide)]; exact m2
            have eE : M_ends τ6 z3 = some (σ7 32 0 - σ 32 0, τ7) := by
              unfold M_ends
              rw [e12, bnd_eq]
              simp (disch := omega) only [gf_eq, osub_eq, w34]
              congr 2; omega
            have e4 : Pool_takeMany σ1 (σ 24 z0) (σ 25 z0) (σ 25 z0 - z1) 3 = some (y, σ3) := e4
            have e9 : Pool_takeMany σ4 (σ 24 z0) (σ 25 z0) z1 2 = some (y6, σ6) := e9
            refine ⟨σ7 32 0 - σ 32 0, σ7, τ7, ?_, ?_, hS0.fin hW7 ((f1.mono (by decide)).tr ((hX.2.2.2.2.2.1.mono (by decide)).tr ((f4.mono (by decide)).tr ((hX6.2.2.2.2.2.1.mono (by decide)).tr (f7.mono (by decide)))))) (((fr_sc [33] τ 33 0 (by decide)).mono (by decide)).tr ((g0.mono (by decide)).tr ((g1.mono (by decide)).tr ((hX.2.2.2.2.2.2.1.mono (by decide)).tr ((g4.mono (by decide)).tr ((g5.mono (by decide)).tr ((hX6.2.2.2.2.2.2.1.mono (by decide)).tr (g7.mono (by decide))))))))) (by omega) ⟨by omega, by omega⟩⟩
            · simp (disch := omega) only [↓jn_e, ↓ite_y, ↓ite_n, ↓oadd_eq, ↓osub_eq, ↓omul_eq, ↓odiv_eq, ↓orem_eq, ↓rd_eq, ↓wr_eq, ↓gf_e, ↓pf_e, ↓bnd_e, ↓bndp_e, ↓opure_e, ↓oif_t, ↓oif_f, ↓E_isPlace_y, ↓E_isPlace_n, ↓E_isNumber_y, ↓E_isNumber_n, ↓M_isPlace_y, ↓M_isPlace_n, ↓M_isNumber_y, ↓M_isNumber_n, ↓M_in_y, ↓M_in_n, ↓us_ne, ↓b1, ↓e1, ↓e4, ↓e7, ↓e9, ↓e11]
            · simp (disch := omega) only [↓jn_e, ↓ite_y, ↓ite_n, ↓oadd_eq, ↓osub_eq, ↓omul_eq, ↓odiv_eq, ↓orem_eq, ↓rd_eq, ↓wr_eq, ↓gf_e, ↓pf_e, ↓bnd_e, ↓bndp_e, ↓opure_e, ↓oif_t, ↓oif_f, ↓E_isPlace_y, ↓E_isPlace_n, ↓E_isNumber_y, ↓E_isNumber_n, ↓M_isPlace_y, ↓M_isPlace_n, ↓M_isNumber_y, ↓M_isNumber_n, ↓M_in_y, ↓M_in_n, ↓us_ne, ↓b2, ↓d0, ↓e2, ↓e3, ↓parts70]
              refine e5.trans ?_
              simp (disch := omega) only [↓jn_e, ↓ite_y, ↓ite_n, ↓oadd_eq, ↓osub_eq, ↓omul_eq, ↓odiv_eq, ↓orem_eq, ↓rd_eq, ↓wr_eq, ↓gf_e, ↓pf_e, ↓bnd_e, ↓bndp_e, ↓opure_e, ↓oif_t, ↓oif_f, ↓E_isPlace_y, ↓E_isPlace_n, ↓E_isNumber_y, ↓E_isNumber_n, ↓M_isPlace_y, ↓M_isPlace_n, ↓M_isNumber_y, ↓M_isNumber_n, ↓M_in_y, ↓M_in_n, ↓us_ne, ↓e8, ↓d5, ↓parts106]
              refine e10.trans ?_
              simp (disch := omega) only [↓jn_e, ↓ite_y, ↓ite_n, ↓oadd_eq, ↓osub_eq, ↓omul_eq, ↓odiv_eq, ↓orem_eq, ↓rd_eq, ↓wr_eq, ↓gf_e, ↓pf_e, ↓bnd_e, ↓bndp_e, ↓opure_e, ↓oif_t, ↓oif_f, ↓E_isPlace_y, ↓E_isPlace_n, ↓E_isNumber_y, ↓E_isNumber_n, ↓M_isPlace_y, ↓M_isPlace_n, ↓M_isNumber_y, ↓M_isNumber_n, ↓M_in_y, ↓M_in_n, ↓us_ne, ↓eE]
        · refine ⟨-1, σ, us τ 33 0 0, ?_, ?_, hS0.thr⟩
          · simp (disch := omega) only [↓jn_e, ↓ite_y, ↓ite_n, ↓oadd_eq, ↓osub_eq, ↓omul_eq, ↓odiv_eq, ↓orem_eq, ↓rd_eq, ↓wr_eq, ↓gf_e, ↓pf_e, ↓bnd_e, ↓bndp_e, ↓opure_e, ↓oif_t, ↓oif_f, ↓E_isPlace_y, ↓E_isPlace_n, ↓E_isNumber_y, ↓E_isNumber_n, ↓M_isPlace_y, ↓M_isPlace_n, ↓M_isNumber_y, ↓M_isNumber_n, ↓M_in_y, ↓M_in_n, ↓us_ne, ↓b1]
          · simp (disch := omega) only [↓jn_e, ↓ite_y, ↓ite_n, ↓oadd_eq, ↓osub_eq, ↓omul_eq, ↓odiv_eq, ↓orem_eq, ↓rd_eq, ↓wr_eq, ↓gf_e, ↓pf_e, ↓bnd_e, ↓bndp_e, ↓opure_e, ↓oif_t, ↓oif_f, ↓E_isPlace_y, ↓E_isPlace_n, ↓E_isNumber_y, ↓E_isNumber_n, ↓M_isPlace_y, ↓M_isPlace_n, ↓M_isNumber_y, ↓M_isNumber_n, ↓M_in_y, ↓M_in_n, ↓us_ne, ↓b2]
      · refine ⟨-1, σ, us τ 33 0 0, ?_, ?_, hS0.thr⟩
        · simp (disch := omega) only [↓jn_e, ↓ite_y, ↓ite_n, ↓oadd_eq, ↓osub_eq, ↓omul_eq, ↓odiv_eq, ↓orem_eq, ↓rd_eq, ↓wr_eq, ↓gf_e, ↓pf_e, ↓bnd_e, ↓bndp_e, ↓opure_e, ↓oif_t, ↓oif_f, ↓E_isPlace_y, ↓E_isPlace_n, ↓E_isNumber_y, ↓E_isNumber_n, ↓M_isPlace_y, ↓M_isPlace_n, ↓M_isNumber_y, ↓M_isNumber_n, ↓M_in_y, ↓M_in_n, ↓us_ne, ↓b1]
        · simp (disch := omega) only [↓jn_e, ↓ite_y, ↓ite_n, ↓oadd_eq, ↓osub_eq, ↓omul_eq, ↓odiv_eq, ↓orem_eq, ↓rd_eq, ↓wr_eq, ↓gf_e, ↓pf_e, ↓bnd_e, ↓bndp_e, ↓opure_e, ↓oif_t, ↓oif_f, ↓E_isPlace_y, ↓E_isPlace_n, ↓E_isNumber_y, ↓E_isNumber_n, ↓M_isPlace_y, ↓M_isPlace_n, ↓M_isNumber_y, ↓M_isNumber_n, ↓M_in_y, ↓M_in_n, ↓us_ne, ↓b2]
    · have b1 : E_isRange σ z0 0 z1 = some 0 := isRange_n (by omega)
      have b2 : M_in z1 0 (τ 3 z0) = some 0 := M_in_n (by omega)
      refine ⟨-1, σ, us τ 33 0 0, ?_, ?_, hS0.thr⟩
      · simp (disch := omega) only [↓jn_e, ↓ite_y, ↓ite_n, ↓oadd_eq, ↓osub_eq, ↓omul_eq, ↓odiv_eq, ↓orem_eq, ↓rd_eq, ↓wr_eq, ↓gf_e, ↓pf_e, ↓bnd_e, ↓bndp_e, ↓opure_e, ↓oif_t, ↓oif_f, ↓E_isPlace_y, ↓E_isPlace_n, ↓E_isNumber_y, ↓E_isNumber_n, ↓M_isPlace_y, ↓M_isPlace_n, ↓M_isNumber_y, ↓M_isNumber_n, ↓M_in_y, ↓M_in_n, ↓us_ne, ↓b1]
      · simp (disch := omega) only [↓jn_e, ↓ite_y, ↓ite_n, ↓oadd_eq, ↓osub_eq, ↓omul_eq, ↓odiv_eq, ↓orem_eq, ↓rd_eq, ↓wr_eq, ↓gf_e, ↓pf_e, ↓bnd_e, ↓bndp_e, ↓opure_e, ↓oif_t, ↓oif_f, ↓E_isPlace_y, ↓E_isPlace_n, ↓E_isNumber_y, ↓E_isNumber_n, ↓M_isPlace_y, ↓M_isPlace_n, ↓M_isNumber_y, ↓M_isNumber_n, ↓M_in_y, ↓M_in_n, ↓us_ne, ↓b2]
  · have b1 : E_isRange σ z0 0 z1 = some 0 := isRange_n (by omega)
    refine ⟨-1, σ, us τ 33 0 0, ?_, ?_, hS0.thr⟩
    · simp (disch := omega) only [↓jn_e, ↓ite_y, ↓ite_n, ↓oadd_eq, ↓osub_eq, ↓omul_eq, ↓odiv_eq, ↓orem_eq, ↓rd_eq, ↓wr_eq, ↓gf_e, ↓pf_e, ↓bnd_e, ↓bndp_e, ↓opure_e, ↓oif_t, ↓oif_f, ↓E_isPlace_y, ↓E_isPlace_n, ↓E_isNumber_y, ↓E_isNumber_n, ↓M_isPlace_y, ↓M_isPlace_n, ↓M_isNumber_y, ↓M_isNumber_n, ↓M_in_y, ↓M_in_n, ↓us_ne, ↓b1]
    · simp (disch := omega) only [↓jn_e, ↓ite_y, ↓ite_n, ↓oadd_eq, ↓osub_eq, ↓omul_eq, ↓odiv_eq, ↓orem_eq, ↓rd_eq, ↓wr_eq, ↓gf_e, ↓pf_e, ↓bnd_e, ↓bndp_e, ↓opure_e, ↓oif_t, ↓oif_f, ↓E_isPlace_y, ↓E_isPlace_n, ↓E_isNumber_y, ↓E_isNumber_n, ↓M_isPlace_y, ↓M_isPlace_n, ↓M_isNumber_y, ↓M_isNumber_n, ↓M_in_y, ↓M_in_n, ↓us_ne]

-- MATH 16: skips, heaps, pop
theorem skips_loop (K : St → Option (Int × St)) (N size : Int) (hN : 0 ≤ N ∧ N ≤ size ∧ size ≤ 255) : ∀ (r m1 m2 : Nat) (ρ : Int → Int → Prop) (σ τ : St) (y x : Int), x + r = N → 0 ≤ x → r < m1 → r < m2 → Cx ρ σ τ (8 * (r : Int)) → RI ρ σ τ y (size - x) 7 →
    ∃ y' σ' τ' ρ', Pool_takeMany_L6 size N 2 m1 σ y x = some (y', σ') ∧ M_skips_L49 K N m2 τ x = K τ' ∧ Sx ρ σ τ ρ' σ' τ' (8 * (r : Int)) ∧ RI ρ' σ' τ' y' (size - N) 7 ∧ Rws [6, 7] τ τ' := by
  intro r
  induction r with
  | zero =>
    intro m1 m2 ρ σ τ y x h1 h0 h2 h3 hC hI
    cases m1 with
    | zero => omega
    | succ m1 =>
    cases m2 with
    | zero => omega
    | succ m2 =>
    unfold Pool_takeMany_L6 M_skips_L49
    refine ⟨y, σ, τ, ρ, if_neg (by omega), if_neg (by omega), (Sx.rf hC.1 hC.2.1 (Fr.rf _ _) rfl).le (by omega), ?_, Rws.rf _ _⟩
    have e : size - x = size - N := by omega
    rw [← e]; exact hI
  | succ r ih =>
    intro m1 m2 ρ σ τ y x h1 h0 h2 h3 hC hI
    cases m1 with
    | zero => omega
    | succ m1 =>
    cases m2 with
    | zero => omega
    | succ m2 =>
    have hn := hI.1
    obtain ⟨y1, σ1, τ1, ρ1, e1, e2, hX, hI1, r1⟩ := op_first (hC.le (e := 8) (by omega)) hI (by omega)
    have ex : size - x - 1 = size - (x + 1) := by omega
    rw [ex] at hI1
    obtain ⟨y2, σ2, τ2, ρ2, g1, g2, hX2, hI2, r2⟩ := ih m1 m2 ρ1 σ1 τ1 y1 (x + 1) (by omega) (by omega) (by omega) (by omega) (hC.sx hX (by omega)) hI1
    refine ⟨y2, σ2, τ2, ρ2, ?_, ?_, (hX.tr hX2).le (by omega), hI2, r1.tr r2⟩
    · conv => lhs; unfold Pool_takeMany_L6
      simp (disch := omega) only [↓jn_e, ↓ite_y, ↓ite_n, ↓oadd_eq, ↓osub_eq, ↓omul_eq, ↓odiv_eq, ↓orem_eq, ↓rd_eq, ↓wr_eq, ↓gf_e, ↓pf_e, ↓bnd_e, ↓bndp_e, ↓opure_e, ↓oif_t, ↓oif_f, ↓E_isPlace_y, ↓E_isPlace_n, ↓E_isNumber_y, ↓E_isNumber_n, ↓M_isPlace_y, ↓M_isPlace_n, ↓M_isNumber_y, ↓M_isNumber_n, ↓M_in_y, ↓M_in_n, ↓us_ne, ↓e1]
      exact g1
    · conv => lhs; unfold M_skips_L49
      simp (disch := omega) only [↓jn_e, ↓ite_y, ↓ite_n, ↓oadd_eq, ↓osub_eq, ↓omul_eq, ↓odiv_eq, ↓orem_eq, ↓rd_eq, ↓wr_eq, ↓gf_e, ↓pf_e, ↓bnd_e, ↓bndp_e, ↓opure_e, ↓oif_t, ↓oif_f, ↓E_isPlace_y, ↓E_isPlace_n, ↓E_isNumber_y, ↓E_isNumber_n, ↓M_isPlace_y, ↓M_isPlace_n, ↓M_isNumber_y, ↓M_isNumber_n, ↓M_in_y, ↓M_in_n, ↓us_ne, ↓e2]
      exact g2
theorem isRange_y {σ : St} {p a b : Int} (h : (0 ≤ p ∧ p < 6) ∧ 0 ≤ a ∧ a ≤ b ∧ b ≤ σ 25 p) : E_isRange σ p a b = some 1 := by
  unfold E_isRange
  simp (disch := omega) only [↓jn_e, ↓ite_y, ↓ite_n, ↓oadd_eq, ↓osub_eq, ↓omul_eq, ↓odiv_eq, ↓orem_eq, ↓rd_eq, ↓wr_eq, ↓gf_e, ↓pf_e, ↓bnd_e, ↓bndp_e, ↓opure_e, ↓oif_t, ↓oif_f, ↓E_isPlace_y, ↓E_isPlace_n, ↓E_isNumber_y, ↓E_isNumber_n, ↓M_isPlace_y, ↓M_isPlace_n, ↓M_isNumber_y, ↓M_isNumber_n, ↓M_in_y, ↓M_in_n, ↓us_ne]
theorem isRange_n {σ : St} {p a b : Int} (h : ¬ ((0 ≤ p ∧ p < 6) ∧ 0 ≤ a ∧ a ≤ b ∧ b ≤ σ 25 p)) : E_isRange σ p a b = some 0 := by
  unfold E_isRange
  by_cases h1 : 0 ≤ p ∧ p < 6
  · by_cases h2 : a < 0
    · simp (disch := omega) only [↓jn_e, ↓ite_y, ↓ite_n, ↓oadd_eq, ↓osub_eq, ↓omul_eq, ↓odiv_eq, ↓orem_eq, ↓rd_eq, ↓wr_eq, ↓gf_e, ↓pf_e, ↓bnd_e, ↓bndp_e, ↓opure_e, ↓oif_t, ↓oif_f, ↓E_isPlace_y, ↓E_isPlace_n, ↓E_isNumber_y, ↓E_isNumber_n, ↓M_isPlace_y, ↓M_isPlace_n, ↓M_isNumber_y, ↓M_isNumber_n, ↓M_in_y, ↓M_in_n, ↓us_ne]
    · by_cases h3 : b < a
      · simp (disch := omega) only [↓jn_e, ↓ite_y, ↓ite_n, ↓oadd_eq, ↓osub_eq, ↓omul_eq, ↓odiv_eq, ↓orem_eq, ↓rd_eq, ↓wr_eq, ↓gf_e, ↓pf_e, ↓bnd_e, ↓bndp_e, ↓opure_e, ↓oif_t, ↓oif_f, ↓E_isPlace_y, ↓E_isPlace_n, ↓E_isNumber_y, ↓E_isNumber_n, ↓M_isPlace_y, ↓M_isPlace_n, ↓M_isNumber_y, ↓M_isNumber_n, ↓M_in_y, ↓M_in_n, ↓us_ne]
      · simp (disch := omega) only [↓jn_e, ↓ite_y, ↓ite_n, ↓oadd_eq, ↓osub_eq, ↓omul_eq, ↓odiv_eq, ↓orem_eq, ↓rd_eq, ↓wr_eq, ↓gf_e, ↓pf_e, ↓bnd_e, ↓bndp_e, ↓opure_e, ↓oif_t, ↓oif_f, ↓E_isPlace_y, ↓E_isPlace_n, ↓E_isNumber_y, ↓E_isNumber_n, ↓M_isPlace_y, ↓M_isPlace_n, ↓M_isNumber_y, ↓M_isNumber_n, ↓M_in_y, ↓M_in_n, ↓us_ne]
  · simp (disch := omega) only [↓jn_e, ↓ite_y, ↓ite_n, ↓oadd_eq, ↓osub_eq, ↓omul_eq, ↓odiv_eq, ↓orem_eq, ↓rd_eq, ↓wr_eq, ↓gf_e, ↓pf_e, ↓bnd_e, ↓bndp_e, ↓opure_e, ↓oif_t, ↓oif_f, ↓E_isPlace_y, ↓E_isPlace_n, ↓E_isNumber_y, ↓E_isNumber_n, ↓M_isPlace_y, ↓M_isPlace_n, ↓M_isNumber_y, ↓M_isNumber_n, ↓M_in_y, ↓M_in_n, ↓us_ne]
theorem call_skips : HS_21 SS := by
  intro k σ τ z0 z1 z2 hk hS i0 i1 i2
  have hS0 := hS
  obtain ⟨⟨ρ, hW⟩, hT, hr, hn, hm⟩ := hS
  have hmc := hm.c hk
  unfold E_skips M_skips
  by_cases a : 0 ≤ z0 ∧ z0 < 6
  · have s0 := (hW.2.2 z0 a.1 a.2).2.1
    have n0 := (hW.2.2 z0 a.1 a.2).1
    by_cases b : 0 ≤ z1 ∧ z1 ≤ σ 25 z0
    · have b1 : E_isRange σ z0 0 z1 = some 1 := isRange_y (by omega)
      have b2 : M_in z1 0 (τ 3 z0) = some 1 := M_in_y (by omega)
      by_cases c : 0 ≤ z2 ∧ z2 < 6
      · obtain ⟨σ1, ρ1, τ1, τ2, e1, e2, e3, hW1, hC, h6, h7, f1, g1, r1, m1, m2⟩ := open_ex (hW.sc (f := 33) (v := 0) (by decide)) (by rw [us_ne (by decide)]; exact hmc) a
        have q2 : σ1 25 z0 = σ 25 z0 := by rw [f1 25 (by decide)]
        have e0 : σ1 25 z0 - 0 = σ1 25 z0 := by omega
        rw [← e0] at h7
        obtain ⟨y, σ3, τ3, ρ3, e4, e5, hX, hI, r3⟩ := skips_loop (fun (s10 : St) => bnd (M_ends s10 z2) fun v12 s13 => some (v12, s13)) z1 (σ1 25 z0) (by omega) z1.toNat FU FU ρ1 σ1 τ2 (σ1 24 z0) 0 (by omega) (by omega) (by unfold FU; omega) (by unfold FU; omega) (hC.le (by omega)) h7
        obtain ⟨σ4, τ4, e7, e8, hW4, f4, g4, k1, k2, k3⟩ := close_ex hW1 hX (by omega) r3 (by decide) hI c ⟨by rw [f1 32 (by decide)], m1, m2⟩ hmc.2
        have q3 : σ3 25 z0 = σ1 25 z0 := by rw [hX.2.2.2.2.2.1 25 (by decide)]
        rw [← q3] at e7
        have e4 : Pool_takeMany σ1 (σ1 24 z0) (σ1 25 z0) z1 2 = some (y, σ3) := e4
        refine ⟨σ4 32 0 - σ 32 0, σ4, τ4, ?_, ?_, hS0.fin hW4 ((f1.mono (by decide)).tr ((hX.2.2.2.2.2.1.mono (by decide)).tr (f4.mono (by decide)))) (((fr_sc [33] τ 33 0 (by decide)).mono (by decide)).tr ((g1.mono (by decide)).tr ((hX.2.2.2.2.2.2.1.mono (by decide)).tr (g4.mono (by decide))))) k1 ⟨k2, k3⟩⟩
        · simp (disch := omega) only [↓jn_e, ↓ite_y, ↓ite_n, ↓oadd_eq, ↓osub_eq, ↓omul_eq, ↓odiv_eq, ↓orem_eq, ↓rd_eq, ↓wr_eq, ↓gf_e, ↓pf_e, ↓bnd_e, ↓bndp_e, ↓opure_e, ↓oif_t, ↓oif_f, ↓E_isPlace_y, ↓E_isPlace_n, ↓E_isNumber_y, ↓E_isNumber_n, ↓M_isPlace_y, ↓M_isPlace_n, ↓M_isNumber_y, ↓M_isNumber_n, ↓M_in_y, ↓M_in_n, ↓us_ne, ↓b1, ↓e1, ↓e4, ↓e7]
        · simp (disch := omega) only [↓jn_e, ↓ite_y, ↓ite_n, ↓oadd_eq, ↓osub_eq, ↓omul_eq, ↓odiv_eq, ↓orem_eq, ↓rd_eq, ↓wr_eq, ↓gf_e, ↓pf_e, ↓bnd_e, ↓bndp_e, ↓opure_e, ↓oif_t, ↓oif_f, ↓E_isPlace_y, ↓E_isPlace_n, ↓E_isNumber_y, ↓E_isNumber_n, ↓M_isPlace_y, ↓M_isPlace_n, ↓M_isNumber_y, ↓M_isNumber_n, ↓M_in_y, ↓M_in_n, ↓us_ne, ↓b2, ↓e2, ↓e3, ↓e5, ↓e8]
      · refine ⟨-1, σ, us τ 33 0 0, ?_, ?_, hS0.thr⟩
        · simp (disch := omega) only [↓jn_e, ↓ite_y, ↓ite_n, ↓oadd_eq, ↓osub_eq, ↓omul_eq, ↓odiv_eq, ↓orem_eq, ↓rd_eq, ↓wr_eq, ↓gf_e, ↓pf_e, ↓bnd_e, ↓bndp_e, ↓opure_e, ↓oif_t, ↓oif_f, ↓E_isPlace_y, ↓E_isPlace_n, ↓E_isNumber_y, ↓E_isNumber_n, ↓M_isPlace_y, ↓M_isPlace_n, ↓M_isNumber_y, ↓M_isNumber_n, ↓M_in_y, ↓M_in_n, ↓us_ne, ↓b1]
        · simp (disch := omega) only [↓jn_e, ↓ite_y, ↓ite_n, ↓oadd_eq, ↓osub_eq, ↓omul_eq, ↓odiv_eq, ↓orem_eq, ↓rd_eq, ↓wr_eq, ↓gf_e, ↓pf_e, ↓bnd_e, ↓bndp_e, ↓opure_e, ↓oif_t, ↓oif_f, ↓E_isPlace_y, ↓E_isPlace_n, ↓E_isNumber_y, ↓E_isNumber_n, ↓M_isPlace_y, ↓M_isPlace_n, ↓M_isNumber_y, ↓M_isNumber_n, ↓M_in_y, ↓M_in_n, ↓us_ne, ↓b2]
    · have b1 : E_isRange σ z0 0 z1 = some 0 := isRange_n (by omega)
      have b2 : M_in z1 0 (τ 3 z0) = some 0 := M_in_n (by omega)
      refine ⟨-1, σ, us τ 33 0 0, ?_, ?_, hS0.thr⟩
      · simp (disch := omega) only [↓jn_e, ↓ite_y, ↓ite_n, ↓oadd_eq, ↓osub_eq, ↓omul_eq, ↓odiv_eq, ↓orem_eq, ↓rd_eq, ↓wr_eq, ↓gf_e, ↓pf_e, ↓bnd_e, ↓bndp_e, ↓opure_e, ↓oif_t, ↓oif_f, ↓E_isPlace_y, ↓E_isPlace_n, ↓E_isNumber_y, ↓E_isNumber_n, ↓M_isPlace_y, ↓M_isPlace_n, ↓M_isNumber_y, ↓M_isNumber_n, ↓M_in_y, ↓M_in_n, ↓us_ne, ↓b1]
      · simp (disch := omega) only [↓jn_e, ↓ite_y, ↓ite_n, ↓oadd_eq, ↓osub_eq, ↓omul_eq, ↓odiv_eq, ↓orem_eq, ↓rd_eq, ↓wr_eq, ↓gf_e, ↓pf_e, ↓bnd_e, ↓bndp_e, ↓opure_e, ↓oif_t, ↓oif_f, ↓E_isPlace_y, ↓E_isPlace_n, ↓E_isNumber_y, ↓E_isNumber_n, ↓M_isPlace_y, ↓M_isPlace_n, ↓M_isNumber_y, ↓M_isNumber_n, ↓M_in_y, ↓M_in_n, ↓us_ne, ↓b2]
  · have b1 : E_isRange σ z0 0 z1 = some 0 := isRange_n (by omega)
    refine ⟨-1, σ, us τ 33 0 0, ?_, ?_, hS0.thr⟩
    · simp (disch := omega) only [↓jn_e, ↓ite_y, ↓ite_n, ↓oadd_eq, ↓osub_eq, ↓omul_eq, ↓odiv_eq, ↓orem_eq, ↓rd_eq, ↓wr_eq, ↓gf_e, ↓pf_e, ↓bnd_e, ↓bndp_e, ↓opure_e, ↓oif_t, ↓oif_f, ↓E_isPlace_y, ↓E_isPlace_n, ↓E_isNumber_y, ↓E_isNumber_n, ↓M_isPlace_y, ↓M_isPlace_n, ↓M_isNumber_y, ↓M_isNumber_n, ↓M_in_y, ↓M_in_n, ↓us_ne, ↓b1]
    · simp (disch := omega) only [↓jn_e, ↓ite_y, ↓ite_n, ↓oadd_eq, ↓osub_eq, ↓omul_eq, ↓odiv_eq, ↓orem_eq, ↓rd_eq, ↓wr_eq, ↓gf_e, ↓pf_e, ↓bnd_e, ↓bndp_e, ↓opure_e, ↓oif_t, ↓oif_f, ↓E_isPlace_y, ↓E_isPlace_n, ↓E_isNumber_y, ↓E_isNumber_n, ↓M_isPlace_y, ↓M_isPlace_n, ↓M_isNumber_y, ↓M_isNumber_n, ↓M_in_y, ↓M_in_n, ↓us_ne]
theorem heaps_loop (K : St → Option (Int × St)) (u : Int → Int) (N : Int) (hN : 0 ≤ N ∧ N ≤ 255) (hu : ∀ z, 0 ≤ z → z < N → -999 ≤ u z ∧ u z ≤ 999) : ∀ (r m1 m2 : Nat) (ρ : Int → Int → Prop) (σ τ : St) (y x : Int), x + r = N → 0 ≤ x → r < m1 → r < m2 → Cx ρ σ τ (12 * (r : Int)) → RI ρ σ τ y x 7 →
    (∀ z, 0 ≤ z → z < N → σ 26 z = u z) → τ 3 8 = N → (∀ z, 0 ≤ z → z < N → τ 1 (256 * 8 + z) = u z) →
    ∃ y' σ' τ' ρ', Pool_putAll_one_L6 0 N 4 m1 σ y x = some (y', σ') ∧ M_heaps_L42 K m2 τ x = K τ' ∧ Sx ρ σ τ ρ' σ' τ' (12 * (r : Int)) ∧ RI ρ' σ' τ' y' N 7 ∧ Rws [6, 7] τ τ' := by
  intro r
  induction r with
  | zero =>
    intro m1 m2 ρ σ τ y x h1 h0 h2 h3 hC hI k1 k2 k3
    cases m1 with
    | zero => omega
    | succ m1 =>
    cases m2 with
    | zero => omega
    | succ m2 =>
    have e : x = N := by omega
    refine ⟨y, σ, τ, ρ, ?_, ?_, (Sx.rf hC.1 hC.2.1 (Fr.rf _ _) rfl).le (by omega), e ▸ hI, Rws.rf _ _⟩
    · unfold Pool_putAll_one_L6
      simp (disch := omega) only [↓jn_e, ↓ite_y, ↓ite_n, ↓oadd_eq, ↓osub_eq, ↓omul_eq, ↓odiv_eq, ↓orem_eq, ↓rd_eq, ↓wr_eq, ↓gf_e, ↓pf_e, ↓bnd_e, ↓bndp_e, ↓opure_e, ↓oif_t, ↓oif_f, ↓E_isPlace_y, ↓E_isPlace_n, ↓E_isNumber_y, ↓E_isNumber_n, ↓M_isPlace_y, ↓M_isPlace_n, ↓M_isNumber_y, ↓M_isNumber_n, ↓M_in_y, ↓M_in_n, ↓us_ne]
    · unfold M_heaps_L42
      simp (disch := omega) only [↓jn_e, ↓ite_y, ↓ite_n, ↓oadd_eq, ↓osub_eq, ↓omul_eq, ↓odiv_eq, ↓orem_eq, ↓rd_eq, ↓wr_eq, ↓gf_e, ↓pf_e, ↓bnd_e, ↓bndp_e, ↓opure_e, ↓oif_t, ↓oif_f, ↓E_isPlace_y, ↓E_isPlace_n, ↓E_isNumber_y, ↓E_isNumber_n, ↓M_isPlace_y, ↓M_isPlace_n, ↓M_isNumber_y, ↓M_isNumber_n, ↓M_in_y, ↓M_in_n, ↓us_ne]
  | succ r ih =>
    intro m1 m2 ρ σ τ y x h1 h0 h2 h3 hC hI k1 k2 k3
    cases m1 with
    | zero => omega
    | succ m1 =>
    cases m2 with
    | zero => omega
    | succ m2 =>
    have hn := hI.1
    obtain ⟨y1, σ1, τ1, ρ1, e1, e2, hX, hI1, r1⟩ := op_push (v := u x) (hC.le (e := 12) (by omega)) hI (by omega) (hu x h0 (by omega))
    obtain ⟨y2, σ2, τ2, ρ2, g1, g2, hX2, hI2, r2⟩ := ih m1 m2 ρ1 σ1 τ1 y1 (x + 1) (by omega) (by omega) (by omega) (by omega) (hC.sx hX (by omega)) hI1
      (fun z z0 zn => by rw [hX.2.2.2.2.2.1 26 (by decide)]; exact k1 z z0 zn) ((r1.2 8 (by decide)).trans k2) (fun z z0 zn => (r1.at (r := 8) (by decide) (by omega)).1.trans (k3 z z0 zn))
    have e0 : (0 : Int) + x = x := by omega
    have n1 : M_number τ 8 x = some (u x) := by rw [M_number_eq (by omega) (by omega), k3 x h0 (by omega)]
    have n2 := k1 x h0 (by omega)
    refine ⟨y2, σ2, τ2, ρ2, ?_, ?_, (hX.tr hX2).le (by omega), hI2, r1.tr r2⟩
    · conv => lhs; unfold Pool_putAll_one_L6
      rw [if_pos (by omega), rd_eq (by omega), n2, oadd_eq (by omega), e0, e1, bnd_eq, oadd_eq (by omega)]
      exact g1
    · conv => lhs; unfold M_heaps_L42
      simp (disch := omega) only [↓jn_e, ↓ite_y, ↓ite_n, ↓oadd_eq, ↓osub_eq, ↓omul_eq, ↓odiv_eq, ↓orem_eq, ↓rd_eq, ↓wr_eq, ↓gf_e, ↓pf_e, ↓bnd_e, ↓bndp_e, ↓opure_e, ↓oif_t, ↓oif_f, ↓E_isPlace_y, ↓E_isPlace_n, ↓E_isNumber_y, ↓E_isNumber_n, ↓M_isPlace_y, ↓M_isPlace_n, ↓M_isNumber_y, ↓M_isNumber_n, ↓M_in_y, ↓M_in_n, ↓us_ne, ↓n1, ↓e2]
      exact g2
theorem call_heaps : HS_33 SS := by
  intro k σ τ z0 z1 hk hS i0 i1
  have hS0 := hS
  obtain ⟨⟨ρ, hW⟩, hT, hr, hn, hm⟩ := hS
  have hmc := hm.c hk
  unfold E_heaps M_heaps
  by_cases a : 0 ≤ z0 ∧ z0 < 6
  · have s0 := (hW.2.2 z0 a.1 a.2).2.1
    have n0 := (hW.2.2 z0 a.1 a.2).1
    by_cases c : 0 ≤ z1 ∧ z1 < 6
    · obtain ⟨σ1, ρ1, e1, hW1, hf, f1⟩ := begin_ex hW
      have q2 : σ1 25 z0 = σ 25 z0 := by rw [f1 25 (by decide)]
      have h32 : σ1 32 0 = σ 32 0 := by rw [f1 32 (by decide)]
      obtain ⟨σ2, e2, f2, c2⟩ := read_one_eq σ1 (σ1 24 z0) (σ1 25 z0) (by omega)
      have hP := hW1.2.2 z0 a.1 a.2
      obtain ⟨τ1, d1, g1, r1, s1, c1⟩ := takes_ex (us τ 33 0 0) z0 8 (by omega) (by omega) (by rw [us_ne (by decide)]; omega)
      rw [us_ne (by decide)] at s1 c1
      have hp30 : τ1 30 0 = τ 30 0 := by rw [g1 30 (by decide), us_ne (by decide)]
      obtain ⟨τ2, hτ2⟩ : ∃ τ2, τ2 = us (us τ1 34 0 (τ1 30 0)) 3 7 0 := ⟨_, rfl⟩
      have gτ : Fr [1, 2, 3, 33, 34] τ τ2 := by
        rw [hτ2]
        exact (((fr_sc _ τ 33 0 (by decide)).tr (g1.mono (by decide))).us (by decide)).us (by decide)
      have rτ : Rws [7, 8] τ τ2 := by
        rw [hτ2]
        have ra : Rws [7, 8] τ τ1 := (Rws.of (us_f (by decide)) (us_f (by decide)) (us_f (by decide))).tr (r1.mono (by decide))
        refine ra.tr ⟨fun q _ => ⟨?_, ?_⟩, fun p hp => ?_⟩
        · rw [us_ne (by decide), us_ne (by decide)]
        · rw [us_ne (by decide), us_ne (by decide)]
        · rw [us_ni (fun e => hp (by rw [e]; decide)), us_ne (by decide)]
      have t30 : τ2 30 0 = τ 30 0 := by rw [gτ 30 (by decide)]
      have t34 : τ2 34 0 = τ 30 0 := by rw [hτ2, us_ne (by decide), us_eq]; omega
      have hW2 : Wd ρ1 σ2 τ2 := hW1.mv f2 (by decide) rτ (by decide) t30
      have hI0 : RI ρ1 σ2 τ2 0 0 7 := ⟨by omega, by rw [hτ2, us_eq], TW.zero _, fun x x0 xn => by omega⟩
      have hC : Cx ρ1 σ2 τ2 4096 := ⟨hW2.1, hW2.2.1, by rw [f2 31 (by decide)]; exact hf, by rw [f2 32 (by decide)]; omega, by omega⟩
      have n1 : σ2 25 z0 = σ 25 z0 := by rw [f2 25 (by decide)]; exact q2
      have hu : ∀ z, 0 ≤ z → z < σ 25 z0 → -999 ≤ τ 1 (256 * z0 + z) ∧ τ 1 (256 * z0 + z) ≤ 999 := fun z z1 z2 => (hP.num (x := z) (by omega)).2
      have t38 : τ2 3 8 = σ 25 z0 := by rw [hτ2, us_ni (by decide), us_ne (by decide), s1]; exact s0
      obtain ⟨y, σ3, τ3, ρ3, e4, e5, hX, hI, r3⟩ := heaps_loop (fun (s9 : St) => bnd (M_ends s9 z1) fun v11 s12 => some (v11, s12)) (fun z => τ 1 (256 * z0 + z)) (σ 25 z0) n0 hu (σ 25 z0).toNat FU FU ρ1 σ2 τ2 0 0 (by omega) (by omega) (by unfold FU; omega) (by unfold FU; omega) (hC.le (by omega)) hI0
        (fun z z1 z2 => by rw [c2 z z1 (by omega)]; exact (hP.num (x := z) (by omega)).1) t38
        (fun z z1 z2 => by rw [hτ2, us_ne (by decide), us_ne (by decide), (c1 z z1 (by omega)).1, us_ne (by decide)])
      obtain ⟨σ4, τ4, e7, e8, hW4, f4, g4, k1, k2, k3⟩ := close_ex (c := σ 32 0) hW2 hX (by omega) r3 (by decide) hI c ⟨by rw [f2 32 (by decide)]; exact h32, by omega, by omega⟩ hmc.2
      have q3 : σ3 25 z0 = σ 25 z0 := by rw [hX.2.2.2.2.2.1 25 (by decide)]; exact n1
      have e4 : Pool_putAll_one σ2 0 0 (σ 25 z0) 4 = some (y, σ3) := e4
      rw [← n1] at e4
      rw [← q3] at e7
      have e6 : M_begins τ1 = some (0, us τ1 34 0 (τ1 30 0)) := rfl
      refine ⟨σ4 32 0 - σ 32 0, σ4, τ4, ?_, ?_, hS0.fin hW4 ((f1.mono (by decide)).tr ((f2.mono (by decide)).tr ((hX.2.2.2.2.2.1.mono (by decide)).tr (f4.mono (by decide))))) ((gτ.mono (by decide)).tr ((hX.2.2.2.2.2.2.1.mono (by decide)).tr (g4.mono (by decide)))) k1 ⟨k2, k3⟩⟩
      · simp (disch := omega) only [↓jn_e, ↓ite_y, ↓ite_n, ↓oadd_eq, ↓osub_eq, ↓omul_eq, ↓odiv_eq, ↓orem_eq, ↓rd_eq, ↓wr_eq, ↓gf_e, ↓pf_e, ↓bnd_e, ↓bndp_e, ↓opure_e, ↓oif_t, ↓oif_f, ↓E_isPlace_y, ↓E_isPlace_n, ↓E_isNumber_y, ↓E_isNumber_n, ↓M_isPlace_y, ↓M_isPlace_n, ↓M_isNumber_y, ↓M_isNumber_n, ↓M_in_y, ↓M_in_n, ↓us_ne, ↓e1, ↓e2, ↓e4, ↓e7]
      · simp (disch := omega) only [↓jn_e, ↓ite_y, ↓ite_n, ↓oadd_eq, ↓osub_eq, ↓omul_eq, ↓odiv_eq, ↓orem_eq, ↓rd_eq, ↓wr_eq, ↓gf_e, ↓pf_e, ↓bnd_e, ↓bndp_e, ↓opure_e, ↓oif_t, ↓oif_f, ↓E_isPlace_y, ↓E_isPlace_n, ↓E_isNumber_y, ↓E_isNumber_n, ↓M_isPlace_y, ↓M_isPlace_n, ↓M_isNumber_y, ↓M_isNumber_n, ↓M_in_y, ↓M_in_n, ↓us_ne, ↓d1, ↓e6, ← hτ2, ↓e5, ↓e8]
    · refine ⟨-1, σ, us τ 33 0 0, ?_, ?_, hS0.thr⟩
      · simp (disch := omega) only [↓jn_e, ↓ite_y, ↓ite_n, ↓oadd_eq, ↓osub_eq, ↓omul_eq, ↓odiv_eq, ↓orem_eq, ↓rd_eq, ↓wr_eq, ↓gf_e, ↓pf_e, ↓bnd_e, ↓bndp_e, ↓opure_e, ↓oif_t, ↓oif_f, ↓E_isPlace_y, ↓E_isPlace_n, ↓E_isNumber_y, ↓E_isNumber_n, ↓M_isPlace_y, ↓M_isPlace_n, ↓M_isNumber_y, ↓M_isNumber_n, ↓M_in_y, ↓M_in_n, ↓us_ne]
      · simp (disch := omega) only [↓jn_e, ↓ite_y, ↓ite_n, ↓oadd_eq, ↓osub_eq, ↓omul_eq, ↓odiv_eq, ↓orem_eq, ↓rd_eq, ↓wr_eq, ↓gf_e, ↓pf_e, ↓bnd_e, ↓bndp_e, ↓opure_e, ↓oif_t, ↓oif_f, ↓E_isPlace_y, ↓E_isPlace_n, ↓E_isNumber_y, ↓E_isNumber_n, ↓M_isPlace_y, ↓M_isPlace_n, ↓M_isNumber_y, ↓M_isNumber_n, ↓M_in_y, ↓M_in_n, ↓us_ne]
  · refine ⟨-1, σ, us τ 33 0 0, ?_, ?_, hS0.thr⟩
    · simp (disch := omega) only [↓jn_e, ↓ite_y, ↓ite_n, ↓oadd_eq, ↓osub_eq, ↓omul_eq, ↓odiv_eq, ↓orem_eq, ↓rd_eq, ↓wr_eq, ↓gf_e, ↓pf_e, ↓bnd_e, ↓bndp_e, ↓opure_e, ↓oif_t, ↓oif_f, ↓E_isPlace_y, ↓E_isPlace_n, ↓E_isNumber_y, ↓E_isNumber_n, ↓M_isPlace_y, ↓M_isPlace_n, ↓M_isNumber_y, ↓M_isNumber_n, ↓M_in_y, ↓M_in_n, ↓us_ne]
    · simp (disch := omega) only [↓jn_e, ↓ite_y, ↓ite_n, ↓oadd_eq, ↓osub_eq, ↓omul_eq, ↓odiv_eq, ↓orem_eq, ↓rd_eq, ↓wr_eq, ↓gf_e, ↓pf_e, ↓bnd_e, ↓bndp_e, ↓opure_e, ↓oif_t, ↓oif_f, ↓E_isPlace_y, ↓E_isPlace_n, ↓E_isNumber_y, ↓E_isNumber_n, ↓M_isPlace_y, ↓M_isPlace_n, ↓M_isNumber_y, ↓M_isNumber_n, ↓M_in_y, ↓M_in_n, ↓us_ne]

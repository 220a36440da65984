-- MATH 30: calls that build: reverses, slips, zips, picks, merges
theorem revE_loop {K : St → Option (Int × St)} {n : Int} (hn : 0 ≤ n ∧ n ≤ 255) (σ : St) : ∀ (r m : Nat) (s : St) (x : Int), x + r = n → 0 ≤ x → r < m → Fr [28] σ s → (∀ z, 0 ≤ z → z < x → s 28 z = σ 26 (n - 1 - z)) → ∃ s2, E_reverses_L44 K n m s x = K s2 ∧ Fr [28] σ s2 ∧ (∀ z, 0 ≤ z → z < n → s2 28 z = σ 26 (n - 1 - z)) := by
  intro r
  induction r with
  | zero =>
    intro m s x h1 h0 h2 hF hz
    cases m with
    | zero => omega
    | succ m =>
    unfold E_reverses_L44
    rw [if_neg (by omega)]
    exact ⟨s, rfl, hF, fun z a b => hz z a (by omega)⟩
  | succ r ih =>
    intro m s x h1 h0 h2 hF hz
    cases m with
    | zero => omega
    | succ m =>
    obtain ⟨s2, x1, x2⟩ := ih m (us s 28 x (σ 26 (n - 1 - x))) (x + 1) (by omega) (by omega) (by omega) (hF.us (by decide)) (fun z z0 zn => by
      by_cases e : z = x
      · rw [e, us_eq]
      · rw [us_ni e]; exact hz z z0 (by omega))
    refine ⟨s2, ?_, x2⟩
    unfold E_reverses_L44
    rw [if_pos (by omega), osub_eq (by omega), osub_eq (by omega), rd_eq (by omega), hF 26 (by decide), wr_eq (by omega), oadd_eq (by omega)]
    exact x1
theorem revM_loop {K : St → Option (Int × St)} {n : Int} (hn : 0 ≤ n ∧ n ≤ 255) (τ : St) (h6 : τ 3 6 = n) (h7 : τ 3 7 = n) : ∀ (r m : Nat) (s : St) (x : Int), x + r = n → 0 ≤ x → r < m → Fr [1] τ s → (∀ q, ¬ (256 * 7 ≤ q ∧ q < 256 * 7 + x) → s 1 q = τ 1 q) → (∀ z, 0 ≤ z → z < x → s 1 (256 * 7 + z) = τ 1 (256 * 6 + (n - 1 - z))) →
      ∃ s2, M_reverses_L28 K m s x = K s2 ∧ Fr [1] τ s2 ∧ (∀ q, ¬ (256 * 7 ≤ q ∧ q < 256 * 7 + n) → s2 1 q = τ 1 q) ∧ (∀ z, 0 ≤ z → z < n → s2 1 (256 * 7 + z) = τ 1 (256 * 6 + (n - 1 - z))) := by
  intro r
  induction r with
  | zero =>
    intro m s x h1 h0 h2 hF hq hz
    cases m with
    | zero => omega
    | succ m =>
    have e : x = n := by omega
    subst e
    unfold M_reverses_L28
    rw [rd_eq (by omega), hF 3 (by decide), h7, if_neg (by omega)]
    exact ⟨s, rfl, hF, hq, hz⟩
  | succ r ih =>
    intro m s x h1 h0 h2 hF hq hz
    cases m with
    | zero => omega
    | succ m =>
    have nM : M_number s 6 (n - 1 - x) = some (τ 1 (256 * 6 + (n - 1 - x))) := by rw [M_number_eq (by omega) (by omega), hq _ (by omega)]
    obtain ⟨s2, x1, x2⟩ := ih m (us s 1 (1792 + x) (τ 1 (256 * 6 + (n - 1 - x)))) (x + 1) (by omega) (by omega) (by omega) (hF.us (by decide)) (fun q w => by
      rw [us_ni (by omega)]; exact hq q (by omega)) (fun z z0 zn => by
      by_cases e : z = x
      · rw [e]; exact us_eq _ _ _ _
      · rw [us_ni (by omega)]; exact hz z z0 (by omega))
    refine ⟨s2, ?_, x2⟩
    unfold M_reverses_L28
    rw [rd_eq (by omega), hF 3 (by decide), h7, if_pos (by omega), oadd_eq (by omega), rd_eq (by omega), hF 3 (by decide), h6, osub_eq (by omega), osub_eq (by omega), nM, bndp_eq, wr_eq (by omega), oadd_eq (by omega)]
    exact x1
theorem call_reverses : HS_19 SS := by
  intro k σ τ z0 z1 hk hS i0 i1
  have hS0 := hS
  obtain ⟨⟨ρ, hW⟩, hT, hr, hn, hm⟩ := hS
  unfold E_reverses M_reverses
  by_cases a : 0 ≤ z0 ∧ z0 < 6
  · have hP := hW.2.2 z0 a.1 a.2
    have s0 := hP.2.1
    have n0 := hP.1
    by_cases c : 0 ≤ z1 ∧ z1 < 6
    · obtain ⟨sa, e1, f1, c1⟩ := read_one_eq σ (σ 24 z0) (σ 25 z0) n0
      obtain ⟨sb, e2, f2, c2⟩ := revE_loop (K := fun (s7 : St) => bnd (E_build s7 z1 (σ 25 z0)) fun v9 s10 => some (v9, s10)) n0 sa (σ 25 z0).toNat FU sa 0 (by omega) (by omega) (by unfold FU; omega) (Fr.rf _ _) (fun z p q => by omega)
      obtain ⟨τa, d1, g1, r1, t6, t7, q6, q7⟩ := asks_ex (us τ 33 0 0) z0 a (by rw [us_ne (by decide)]; omega)
      rw [us_ne (by decide), s0] at t6 t7 q6 q7
      obtain ⟨τb, d2, g2, r2, q2⟩ := revM_loop (K := fun (s6 : St) => bnd (M_built s6) fun _ s9 => bnd (M_takes s9 7 z1) fun _ s11 => rd s11 3 10 z1 fun v12 => some (v12, s11)) n0 τa t6 t7 (σ 25 z0).toNat FU τa 0 (by omega) (by omega) (by unfold FU; omega) (Fr.rf _ _) (fun _ _ => rfl) (fun z p q => by omega)
      have rb : Rws [7] τa τb := ⟨fun q hq => ⟨r2 q (by have := hq 7 (by decide); omega), by rw [g2 2 (by decide)]⟩, fun p _ => by rw [g2 3 (by decide)]⟩
      have hS7 : SS k sb τb := hS0.asq0 ((f1.mono (by decide)).tr (f2.mono (by decide))) (((fr_sc [33] τ 33 0 (by decide)).mono (by decide)).tr ((g1.mono (by decide)).tr (g2.mono (by decide)))) ((Rws.fr (fr_sc [33] _ _ _ (by decide)) (by decide) (by decide) (by decide) _).tr ((r1.mono (by decide)).tr (rb.mono (by decide))))
      obtain ⟨σ4, τ1, τ4, y1, y2, y3, y4, y5⟩ := build_ex (p := z1) hS7 hk n0 (by rw [g2 3 (by decide)]; exact t7) (fun x x0 xn => by
        have w := hP.num (x := σ 25 z0 - 1 - x) ⟨by omega, by omega⟩
        rw [c2 x x0 xn, c1 _ (by omega) (by omega), q2 x x0 xn, (q6 _ (by omega) (by omega)).1, us_ne (by decide)]
        exact w) c
      refine ⟨σ 25 z0, σ4, τ4, ?_, ?_, y5⟩
      · simp (disch := omega) only [↓jn_e, ↓ite_y, ↓ite_n, ↓oadd_eq, ↓osub_eq, ↓omul_eq, ↓odiv_eq, ↓orem_eq, ↓rd_eq, ↓wr_eq, ↓gf_e, ↓pf_e, ↓bnd_e, ↓bndp_e, ↓opure_e, ↓oif_t, ↓oif_f, ↓E_isPlace_y, ↓E_isPlace_n, ↓E_isNumber_y, ↓E_isNumber_n, ↓M_isPlace_y, ↓M_isPlace_n, ↓M_isNumber_y, ↓M_isNumber_n, ↓M_in_y, ↓M_in_n, ↓us_ne, ↓e1]
        refine e2.trans ?_
        simp (disch := omega) only [↓jn_e, ↓ite_y, ↓ite_n, ↓oadd_eq, ↓osub_eq, ↓omul_eq, ↓odiv_eq, ↓orem_eq, ↓rd_eq, ↓wr_eq, ↓gf_e, ↓pf_e, ↓bnd_e, ↓bndp_e, ↓opure_e, ↓oif_t, ↓oif_f, ↓E_isPlace_y, ↓E_isPlace_n, ↓E_isNumber_y, ↓E_isNumber_n, ↓M_isPlace_y, ↓M_isPlace_n, ↓M_isNumber_y, ↓M_isNumber_n, ↓M_in_y, ↓M_in_n, ↓us_ne, ↓y1]
      · rw [pf_eq, M_isPlace_y a, bndp_eq, if_neg (by decide), M_isPlace_y c, bndp_eq, if_neg (by decide), d1, bnd_eq, jn_eq]
        refine d2.trans ?_
        simp (disch := omega) only [↓jn_e, ↓ite_y, ↓ite_n, ↓oadd_eq, ↓osub_eq, ↓omul_eq, ↓odiv_eq, ↓orem_eq, ↓rd_eq, ↓wr_eq, ↓gf_e, ↓pf_e, ↓bnd_e, ↓bndp_e, ↓opure_e, ↓oif_t, ↓oif_f, ↓E_isPlace_y, ↓E_isPlace_n, ↓E_isNumber_y, ↓E_isNumber_n, ↓M_isPlace_y, ↓M_isPlace_n, ↓M_isNumber_y, ↓M_isNumber_n, ↓M_in_y, ↓M_in_n, ↓us_ne, ↓y2, ↓y3, y4]
    · refine ⟨-1, σ, us τ 33 0 0, ?_, ?_, hS0.thr⟩
      · simp (disch := omega) only [↓jn_e, ↓ite_y, ↓ite_n, ↓oadd_eq, ↓osub_eq, ↓omul_eq, ↓odiv_eq, ↓orem_eq, ↓rd_eq, ↓wr_eq, ↓gf_e, ↓pf_e, ↓bnd_e, ↓bndp_e, ↓opure_e, ↓oif_t, ↓oif_f, ↓E_isPlace_y, ↓E_isPlace_n, ↓E_isNumber_y, ↓E_isNumber_n, ↓M_isPlace_y, ↓M_isPlace_n, ↓M_isNumber_y, ↓M_isNumber_n, ↓M_in_y, ↓M_in_n, ↓us_ne]
      · simp (disch := omega) only [↓jn_e, ↓ite_y, ↓ite_n, ↓oadd_eq, ↓osub_eq, ↓omul_eq, ↓odiv_eq, ↓orem_eq, ↓rd_eq, ↓wr_eq, ↓gf_e, ↓pf_e, ↓bnd_e, ↓bndp_e, ↓opure_e, ↓oif_t, ↓oif_f, ↓E_isPlace_y, ↓E_isPlace_n, ↓E_isNumber_y, ↓E_isNumber_n, ↓M_isPlace_y, ↓M_isPlace_n, ↓M_isNumber_y, ↓M_isNumber_n, ↓M_in_y, ↓M_in_n, ↓us_ne]
  · refine ⟨-1, σ, us τ 33 0 0, ?_, ?_, hS0.thr⟩
    · simp (disch := omega) only [↓jn_e, ↓ite_y, ↓ite_n, ↓oadd_eq, ↓osub_eq, ↓omul_eq, ↓odiv_eq, ↓orem_eq, ↓rd_eq, ↓wr_eq, ↓gf_e, ↓pf_e, ↓bnd_e, ↓bndp_e, ↓opure_e, ↓oif_t, ↓oif_f, ↓E_isPlace_y, ↓E_isPlace_n, ↓E_isNumber_y, ↓E_isNumber_n, ↓M_isPlace_y, ↓M_isPlace_n, ↓M_isNumber_y, ↓M_isNumber_n, ↓M_in_y, ↓M_in_n, ↓us_ne]
    · simp (disch := omega) only [↓jn_e, ↓ite_y, ↓ite_n, ↓oadd_eq, ↓osub_eq, ↓omul_eq, ↓odiv_eq, ↓orem_eq, ↓rd_eq, ↓wr_eq, ↓gf_e, ↓pf_e, ↓bnd_e, ↓bndp_e, ↓opure_e, ↓oif_t, ↓oif_f, ↓E_isPlace_y, ↓E_isPlace_n, ↓E_isNumber_y, ↓E_isNumber_n, ↓M_isPlace_y, ↓M_isPlace_n, ↓M_isNumber_y, ↓M_isNumber_n, ↓M_in_y, ↓M_in_n, ↓us_ne]
theorem slipsE_loop {K : St → Option (Int × St)} {n i : Int} (hn : 0 ≤ n ∧ n ≤ 254) (hi : 0 ≤ i ∧ i ≤ n) (σ : St) : ∀ (r m : Nat) (s : St) (x : Int), x + r = n → 0 ≤ x → r < m → Fr [28] σ s → (∀ z, 0 ≤ z → z < x → s 28 (if z < i then z else z + 1) = σ 26 z) → ∃ s2, E_slips_L68 K i n m s x = K s2 ∧ Fr [28] σ s2 ∧ (∀ z, 0 ≤ z → z < n → s2 28 (if z < i then z else z + 1) = σ 26 z) := by
  intro r
  induction r with
  | zero =>
    intro m s x h1 h0 h2 hF hz
    cases m with
    | zero => omega
    | succ m =>
    unfold E_slips_L68
    rw [if_neg (by omega)]
    exact ⟨s, rfl, hF, fun z a b => hz z a (by omega)⟩
  | succ r ih =>
    intro m s x h1 h0 h2 hF hz
    cases m with
    | zero => omega
    | succ m =>
    obtain ⟨s2, x1, x2⟩ := ih m (us s 28 (if x < i then x else x + 1) (σ 26 x)) (x + 1) (by omega) (by omega) (by omega) (hF.us (by decide)) (fun z z0 zn => by
      by_cases e : z = x
      · rw [e, us_eq]
      · rw [us_ni (by split <;> split <;> omega)]; exact hz z z0 (by omega))
    refine ⟨s2, ?_, x2⟩
    unfold E_slips_L68
    rw [if_pos (by omega)]
    by_cases w : x < i
    · rw [if_pos w] at x1
      rw [oif_t w (by omega), rd_eq (by omega), hF 26 (by decide), wr_eq (by omega), oadd_eq (by omega)]
      exact x1
    · rw [if_neg w] at x1
      rw [oif_f w (by omega), rd_eq (by omega), hF 26 (by decide), wr_eq (by omega), oadd_eq (by omega)]
      exact x1
theorem slipsM_loop {K : St → Option (Int × St)} {n i : Int} (hn : 0 ≤ n ∧ n ≤ 254) (hi : 0 ≤ i ∧ i ≤ n) (τ : St) : ∀ (r m : Nat) (s : St) (x : Int), x = i + r → x ≤ n → r < m → Fr [1] τ s → (∀ q, ¬ (256 * 7 + x < q ∧ q ≤ 256 * 7 + n) → s 1 q = τ 1 q) → (∀ z, x < z → z ≤ n → s 1 (256 * 7 + z) = τ 1 (256 * 6 + (z - 1))) →
      ∃ s2, M_slips_L74 K i m s x = K s2 ∧ Fr [1] τ s2 ∧ (∀ q, ¬ (256 * 7 + i < q ∧ q ≤ 256 * 7 + n) → s2 1 q = τ 1 q) ∧ (∀ z, i < z → z ≤ n → s2 1 (256 * 7 + z) = τ 1 (256 * 6 + (z - 1))) := by
  intro r
  induction r with
  | zero =>
    intro m s x h1 h0 h2 hF hq hz
    cases m with
    | zero => omega
    | succ m =>
    have e : x = i := by omega
    subst e
    unfold M_slips_L74
    rw [if_neg (by omega)]
    exact ⟨s, rfl, hF, hq, hz⟩
  | succ r ih =>
    intro m s x h1 h0 h2 hF hq hz
    cases m with
    | zero => omega
    | succ m =>
    have nM : M_number s 6 (x - 1) = some (τ 1 (256 * 6 + (x - 1))) := by rw [M_number_eq (by omega) (by omega), hq _ (by omega)]
    obtain ⟨s2, x1, x2⟩ := ih m (us s 1 (1792 + x) (τ 1 (256 * 6 + (x - 1)))) (x - 1) (by omega) (by omega) (by omega) (hF.us (by decide)) (fun q w => by
      rw [us_ni (by omega)]; exact hq q (by omega)) (fun z z0 zn => by
      by_cases e : z = x
      · rw [e]; exact us_eq _ _ _ _
      · rw [us_ni (by omega)]; exact hz z (by omega) zn)
    refine ⟨s2, ?_, x2⟩
    unfold M_slips_L74
    have e3 : x + -1 = x - 1 := by omega
    rw [if_pos (by omega), oadd_eq (by omega), osub_eq (by omega), nM, bndp_eq, wr_eq (by omega), oadd_eq (by omega), e3]
    exact x1
theorem call_slips : HS_22 SS := by
  intro k σ τ z0 z1 z2 z3 hk hS i0 i1 i2 i3
  have hS0 := hS
  obtain ⟨⟨ρ, hW⟩, hT, hr, hn, hm⟩ := hS
  unfold E_slips M_slips
  by_cases a : 0 ≤ z0 ∧ z0 < 6
  · have hP := hW.2.2 z0 a.1 a.2
    have s0 := hP.2.1
    have n0 := hP.1
    by_cases b : 0 ≤ z1 ∧ z1 ≤ σ 25 z0
    · have b1 : E_isRange σ z0 0 z1 = some 1 := isRange_y (by omega)
      have b2 : M_in z1 0 (τ 3 z0) = some 1 := M_in_y (by omega)
      by_cases v : -999 ≤ z2 ∧ z2 ≤ 999
      · by_cases c : 0 ≤ z3 ∧ z3 < 6
        · by_cases d : σ 25 z0 = 255
          · refine ⟨-2, σ, us τ 33 0 0, ?_, ?_, hS0.thr⟩
            · simp (disch := omega) only [↓jn_e, ↓ite_y, ↓ite_n, ↓oadd_eq, ↓osub_eq, ↓omul_eq, ↓odiv_eq, ↓orem_eq, ↓rd_eq, ↓wr_eq, ↓gf_e, ↓pf_e, ↓bnd_e, ↓bndp_e, ↓opure_e, ↓oif_t, ↓oif_f, ↓E_isPlace_y, ↓E_isPlace_n, ↓E_isNumber_y, ↓E_isNumber_n, ↓M_isPlace_y, ↓M_isPlace_n, ↓M_isNumber_y, ↓M_isNumber_n, ↓M_in_y, ↓M_in_n, ↓us_ne, ↓b1]
            · simp (disch := omega) only [↓jn_e, ↓ite_y, ↓ite_n, ↓oadd_eq, ↓osub_eq, ↓omul_eq, ↓odiv_eq, ↓orem_eq, ↓rd_eq, ↓wr_eq, ↓gf_e, ↓pf_e, ↓bnd_e, ↓bndp_e, ↓opure_e, ↓oif_t, ↓oif_f, ↓E_isPlace_y, ↓E_isPlace_n, ↓E_isNumber_y, ↓E_isNumber_n, ↓M_isPlace_y, ↓M_isPlace_n, ↓M_isNumber_y, ↓M_isNumber_n, ↓M_in_y, ↓M_in_n, ↓us_ne, ↓b2]
          · obtain ⟨sa, e1, f1, c1⟩ := read_one_eq σ (σ 24 z0) (σ 25 z0) n0
            obtain ⟨sb, e2, f2, c2⟩ := slipsE_loop (i := z1) (K := fun (s8 : St) => wr s8 28 256 z1 z2 fun s10 => oadd (σ 25 z0) 1 fun v11 => bnd (E_build s10 z3 v11) fun v12 s13 => some (v12, s13)) (n := σ 25 z0) (by omega) b sa (σ 25 z0).toNat FU sa 0 (by omega) (by omega) (by unfold FU; omega) (Fr.rf _ _) (fun z p q => by omega)
            obtain ⟨τa, d1, g1, r1, t6, t7, q6, q7⟩ := asks_ex (us τ 33 0 0) z0 a (by rw [us_ne (by decide)]; omega)
            rw [us_ne (by decide), s0] at t6 t7 q6 q7
            obtain ⟨τb, d2, g2, r2, q2⟩ := slipsM_loop (i := z1) (K := fun (s11 : St) => oadd 1792 z1 fun v13 => wr s11 1 2560 v13 z2 fun s14 => rd s14 3 10 7 fun v15 => oadd v15 1 fun v16 => wr s14 3 10 7 v16 fun s17 => bnd (M_built s17) fun _ s19 => bnd (M_takes s19 7 z3) fun _ s21 => rd s21 3 10 z3 fun v22 => some (v22, s21)) (n := σ 25 z0) (by omega) b τa (σ 25 z0 - z1).toNat FU τa (σ 25 z0) (by omega) (by omega) (by unfold FU; omega) (Fr.rf _ _) (fun _ _ => rfl) (fun z p q => by omega)
            have tb7 : τb 3 7 = σ 25 z0 := by rw [g2 3 (by decide)]; exact t7
            obtain ⟨sc, hsc⟩ : ∃ sc, sc = us sb 28 z1 z2 := ⟨_, rfl⟩
            obtain ⟨τc, hτc⟩ : ∃ τc, τc = us (us τb 1 (1792 + z1) z2) 3 7 (σ 25 z0 + 1) := ⟨_, rfl⟩
            have fc : Fr [28] sb sc := by rw [hsc]; exact (Fr.rf _ _).us (by decide)
            have gc : Fr [1, 3] τb τc := by rw [hτc]; exact ((Fr.rf _ _).us (by decide)).us (by decide)
            have rb : Rws [7] τa τb := ⟨fun q hq => ⟨r2 q (by have := hq 7 (by decide); omega), by rw [g2 2 (by decide)]⟩, fun p _ => by rw [g2 3 (by decide)]⟩
            have rc : Rws [7] τb τc := by
              rw [hτc]
              refine ⟨fun q hq => ?_, fun p hp => ?_⟩
              · have := hq 7 (by decide)
                rw [us_ne (by decide), us_ni (by omega), us_ne (by decide), us_ne (by decide)]
                exact ⟨rfl, rfl⟩
              · rw [us_ni (fun e => hp (by rw [e]; decide)), us_ne (by decide)]
            have hS7 : SS k sc τc := hS0.asq0 ((f1.mono (by decide)).tr ((f2.mono (by decide)).tr (fc.mono (by decide)))) (((fr_sc [33] τ 33 0 (by decide)).mono (by decide)).tr ((g1.mono (by decide)).tr ((g2.mono (by decide)).tr (gc.mono (by decide))))) ((Rws.fr (fr_sc [33] _ _ _ (by decide)) (by decide) (by decide) (by decide) _).tr ((r1.mono (by decide)).tr ((rb.mono (by decide)).tr (rc.mono (by decide)))))
            obtain ⟨σ4, τ1, τ4, y1, y2, y3, y4, y5⟩ := build_ex (p := z3) hS7 hk (n := σ 25 z0 + 1) (by omega) (by rw [hτc, us_eq]) (fun x x0 xn => by
              by_cases e : x = z1
              · rw [hsc, hτc, e, us_eq, us_ne (by decide), show (256 * 7 + z1 : Int) = 1792 + z1 by omega, us_eq]
                exact ⟨rfl, v⟩
              · have e9 : τc 1 (256 * 7 + x) = τb 1 (256 * 7 + x) := by rw [hτc, us_ne (by decide), us_ni (by omega)]
                rw [hsc, us_ni e, e9]
                by_cases w : x < z1
                · have h28 := c2 x x0 (by omega)
                  rw [if_pos w] at h28
                  rw [h28, c1 x x0 (by omega), r2 _ (by omega), (q7 x x0 (by omega)).1, us_ne (by decide)]
                  exact hP.num ⟨x0, by omega⟩
                · have h28 := c2 (x - 1) (by omega) (by omega)
                  rw [if_neg (by omega), show x - 1 + 1 = x by omega] at h28
                  rw [h28, c1 _ (by omega) (by omega), q2 x (by omega) (by omega), (q6 _ (by omega) (by omega)).1, us_ne (by decide)]
                  exact hP.num ⟨by omega, by omega⟩) c
            refine ⟨σ 25 z0 + 1, σ4, τ4, ?_, ?_, y5⟩
            · rw [b1, bndp_eq, if_neg (by decide), E_isNumber_y v, bndp_eq, if_neg (by decide), E_isPlace_y c, bndp_eq, if_neg (by decide), rd_eq (by omega), if_neg d, rd_eq (by omega), e1, bnd_eq, jn_eq]
              refine e2.trans ?_
              simp (disch := omega) only [↓jn_e, ↓ite_y, ↓ite_n, ↓oadd_eq, ↓osub_eq, ↓omul_eq, ↓odiv_eq, ↓orem_eq, ↓rd_eq, ↓wr_eq, ↓gf_e, ↓pf_e, ↓bnd_e, ↓bndp_e, ↓opure_e, ↓oif_t, ↓oif_f, ↓E_isPlace_y, ↓E_isPlace_n, ↓E_isNumber_y, ↓E_isNumber_n, ↓M_isPlace_y, ↓M_isPlace_n, ↓M_isNumber_y, ↓M_isNumber_n, ↓M_in_y, ↓M_in_n, ↓us_ne, ← hsc, ↓y1]
            · rw [pf_eq, M_isPlace_y a, bndp_eq, if_neg (by decide), rd_eq (by omega), us_ne (by decide), b2, bndp_eq, if_neg (by decide), M_isNumber_y v, bndp_eq, if_neg (by decide), M_isPlace_y c, bndp_eq, if_neg (by decide), rd_eq (by omega), us_ne (by decide), if_neg (by omega), d1, bnd_eq, rd_eq (by omega), t7, jn_eq]
              refine d2.trans ?_
              simp (disch := omega) only [↓jn_e, ↓ite_y, ↓ite_n, ↓oadd_eq, ↓osub_eq, ↓omul_eq, ↓odiv_eq, ↓orem_eq, ↓rd_eq, ↓wr_eq, ↓gf_e, ↓pf_e, ↓bnd_e, ↓bndp_e, ↓opure_e, ↓oif_t, ↓oif_f, ↓E_isPlace_y, ↓E_isPlace_n, ↓E_isNumber_y, ↓E_isNumber_n, ↓M_isPlace_y, ↓M_isPlace_n, ↓M_isNumber_y, ↓M_isNumber_n, ↓M_in_y, ↓M_in_n, ↓us_ne, tb7, ← hτc, ↓y2, ↓y3, y4]
        · refine ⟨-1, σ, us τ 33 0 0, ?_, ?_, hS0.thr⟩
          · simp (disch := omega) only [↓jn_e, ↓ite_y, ↓ite_n, ↓oadd_eq, ↓osub_eq, ↓omul_eq, ↓odiv_eq, ↓orem_eq, ↓rd_eq, ↓wr_eq, ↓gf_e, ↓pf_e, ↓bnd_e, ↓bndp_e, ↓opure_e, ↓oif_t, ↓oif_f, ↓E_isPlace_y, ↓E_isPlace_n, ↓E_isNumber_y, ↓E_isNumber_n, ↓M_isPlace_y, ↓M_isPlace_n, ↓M_isNumber_y, ↓M_isNumber_n, ↓M_in_y, ↓M_in_n, ↓us_ne, ↓b1]
          · simp (disch := omega) only [↓jn_e, ↓ite_y, ↓ite_n, ↓oadd_eq, ↓osub_eq, ↓omul_eq, ↓odiv_eq, ↓orem_eq, ↓rd_eq, ↓wr_eq, ↓gf_e, ↓pf_e, ↓bnd_e, ↓bndp_e, ↓opure_e, ↓oif_t, ↓oif_f, ↓E_isPlace_y, ↓E_isPlace_n, ↓E_isNumber_y, ↓E_isNumber_n, ↓M_isPlace_y, ↓M_isPlace_n, ↓M_isNumber_y, ↓M_isNumber_n, ↓M_in_y, ↓M_in_n, ↓us_ne, ↓b2]
      · refine ⟨-1, σ, us τ 33 0 0, ?_, ?_, hS0.thr⟩
        · simp (disch := omega) only [↓jn_e, ↓ite_y, ↓ite_n, ↓oadd_eq, ↓osub_eq, ↓omul_eq, ↓odiv_eq, ↓orem_eq, ↓rd_eq, ↓wr_eq, ↓gf_e, ↓pf_e, ↓bnd_e, ↓bndp_e, ↓opure_e, ↓oif_t, ↓oif_f, ↓E_isPlace_y, ↓E_isPlace_n, ↓E_isNumber_y, ↓E_isNumber_n, ↓M_isPlace_y, ↓M_isPlace_n, ↓M_isNumber_y, ↓M_isNumber_n, ↓M_in_y, ↓M_in_n, ↓us_ne, ↓b1]
        · simp (disch := omega) only [↓jn_e, ↓ite_y, ↓ite_n, ↓oadd_eq, ↓osub_eq, ↓omul_eq, ↓odiv_eq, ↓orem_eq, ↓rd_eq, ↓wr_eq, ↓gf_e, ↓pf_e, ↓bnd_e, ↓bndp_e, ↓opure_e, ↓oif_t, ↓oif_f, ↓E_isPlace_y, ↓E_isPlace_n, ↓E_isNumber_y, ↓E_isNumber_n, ↓M_isPlace_y, ↓M_isPlace_n, ↓M_isNumber_y, ↓M_isNumber_n, ↓M_in_y, ↓M_in_n, ↓us_ne, ↓b2]
    · have b1 : E_isRange σ z0 0 z1 = some 0 := isRange_n (by omega)
      have b2 : M_in z1 0 (τ 3 z0) = some 0 := M_in_n (by omega)
      refine ⟨-1, σ, us τ 33 0 0, ?_, ?_, hS0.thr⟩
      · simp (disch := omega) only [↓jn_e, ↓ite_y, ↓ite_n, ↓oadd_eq, ↓osub_eq, ↓omul_eq, ↓odiv_eq, ↓orem_eq, ↓rd_eq, ↓wr_eq, ↓gf_e, ↓pf_e, ↓bnd_e, ↓bndp_e, ↓opure_e, ↓oif_t, ↓oif_f, ↓E_isPlace_y, ↓E_isPlace_n, ↓E_isNumber_y, ↓E_isNumber_n, ↓M_isPlace_y, ↓M_isPlace_n, ↓M_isNumber_y, ↓M_isNumber_n, ↓M_in_y, ↓M_in_n, ↓us_ne, ↓b1]
      · simp (disch := omega) only [↓jn_e, ↓ite_y, ↓ite_n, ↓oadd_eq, ↓osub_eq, ↓omul_eq, ↓odiv_eq, ↓orem_eq, ↓rd_eq, ↓wr_eq, ↓gf_e, ↓pf_e, ↓bnd_e, ↓bndp_e, ↓opure_e, ↓oif_t, ↓oif_f, ↓E_isPlace_y, ↓E_isPlace_n, ↓E_isNumber_y, ↓E_isNumber_n, ↓M_isPlace_y, ↓M_isPlace_n, ↓M_isNumber_y, ↓M_isNumber_n, ↓M_in_y, ↓M_in_n, ↓us_ne, ↓b2]
  · have b1 : E_isRange σ z0 0 z1 = some 0 := isRange_n (by omega)
    refine ⟨-1, σ, us τ 33 0 0, ?_, ?_, hS0.thr⟩
    · simp (disch := omega) only [↓jn_e, ↓ite_y, ↓ite_n, ↓oadd_eq, ↓osub_eq, ↓omul_eq, ↓odiv_eq, ↓orem_eq, ↓rd_eq, ↓wr_eq, ↓gf_e, ↓pf_e, ↓bnd_e, ↓bndp_e, ↓opure_e, ↓oif_t, ↓oif_f, ↓E_isPlace_y, ↓E_isPlace_n, ↓E_isNumber_y, ↓E_isNumber_n, ↓M_isPlace_y, ↓M_isPlace_n, ↓M_isNumber_y, ↓M_isNumber_n, ↓M_in_y, ↓M_in_n, ↓us_ne, ↓b1]
    · simp (disch := omega) only [↓jn_e, ↓ite_y, ↓ite_n, ↓oadd_eq, ↓osub_eq, ↓omul_eq, ↓odiv_eq, ↓orem_eq, ↓rd_eq, ↓wr_eq, ↓gf_e, ↓pf_e, ↓bnd_e, ↓bndp_e, ↓opure_e, ↓oif_t, ↓oif_f, ↓E_isPlace_y, ↓E_isPlace_n, ↓E_isNumber_y, ↓E_isNumber_n, ↓M_isPlace_y, ↓M_isPlace_n, ↓M_isNumber_y, ↓M_isNumber_n, ↓M_in_y, ↓M_in_n, ↓us_ne]
/-- rows that are laid on both sides -/
def BR (σ τ s t : St) (n : Int) : Prop := Fr [28] σ s ∧ Fr [1, 3] τ t ∧ Rws [7] τ t ∧ t 3 7 = n ∧ ∀ z, 0 ≤ z → z < n → s 28 z = t 1 (256 * 7 + z) ∧ -999 ≤ t 1 (256 * 7 + z) ∧ t 1 (256 * 7 + z) ≤ 999
theorem BR.lay {σ τ s t : St} {n v : Int} (h : BR σ τ s t n) (hn : 0 ≤ n ∧ n ≤ 254) (hv : -999 ≤ v ∧ v ≤ 999) : ∃ t', M_lays t v = some (0, t') ∧ BR σ τ (us s 28 n v) t' (n + 1) := by
  obtain ⟨h1, h2, h3, h4, h5⟩ := h
  refine ⟨us (us t 1 (1792 + n) v) 3 7 (n + 1), ?_, h1.us (by decide), (h2.us (by decide)).us (by decide), h3.tr ⟨fun q hq => ?_, fun p hp => ?_⟩, us_eq _ _ _ _, fun z z0 zn => ?_⟩
  · unfold M_lays
    rw [rd_eq (by omega), h4, oadd_eq (by omega), wr_eq (by omega), rd_eq (by omega), us_ne (by decide), h4, oadd_eq (by omega), wr_eq (by omega)]
  · have := hq 7 (by decide)
    rw [us_ne (by decide), us_ni (by omega), us_ne (by decide), us_ne (by decide)]
    exact ⟨rfl, rfl⟩
  · rw [us_ni (fun e => hp (by rw [e]; decide)), us_ne (by decide)]
  · by_cases e : z = n
    · have a1 : us (us t 1 (1792 + n) v) 3 7 (n + 1) 1 (256 * 7 + z) = v := by rw [us_ne (by decide), e]; exact us_eq _ _ _ _
      rw [a1, e, us_eq]
      exact ⟨rfl, hv⟩
    · have a1 : us (us t 1 (1792 + n) v) 3 7 (n + 1) 1 (256 * 7 + z) = t 1 (256 * 7 + z) := by rw [us_ne (by decide), us_ni (by omega)]
      rw [a1, us_ni e]
      exact h5 z z0 (by omega)
theorem BR.start (σ τ : St) : BR σ τ σ (us τ 3 7 0) 0 := ⟨Fr.rf _ _, (Fr.rf _ _).us (by decide), ⟨fun q _ => ⟨us_ne (by decide), us_ne (by decide)⟩, fun p hp => us_ni (by simp at hp; exact hp)⟩, us_eq _ _ _ _, fun z z0 zn => by omega⟩
theorem BR.num {σ τ s t : St} {n p x : Int} (h : BR σ τ s t n) (hp : 0 ≤ p ∧ p < 6) (hx : 0 ≤ x ∧ x < 256) : M_number t p x = some (τ 1 (256 * p + x)) := by
  rw [M_number_eq (by omega) (by omega), (h.2.2.1.at (r := p) (by simp; omega) hx).1]
theorem BR.sz {σ τ s t : St} {n p : Int} (h : BR σ τ s t n) (hp : 0 ≤ p ∧ p < 6) : t 3 p = τ 3 p := h.2.2.1.2 p (by simp; omega)
def jv (a b w : Int) : Int := if w = 0 then hel (a + b) else if w = 1 then hel (a - b) else if w = 2 then imin a b else imax a b
theorem jv_rng {a b : Int} (w : Int) (ha : -999 ≤ a ∧ a ≤ 999) (hb : -999 ≤ b ∧ b ≤ 999) : -999 ≤ jv a b w ∧ jv a b w ≤ 999 := by
  have h1 := hel_rng (a + b)
  have h2 := hel_rng (a - b)
  have h3 := imin_le a b
  have h4 := imax_le a b
  unfold jv
  split
  · exact h1
  · split
    · exact h2
    · split <;> omega
theorem E_joined_eq {a b w : Int} (ha : -999 ≤ a ∧ a ≤ 999) (hb : -999 ≤ b ∧ b ≤ 999) : E_joined a b w = some (jv a b w) := by
  unfold E_joined jv
  by_cases h0 : w = 0
  · rw [if_pos h0, if_pos h0, oadd_eq (by omega), E_held_eq, bndp_eq]
  · rw [if_neg h0, if_neg h0]
    by_cases h1 : w = 1
    · rw [if_pos h1, if_pos h1, osub_eq (by omega), E_held_eq, bndp_eq]
    · rw [if_neg h1, if_neg h1]
      by_cases h2 : w = 2
      · rw [if_pos h2, if_pos h2, opure_eq]
      · rw [if_neg h2, if_neg h2, opure_eq]
theorem M_zipped_eq {a b w : Int} (ha : -999 ≤ a ∧ a ≤ 999) (hb : -999 ≤ b ∧ b ≤ 999) : M_zipped a b w = some (jv a b w) := by
  unfold M_zipped jv
  by_cases h0 : w = 0
  · rw [if_pos h0, if_pos h0, oadd_eq (by omega), M_held_eq, bndp_eq]
  · rw [if_neg h0, if_neg h0]
    by_cases h1 : w = 1
    · rw [if_pos h1, if_pos h1, osub_eq (by omega), M_held_eq, bndp_eq]
    · rw [if_neg h1, if_neg h1]
      by_cases h2 : w = 2
      · rw [if_pos h2, if_pos h2, opure_eq]
      · rw [if_neg h2, if_neg h2, opure_eq]
theorem zips_loop {K1 K2 : St → Option (Int × St)} {i j w n : Int} {σ τ : St} (hi : 0 ≤ i ∧ i < 6) (hj : 0 ≤ j ∧ j < 6) (hn : 0 ≤ n ∧ n ≤ 255) (hni : n ≤ τ 3 i) (hnj : n ≤ τ 3 j) (hnn : n = τ 3 i ∨ n = τ 3 j)
    (hu : ∀ x, 0 ≤ x → x < n → σ 26 x = τ 1 (256 * i + x) ∧ -999 ≤ τ 1 (256 * i + x) ∧ τ 1 (256 * i + x) ≤ 999) (hv : ∀ x, 0 ≤ x → x < n → σ 27 x = τ 1 (256 * j + x) ∧ -999 ≤ τ 1 (256 * j + x) ∧ τ 1 (256 * j + x) ≤ 999) : ∀ (r m1 m2 : Nat) (s t : St) (x : Int), x + r = n → 0 ≤ x → r < m1 → r < m2 → BR σ τ s t x →
    ∃ s2 t2, E_zips_L59 K1 w n m1 s x = K1 s2 ∧ M_zips_L52 K2 i j w m2 t x = K2 t2 ∧ BR σ τ s2 t2 n := by
  intro r
  induction r with
  | zero =>
    intro m1 m2 s t x h1 h0 h2 h3 hB
    cases m1 with
    | zero => omega
    | succ m1 =>
    cases m2 with
    | zero => omega
    | succ m2 =>
    have e : x = n := by omega
    subst e
    have si := hB.sz hi
    have sj := hB.sz hj
    refine ⟨s, t, ?_, ?_, hB⟩
    · unfold E_zips_L59
      rw [if_neg (by omega)]
    · unfold M_zips_L52
      rw [rd_eq (by omega), si]
      by_cases q : x < τ 3 i
      · rw [if_pos q, rd_eq (by omega), sj, if_neg (by omega)]
      · rw [if_neg q]
  | succ r ih =>
    intro m1 m2 s t x h1 h0 h2 h3 hB
    cases m1 with
    | zero => omega
    | succ m1 =>
    cases m2 with
    | zero => omega
    | succ m2 =>
    have si := hB.sz hi
    have sj := hB.sz hj
    have ux := hu x h0 (by omega)
    have vx := hv x h0 (by omega)
    have ni := hB.num (p := i) (x := x) hi (by omega)
    have nj := hB.num (p := j) (x := x) hj (by omega)
    obtain ⟨t', e1, hB1⟩ := hB.lay (v := jv (τ 1 (256 * i + x)) (τ 1 (256 * j + x)) w) (by omega) (jv_rng w ux.2 vx.2)
    obtain ⟨s2, t2, x1, x2, x3⟩ := ih m1 m2 _ _ (x + 1) (by omega) (by omega) (by omega) (by omega) hB1
    have f := hB.1
    refine ⟨s2, t2, ?_, ?_, x3⟩
    · unfold E_zips_L59
      rw [if_pos (by omega), rd_eq (by omega), rd_eq (by omega), f 26 (by decide), f 27 (by decide), ux.1, vx.1, E_joined_eq ux.2 vx.2, bndp_eq, wr_eq (by omega), oadd_eq (by omega)]
      exact x1
    · unfold M_zips_L52
      rw [rd_eq (by omega), si, if_pos (by omega), rd_eq (by omega), sj, if_pos (by omega), ni, bndp_eq, nj, bndp_eq, M_zipped_eq ux.2 vx.2, bndp_eq, e1, bnd_eq, oadd_eq (by omega)]
      exact x2
theorem BR.ss {k : Nat} {σ τ σ0 τ0 s t : St} {n : Int} (h : BR σ0 τ0 s t n) (hS : SS k σ τ) (hE : Fr [12, 26, 27] σ σ0) (hM : τ0 = us τ 33 0 0) : SS k s t := by
  obtain ⟨h1, h2, h3, h4, h5⟩ := h
  rw [hM] at h2 h3
  exact hS.asq0 ((hE.mono (by decide)).tr (h1.mono (by decide))) (((fr_sc [33] τ 33 0 (by decide)).mono (by decide)).tr (h2.mono (by decide))) ((Rws.fr (fr_sc [33] _ _ _ (by decide)) (by decide) (by decide) (by decide) _).tr (h3.mono (by decide)))
theorem call_zips : HS_24 SS := by
  intro k σ τ z0 z1 z2 z3 hk hS i0 i1 i2 i3
  have hS0 := hS
  obtain ⟨⟨ρ, hW⟩, hT, hr, hn, hm⟩ := hS
  unfold E_zips M_zips
  by_cases a : 0 ≤ z0 ∧ z0 < 6
  · have hP := hW.2.2 z0 a.1 a.2
    have s0 := hP.2.1
    have n0 := hP.1
    by_cases b : 0 ≤ z1 ∧ z1 < 6
    · have hQ := hW.2.2 z1 b.1 b.2
      have s1 := hQ.2.1
      have n1 := hQ.1
      by_cases v : 0 ≤ z2 ∧ z2 ≤ 3
      · by_cases c : 0 ≤ z3 ∧ z3 < 6
        · obtain ⟨sa, e5, f5, c5, d5⟩ := readBoth_ex (σ := σ) a b n0 n1
          have hmin := imin_le (σ 25 z0) (σ 25 z1)
          have x0 : us τ 33 0 0 3 z0 = σ 25 z0 := by rw [us_ne (by decide)]; exact s0
          have x1 : us τ 33 0 0 3 z1 = σ 25 z1 := by rw [us_ne (by decide)]; exact s1
          obtain ⟨s2, t2, y1, y2, y3⟩ := zips_loop (K1 := fun (s9 : St) => bnd (E_build s9 z3 (imin (σ 25 z0) (σ 25 z1))) fun v11 s12 => some (v11, s12)) (K2 := fun (s7 : St) => bnd (M_builds s7 z3) fun v9 s10 => some (v9, s10)) (w := z2) (n := imin (σ 25 z0) (σ 25 z1)) (σ := sa) (τ := us τ 33 0 0) a b (by omega) (by omega) (by omega) (by omega)
            (fun x p q => by rw [c5 x p (by omega), us_ne (by decide)]; exact hP.num ⟨p, by omega⟩) (fun x p q => by rw [d5 x p (by omega), us_ne (by decide)]; exact hQ.num ⟨p, by omega⟩) (imin (σ 25 z0) (σ 25 z1)).toNat FU FU sa (us (us τ 33 0 0) 3 7 0) 0 (by omega) (by omega) (by unfold FU; omega) (by unfold FU; omega) (BR.start _ _)
          obtain ⟨σ4, τ4, w1, w2, w3⟩ := builds_ex (p := z3) (y3.ss hS0 f5 rfl) hk (by omega) y3.2.2.2.1 y3.2.2.2.2 c
          have h25 : sa 25 = σ 25 := f5 25 (by decide)
          refine ⟨imin (σ 25 z0) (σ 25 z1), σ4, τ4, ?_, ?_, w3⟩
          · rw [E_isPlace_y a, bndp_eq, if_neg (by decide), E_isPlace_y b, bndp_eq, if_neg (by decide), if_neg (by omega), if_neg (by omega), E_isPlace_y c, bndp_eq, if_neg (by decide), e5, bnd_eq, rd_eq (by omega), rd_eq (by omega), h25, opure_eq, jn_eq]
            refine y1.trans ?_
            simp (disch := omega) only [↓jn_e, ↓ite_y, ↓ite_n, ↓oadd_eq, ↓osub_eq, ↓omul_eq, ↓odiv_eq, ↓orem_eq, ↓rd_eq, ↓wr_eq, ↓gf_e, ↓pf_e, ↓bnd_e, ↓bndp_e, ↓opure_e, ↓oif_t, ↓oif_f, ↓E_isPlace_y, ↓E_isPlace_n, ↓E_isNumber_y, ↓E_isNumber_n, ↓M_isPlace_y, ↓M_isPlace_n, ↓M_isNumber_y, ↓M_isNumber_n, ↓M_in_y, ↓M_in_n, ↓us_ne, ↓w1]
          · simp (disch := omega) only [↓jn_e, ↓ite_y, ↓ite_n, ↓oadd_eq, ↓osub_eq, ↓omul_eq, ↓odiv_eq, ↓orem_eq, ↓rd_eq, ↓wr_eq, ↓gf_e, ↓pf_e, ↓bnd_e, ↓bndp_e, ↓opure_e, ↓oif_t, ↓oif_f, ↓E_isPlace_y, ↓E_isPlace_n, ↓E_isNumber_y, ↓E_isNumber_n, ↓M_isPlace_y, ↓M_isPlace_n, ↓M_isNumber_y, ↓M_isNumber_n, ↓M_in_y, ↓M_in_n, ↓us_ne]
            refine y2.trans ?_
            simp (disch := omega) only [↓jn_e, ↓ite_y, ↓ite_n, ↓oadd_eq, ↓osub_eq, ↓omul_eq, ↓odiv_eq, ↓orem_eq, ↓rd_eq, ↓wr_eq, ↓gf_e, ↓pf_e, ↓bnd_e, ↓bndp_e, ↓opure_e, ↓oif_t, ↓oif_f, ↓E_isPlace_y, ↓E_isPlace_n, ↓E_isNumber_y, ↓E_isNumber_n, ↓M_isPlace_y, ↓M_isPlace_n, ↓M_isNumber_y, ↓M_isNumber_n, ↓M_in_y, ↓M_in_n, ↓us_ne, ↓w2]
        · refine ⟨-1, σ, us τ 33 0 0, ?_, ?_, hS0.thr⟩
          · simp (disch := omega) only [↓jn_e, ↓ite_y, ↓ite_n, ↓oadd_eq, ↓osub_eq, ↓omul_eq, ↓odiv_eq, ↓orem_eq, ↓rd_eq, ↓wr_eq, ↓gf_e, ↓pf_e, ↓bnd_e, ↓bndp_e, ↓opure_e, ↓oif_t, ↓oif_f, ↓E_isPlace_y, ↓E_isPlace_n, ↓E_isNumber_y, ↓E_isNumber_n, ↓M_isPlace_y, ↓M_isPlace_n, ↓M_isNumber_y, ↓M_isNumber_n, ↓M_in_y, ↓M_in_n, ↓us_ne]
          · simp (disch := omega) only [↓jn_e, ↓ite_y, ↓ite_n, ↓oadd_eq, ↓osub_eq, ↓omul_eq, ↓odiv_eq, ↓orem_eq, ↓rd_eq, ↓wr_eq, ↓gf_e, ↓pf_e, ↓bnd_e, ↓bndp_e, ↓opure_e, ↓oif_t, ↓oif_f, ↓E_isPlace_y, ↓E_isPlace_n, ↓E_isNumber_y, ↓E_isNumber_n, ↓M_isPlace_y, ↓M_isPlace_n, ↓M_isNumber_y, ↓M_isNumber_n, ↓M_in_y, ↓M_in_n, ↓us_ne]
      · refine ⟨-1, σ, us τ 33 0 0, ?_, ?_, hS0.thr⟩
        · by_cases q : z2 < 0
          · simp (disch := omega) only [↓jn_e, ↓ite_y, ↓ite_n, ↓oadd_eq, ↓osub_eq, ↓omul_eq, ↓odiv_eq, ↓orem_eq, ↓rd_eq, ↓wr_eq, ↓gf_e, ↓pf_e, ↓bnd_e, ↓bndp_e, ↓opure_e, ↓oif_t, ↓oif_f, ↓E_isPlace_y, ↓E_isPlace_n, ↓E_isNumber_y, ↓E_isNumber_n, ↓M_isPlace_y, ↓M_isPlace_n, ↓M_isNumber_y, ↓M_isNumber_n, ↓M_in_y, ↓M_in_n, ↓us_ne]
          · simp (disch := omega) only [↓jn_e, ↓ite_y, ↓ite_n, ↓oadd_eq, ↓osub_eq, ↓omul_eq, ↓odiv_eq, ↓orem_eq, ↓rd_eq, ↓wr_eq, ↓gf_e, ↓pf_e, ↓bnd_e, ↓bndp_e, ↓opure_e, ↓oif_t, ↓oif_f, ↓E_isPlace_y, ↓E_isPlace_n, ↓E_isNumber_y, ↓E_isNumber_n, ↓M_isPlace_y, ↓M_isPlace_n, ↓M_isNumber_y, ↓M_isNumber_n, ↓M_in_y, ↓M_in_n, ↓us_ne]
        · simp (disch := omega) only [↓jn_e, ↓ite_y, ↓ite_n, ↓oadd_eq, ↓osub_eq, ↓omul_eq, ↓odiv_eq, ↓orem_eq, ↓rd_eq, ↓wr_eq, ↓gf_e, ↓pf_e, ↓bnd_e, ↓bndp_e, ↓opure_e, ↓oif_t, ↓oif_f, ↓E_isPlace_y, ↓E_isPlace_n, ↓E_isNumber_y, ↓E_isNumber_n, ↓M_isPlace_y, ↓M_isPlace_n, ↓M_isNumber_y, ↓M_isNumber_n, ↓M_in_y, ↓M_in_n, ↓us_ne]
    · refine ⟨-1, σ, us τ 33 0 0, ?_, ?_, hS0.thr⟩
      · simp (disch := omega) only [↓jn_e, ↓ite_y, ↓ite_n, ↓oadd_eq, ↓osub_eq, ↓omul_eq, ↓odiv_eq, ↓orem_eq, ↓rd_eq, ↓wr_eq, ↓gf_e, ↓pf_e, ↓bnd_e, ↓bndp_e, ↓opure_e, ↓oif_t, ↓oif_f, ↓E_isPlace_y, ↓E_isPlace_n, ↓E_isNumber_y, ↓E_isNumber_n, ↓M_isPlace_y, ↓M_isPlace_n, ↓M_isNumber_y, ↓M_isNumber_n, ↓M_in_y, ↓M_in_n, ↓us_ne]
      · simp (disch := omega) only [↓jn_e, ↓ite_y, ↓ite_n, ↓oadd_eq, ↓osub_eq, ↓omul_eq, ↓odiv_eq, ↓orem_eq, ↓rd_eq, ↓wr_eq, ↓gf_e, ↓pf_e, ↓bnd_e, ↓bndp_e, ↓opure_e, ↓oif_t, ↓oif_f, ↓E_isPlace_y, ↓E_isPlace_n, ↓E_isNumber_y, ↓E_isNumber_n, ↓M_isPlace_y, ↓M_isPlace_n, ↓M_isNumber_y, ↓M_isNumber_n, ↓M_in_y, ↓M_in_n, ↓us_ne]
  · refine ⟨-1, σ, us τ 33 0 0, ?_, ?_, hS0.thr⟩
    · simp (disch := omega) only [↓jn_e, ↓ite_y, ↓ite_n, ↓oadd_eq, ↓osub_eq, ↓omul_eq, ↓odiv_eq, ↓orem_eq, ↓rd_eq, ↓wr_eq, ↓gf_e, ↓pf_e, ↓bnd_e, ↓bndp_e, ↓opure_e, ↓oif_t, ↓oif_f, ↓E_isPlace_y, ↓E_isPlace_n, ↓E_isNumber_y, ↓E_isNumber_n, ↓M_isPlace_y, ↓M_isPlace_n, ↓M_isNumber_y, ↓M_isNumber_n, ↓M_in_y, ↓M_in_n, ↓us_ne]
    · simp (disch := omega) only [↓jn_e, ↓ite_y, ↓ite_n, ↓oadd_eq, ↓osub_eq, ↓omul_eq, ↓odiv_eq, ↓orem_eq, ↓rd_eq, ↓wr_eq, ↓gf_e, ↓pf_e, ↓bnd_e, ↓bndp_e, ↓opure_e, ↓oif_t, ↓oif_f, ↓E_isPlace_y, ↓E_isPlace_n, ↓E_isNumber_y, ↓E_isNumber_n, ↓M_isPlace_y, ↓M_isPlace_n, ↓M_isNumber_y, ↓M_isNumber_n, ↓M_in_y, ↓M_in_n, ↓us_ne]

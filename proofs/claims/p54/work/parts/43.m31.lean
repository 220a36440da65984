-- MATH 31: picks, merges, mirrors
theorem picks_loop {K1 : St → Int → Option (Int × St)} {K2 : St → Option (Int × St)} {i l r0 N : Int} {σ τ : St} (hi : 0 ≤ i ∧ i < 6) (hN : 0 ≤ N ∧ N ≤ 255) (h25 : σ 25 i = N) (h3 : τ 3 i = N)
    (hu : ∀ x, 0 ≤ x → x < N → σ 26 x = τ 1 (256 * i + x) ∧ -999 ≤ τ 1 (256 * i + x) ∧ τ 1 (256 * i + x) ≤ 999) : ∀ (r m1 m2 : Nat) (s t : St) (x n : Int), x + r = N → 0 ≤ n → n ≤ x → r < m1 → r < m2 → BR σ τ s t n →
    ∃ s2 t2 n2, E_picks_L60 K1 i l r0 m1 s n x = K1 s2 n2 ∧ M_picks_L47 K2 i l r0 m2 t x = K2 t2 ∧ BR σ τ s2 t2 n2 ∧ 0 ≤ n2 ∧ n2 ≤ 255 := by
  intro r
  induction r with
  | zero =>
    intro m1 m2 s t x n h1 h0 hnx h2 h3' hB
    cases m1 with
    | zero => omega
    | succ m1 =>
    cases m2 with
    | zero => omega
    | succ m2 =>
    have si := hB.sz hi
    have f := hB.1
    refine ⟨s, t, n, ?_, ?_, hB, h0, by omega⟩
    · unfold E_picks_L60
      rw [rd_eq (by omega), f 25 (by decide), h25, if_neg (by omega)]
    · unfold M_picks_L47
      rw [rd_eq (by omega), si, h3, if_neg (by omega)]
  | succ r ih =>
    intro m1 m2 s t x n h1 h0 hnx h2 h3' hB
    cases m1 with
    | zero => omega
    | succ m1 =>
    cases m2 with
    | zero => omega
    | succ m2 =>
    have si := hB.sz hi
    have f := hB.1
    have ux := hu x (by omega) (by omega)
    have ni := hB.num (p := i) (x := x) hi (by omega)
    have e25 : s 25 i = N := by rw [f 25 (by decide)]; exact h25
    have e26 : s 26 x = τ 1 (256 * i + x) := by rw [f 26 (by decide)]; exact ux.1
    by_cases q : l ≤ τ 1 (256 * i + x) ∧ τ 1 (256 * i + x) ≤ r0
    · obtain ⟨t', e1, hB1⟩ := hB.lay (v := τ 1 (256 * i + x)) (by omega) ux.2
      obtain ⟨s2, t2, n2, x1, x2, x3⟩ := ih m1 m2 _ _ (x + 1) (n + 1) (by omega) (by omega) (by omega) (by omega) (by omega) hB1
      refine ⟨s2, t2, n2, ?_, ?_, x3⟩
      · conv => lhs; unfold E_picks_L60
        simp (disch := omega) only [↓jn_e, ↓ite_y, ↓ite_n, ↓oadd_eq, ↓osub_eq, ↓omul_eq, ↓odiv_eq, ↓orem_eq, ↓rd_eq, ↓wr_eq, ↓gf_e, ↓pf_e, ↓bnd_e, ↓bndp_e, ↓opure_e, ↓oif_t, ↓oif_f, ↓E_isPlace_y, ↓E_isPlace_n, ↓E_isNumber_y, ↓E_isNumber_n, ↓M_isPlace_y, ↓M_isPlace_n, ↓M_isNumber_y, ↓M_isNumber_n, ↓M_in_y, ↓M_in_n, ↓us_ne, e25, e26]
        exact x1
      · conv => lhs; unfold M_picks_L47
        simp (disch := omega) only [↓jn_e, ↓ite_y, ↓ite_n, ↓oadd_eq, ↓osub_eq, ↓omul_eq, ↓odiv_eq, ↓orem_eq, ↓rd_eq, ↓wr_eq, ↓gf_e, ↓pf_e, ↓bnd_e, ↓bndp_e, ↓opure_e, ↓oif_t, ↓oif_f, ↓E_isPlace_y, ↓E_isPlace_n, ↓E_isNumber_y, ↓E_isNumber_n, ↓M_isPlace_y, ↓M_isPlace_n, ↓M_isNumber_y, ↓M_isNumber_n, ↓M_in_y, ↓M_in_n, ↓us_ne, si, h3, ↓ni, ↓e1]
        exact x2
    · obtain ⟨s2, t2, n2, x1, x2, x3⟩ := ih m1 m2 s t (x + 1) n (by omega) (by omega) (by omega) (by omega) (by omega) hB
      refine ⟨s2, t2, n2, ?_, ?_, x3⟩
      · conv => lhs; unfold E_picks_L60
        by_cases q1 : τ 1 (256 * i + x) < l
        · simp (disch := omega) only [↓jn_e, ↓ite_y, ↓ite_n, ↓oadd_eq, ↓osub_eq, ↓omul_eq, ↓odiv_eq, ↓orem_eq, ↓rd_eq, ↓wr_eq, ↓gf_e, ↓pf_e, ↓bnd_e, ↓bndp_e, ↓opure_e, ↓oif_t, ↓oif_f, ↓E_isPlace_y, ↓E_isPlace_n, ↓E_isNumber_y, ↓E_isNumber_n, ↓M_isPlace_y, ↓M_isPlace_n, ↓M_isNumber_y, ↓M_isNumber_n, ↓M_in_y, ↓M_in_n, ↓us_ne, e25, e26]
          exact x1
        · simp (disch := omega) only [↓jn_e, ↓ite_y, ↓ite_n, ↓oadd_eq, ↓osub_eq, ↓omul_eq, ↓odiv_eq, ↓orem_eq, ↓rd_eq, ↓wr_eq, ↓gf_e, ↓pf_e, ↓bnd_e, ↓bndp_e, ↓opure_e, ↓oif_t, ↓oif_f, ↓E_isPlace_y, ↓E_isPlace_n, ↓E_isNumber_y, ↓E_isNumber_n, ↓M_isPlace_y, ↓M_isPlace_n, ↓M_isNumber_y, ↓M_isNumber_n, ↓M_in_y, ↓M_in_n, ↓us_ne, e25, e26]
          exact x1
      · conv => lhs; unfold M_picks_L47
        simp (disch := omega) only [↓jn_e, ↓ite_y, ↓ite_n, ↓oadd_eq, ↓osub_eq, ↓omul_eq, ↓odiv_eq, ↓orem_eq, ↓rd_eq, ↓wr_eq, ↓gf_e, ↓pf_e, ↓bnd_e, ↓bndp_e, ↓opure_e, ↓oif_t, ↓oif_f, ↓E_isPlace_y, ↓E_isPlace_n, ↓E_isNumber_y, ↓E_isNumber_n, ↓M_isPlace_y, ↓M_isPlace_n, ↓M_isNumber_y, ↓M_isNumber_n, ↓M_in_y, ↓M_in_n, ↓us_ne, si, h3, ↓ni]
        exact x2
theorem call_picks : HS_28 SS := by
  intro k σ τ z0 z1 z2 z3 hk hS i0 i1 i2 i3
  have hS0 := hS
  obtain ⟨⟨ρ, hW⟩, hT, hr, hn, hm⟩ := hS
  unfold E_picks M_picks
  by_cases a : 0 ≤ z0 ∧ z0 < 6
  · have hP := hW.2.2 z0 a.1 a.2
    have s0 := hP.2.1
    have n0 := hP.1
    by_cases b : -999 ≤ z1 ∧ z1 ≤ 999
    · by_cases v : -999 ≤ z2 ∧ z2 ≤ 999
      · by_cases c : 0 ≤ z3 ∧ z3 < 6
        · obtain ⟨sa, e5, f5, c5⟩ := read_one_eq σ (σ 24 z0) (σ 25 z0) n0
          have x0 : us τ 33 0 0 3 z0 = σ 25 z0 := by rw [us_ne (by decide)]; exact s0
          obtain ⟨s2, t2, n2, y1, y2, y3, y4, y5⟩ := picks_loop (K1 := fun (s9 : St) (x10 : Int) => bnd (E_build s9 z3 x10) fun v12 s13 => some (v12, s13)) (K2 := fun (s7 : St) => bnd (M_builds s7 z3) fun v9 s10 => some (v9, s10)) (l := z1) (r0 := z2) (N := σ 25 z0) (σ := sa) (τ := us τ 33 0 0) a n0 (by rw [f5 25 (by decide)]) x0
            (fun x p q => by rw [c5 x p q, us_ne (by decide)]; exact hP.num ⟨p, q⟩) (σ 25 z0).toNat FU FU sa (us (us τ 33 0 0) 3 7 0) 0 0 (by omega) (by omega) (by omega) (by unfold FU; omega) (by unfold FU; omega) (BR.start _ _)
          obtain ⟨σ4, τ4, w1, w2, w3⟩ := builds_ex (p := z3) (y3.ss hS0 (f5.mono (by decide)) rfl) hk ⟨y4, y5⟩ y3.2.2.2.1 y3.2.2.2.2 c
          refine ⟨n2, σ4, τ4, ?_, ?_, w3⟩
          · simp (disch := omega) only [↓jn_e, ↓ite_y, ↓ite_n, ↓oadd_eq, ↓osub_eq, ↓omul_eq, ↓odiv_eq, ↓orem_eq, ↓rd_eq, ↓wr_eq, ↓gf_e, ↓pf_e, ↓bnd_e, ↓bndp_e, ↓opure_e, ↓oif_t, ↓oif_f, ↓E_isPlace_y, ↓E_isPlace_n, ↓E_isNumber_y, ↓E_isNumber_n, ↓M_isPlace_y, ↓M_isPlace_n, ↓M_isNumber_y, ↓M_isNumber_n, ↓M_in_y, ↓M_in_n, ↓us_ne, ↓e5]
            refine y1.trans ?_
            simp (disch := omega) only [↓jn_e, ↓ite_y, ↓ite_n, ↓oadd_eq, ↓osub_eq, ↓omul_eq, ↓odiv_eq, ↓orem_eq, ↓rd_eq, ↓wr_eq, ↓gf_e, ↓pf_e, ↓bnd_e, ↓bndp_e, ↓opure_e, ↓oif_t, ↓oif_f, ↓E_isPlace_y, ↓E_isPlace_n, ↓E_isNumber_y, ↓E_isNumber_n, ↓M_isPlace_y, ↓M_isPlace_n, ↓M_isNumber_y, ↓M_isNumber_n, ↓M_in_y, ↓M_in_n, ↓us_ne, ↓w1]
          · simp (disch := omega) only [↓jn_e, ↓ite_y, ↓ite_n, ↓oadd_eq, ↓osub_eq, ↓omul_eq, ↓odiv_eq, ↓orem_eq, ↓rd_eq, ↓wr_eq, ↓gf_e, ↓pf_e, ↓bnd_e, ↓bndp_e, ↓opure_e, ↓oif_t, ↓oif_f, ↓E_isPlace_y, ↓E_isPlace_n, ↓E_isNumber_y, ↓E_isNumber_n, ↓M_isPlace_y, ↓M_isPlace_n, ↓M_isNumber_y, ↓M_isNumber_n, ↓M_in_y, ↓M_in_n, ↓us_ne]
            refine y2.trans ?_
            simp (disch := omega) only [↓jn_e, ↓ite_y, ↓ite_n, ↓oadd_eq, ↓osub_eq, ↓omul_eq, ↓odiv_eq, ↓orem_eq, ↓rd_eq, ↓wr_eq, ↓gf_e, ↓pf_e, ↓bnd_e, ↓bndp_e, ↓opure_e, ↓oif_t, ↓oif_f, ↓E_isPlace_y, ↓E_isPlace_n, ↓E_isNumber_y, ↓E_isNumber_n, ↓M_isPlace_y, ↓M_isPlace_n, ↓M_isNumber_y, ↓M_isNumber_n, ↓M_in_y, ↓M_in_n, ↓us_ne, ↓w2]
        · refine ⟨-1, σ, us τ 33 0 0, ?_, ?_, hS0.thr⟩
          · simp (disch := omega) only [↓jn_e, ↓ite_y, ↓ite_n, ↓oadd_eq, ↓osub_eq, ↓omul_eq, ↓odiv_eq, ↓orem_eq, ↓rd_eq, ↓wr_eq, ↓gf_e, ↓pf_e, ↓bnd_e, ↓bndp_e, ↓opure_e, ↓oif_t, ↓oif_f, ↓E_isPlace_y, ↓E_isPlace_n, ↓E_isNumber_y, ↓E_isNumber_n, ↓M_isPlace_y, ↓M_isPlace_n, ↓M_isNumber_y, ↓M_isNumber_n, ↓M_in_y, ↓M_in_n, ↓us_ne]
          · simp (disch := omega) only [↓jn_e, ↓ite_y, ↓ite_n, ↓oadd_eq, ↓osub_eq, ↓omul_eq, ↓odiv_eq, ↓orem_eq, ↓rd_eq, ↓wr_eq, ↓gf_e, ↓pf_e, ↓bnd_e, ↓bndp_e, ↓opure_e, ↓oif_t, ↓oif_f, ↓E_isPlace_y, ↓E_isPlace_n, ↓E_isNumber_y, ↓E_isNumber_n, ↓M_isPlace_y, ↓M_isPlace_n, ↓M_isNumber_y, ↓M_isNumber_n, ↓M_in_y, ↓M_in_n, ↓us_ne]
      · refine ⟨-1, σ, us τ 33 0 0, ?_, ?_, hS0.thr⟩
        · simp (disch := omega) only [↓jn_e, ↓ite_y, ↓ite_n, ↓oadd_eq, ↓osub_eq, ↓omul_eq, ↓odiv_eq, ↓orem_eq, ↓rd_eq, ↓wr_eq, ↓gf_e, ↓pf_e, ↓bnd_e, ↓bndp_e, ↓opure_e, ↓oif_t, ↓oif_f, ↓E_isPlace_y, ↓E_isPlace_n, ↓E_isNumber_y, ↓E_isNumber_n, ↓M_isPlace_y, ↓M_isPlace_n, ↓M_isNumber_y, ↓M_isNumber_n, ↓M_in_y, ↓M_in_n, ↓us_ne]
        · simp (disch := omega) only [↓jn_e, ↓ite_y, ↓ite_n, ↓oadd_eq, ↓osub_eq, ↓omul_eq, ↓odiv_eq, ↓orem_eq, ↓rd_eq, ↓wr_eq, ↓gf_e, ↓pf_e, ↓bnd_e, ↓bndp_e, ↓opure_e, ↓oif_t, ↓oif_f, ↓E_isPlace_y, ↓E_isPlace_n, ↓E_isNumber_y, ↓E_isNumber_n, ↓M_isPlace_y, ↓M_isPlace_n, ↓M_isNumber_y, ↓M_isNumber_n, ↓M_in_y, ↓M_in_n, ↓us_ne]
    · refine ⟨-1, σ, us τ 33 0 0, ?_, ?_, hS0.thr⟩
      · simp (disch := omega) only [↓jn_e, ↓ite_y, ↓ite_n, ↓oadd_eq, ↓osub_eq, ↓omul_eq, ↓odiv_eq, ↓orem_eq, ↓rd_eq, ↓wr_eq, ↓gf_e, ↓pf_e, ↓bnd_e, ↓bndp_e, ↓opure_e, ↓oif_t, ↓oif_f, ↓E_isPlace_y, ↓E_isPlace_n, ↓E_isNumber_y, ↓E_isNumber_n, ↓M_isPlace_y, ↓M_isPlace_n, ↓M_isNumber_y, ↓M_isNumber_n, ↓M_in_y, ↓M_in_n, ↓us_ne]
      · simp (disch := omega) only [↓jn_e, ↓ite_y, ↓ite_n, ↓oadd_eq, ↓osub_eq, ↓omul_eq, ↓odiv_eq, ↓orem_eq, ↓rd_eq, ↓wr_eq, ↓gf_e, ↓pf_e, ↓bnd_e, ↓bndp_e, ↓opure_e, ↓oif_t, ↓oif_f, ↓E_isPlace_y, ↓E_isPlace_n, ↓E_isNumber_y, ↓E_isNumber_n, ↓M_isPlace_y, ↓M_isPlace_n, ↓M_isNumber_y, ↓M_isNumber_n, ↓M_in_y, ↓M_in_n, ↓us_ne]
  · refine ⟨-1, σ, us τ 33 0 0, ?_, ?_, hS0.thr⟩
    · simp (disch := omega) only [↓jn_e, ↓ite_y, ↓ite_n, ↓oadd_eq, ↓osub_eq, ↓omul_eq, ↓odiv_eq, ↓orem_eq, ↓rd_eq, ↓wr_eq, ↓gf_e, ↓pf_e, ↓bnd_e, ↓bndp_e, ↓opure_e, ↓oif_t, ↓oif_f, ↓E_isPlace_y, ↓E_isPlace_n, ↓E_isNumber_y, ↓E_isNumber_n, ↓M_isPlace_y, ↓M_isPlace_n, ↓M_isNumber_y, ↓M_isNumber_n, ↓M_in_y, ↓M_in_n, ↓us_ne]
    · simp (disch := omega) only [↓jn_e, ↓ite_y, ↓ite_n, ↓oadd_eq, ↓osub_eq, ↓omul_eq, ↓odiv_eq, ↓orem_eq, ↓rd_eq, ↓wr_eq, ↓gf_e, ↓pf_e, ↓bnd_e, ↓bndp_e, ↓opure_e, ↓oif_t, ↓oif_f, ↓E_isPlace_y, ↓E_isPlace_n, ↓E_isNumber_y, ↓E_isNumber_n, ↓M_isPlace_y, ↓M_isPlace_n, ↓M_isNumber_y, ↓M_isNumber_n, ↓M_in_y, ↓M_in_n, ↓us_ne]
theorem merges_loop {K1 K2 : St → Option (Int × St)} {i j N : Int} {σ τ : St} (hi : 0 ≤ i ∧ i < 6) (hj : 0 ≤ j ∧ j < 6) (hNN : N = τ 3 i + τ 3 j) (hN : N ≤ 255) (hni : 0 ≤ τ 3 i) (hnj : 0 ≤ τ 3 j) (hei : σ 25 i = τ 3 i) (hej : σ 25 j = τ 3 j)
    (hu : ∀ x, 0 ≤ x → x < τ 3 i → σ 26 x = τ 1 (256 * i + x) ∧ -999 ≤ τ 1 (256 * i + x) ∧ τ 1 (256 * i + x) ≤ 999) (hv : ∀ x, 0 ≤ x → x < τ 3 j → σ 27 x = τ 1 (256 * j + x) ∧ -999 ≤ τ 1 (256 * j + x) ∧ τ 1 (256 * j + x) ≤ 999) : ∀ (r m1 m2 : Nat) (s t : St) (x y z : Int), z + r = N → z = x + y → 0 ≤ x → x ≤ τ 3 i → 0 ≤ y → y ≤ τ 3 j → r < m1 → r < m2 → BR σ τ s t z →
    ∃ s2 t2, E_merges_L64 K1 i j N m1 s x y z = K1 s2 ∧ M_merges_L64 K2 i j m2 t x y = K2 t2 ∧ BR σ τ s2 t2 N := by
  intro r
  induction r with
  | zero =>
    intro m1 m2 s t x y z h1 hz x0 xi y0 yj h2 h3 hB
    cases m1 with
    | zero => omega
    | succ m1 =>
    cases m2 with
    | zero => omega
    | succ m2 =>
    have e : z = N := by omega
    rw [e] at hB
    have si := hB.sz hi
    have sj := hB.sz hj
    refine ⟨s, t, ?_, ?_, hB⟩
    · unfold E_merges_L64
      rw [if_neg (by omega)]
    · unfold M_merges_L64
      simp (disch := omega) only [↓jn_e, ↓ite_y, ↓ite_n, ↓oadd_eq, ↓osub_eq, ↓omul_eq, ↓odiv_eq, ↓orem_eq, ↓rd_eq, ↓wr_eq, ↓gf_e, ↓pf_e, ↓bnd_e, ↓bndp_e, ↓opure_e, ↓oif_t, ↓oif_f, ↓E_isPlace_y, ↓E_isPlace_n, ↓E_isNumber_y, ↓E_isNumber_n, ↓M_isPlace_y, ↓M_isPlace_n, ↓M_isNumber_y, ↓M_isNumber_n, ↓M_in_y, ↓M_in_n, ↓us_ne, si, sj]
  | succ r ih =>
    intro m1 m2 s t x y z h1 hz x0 xi y0 yj h2 h3 hB
    cases m1 with
    | zero => omega
    | succ m1 =>
    cases m2 with
    | zero => omega
    | succ m2 =>
    have si := hB.sz hi
    have sj := hB.sz hj
    have f := hB.1
    have ei : s 25 i = τ 3 i := by rw [f 25 (by decide)]; exact hei
    have ej : s 25 j = τ 3 j := by rw [f 25 (by decide)]; exact hej
    have ni := hB.num (p := i) (x := x) hi (by omega)
    have nj := hB.num (p := j) (x := y) hj (by omega)
    by_cases q : y = τ 3 j ∨ (x < τ 3 i ∧ τ 1 (256 * i + x) ≤ τ 1 (256 * j + y))
    · have ux := hu x x0 (by omega)
      have e26 : s 26 x = τ 1 (256 * i + x) := by rw [f 26 (by decide)]; exact ux.1
      obtain ⟨t', e1, hB1⟩ := hB.lay (v := τ 1 (256 * i + x)) (by omega) ux.2
      obtain ⟨s2, t2, x1, x2, x3⟩ := ih m1 m2 _ _ (x + 1) y (z + 1) (by omega) (by omega) (by omega) (by omega) (by omega) (by omega) (by omega) (by omega) hB1
      have ey : y + 0 = y := by omega
      refine ⟨s2, t2, ?_, ?_, x3⟩
      · conv => lhs; unfold E_merges_L64
        by_cases qy : y = τ 3 j
        · simp (disch := omega) only [↓jn_e, ↓ite_y, ↓ite_n, ↓oadd_eq, ↓osub_eq, ↓omul_eq, ↓odiv_eq, ↓orem_eq, ↓rd_eq, ↓wr_eq, ↓gf_e, ↓pf_e, ↓bnd_e, ↓bndp_e, ↓opure_e, ↓oif_t, ↓oif_f, ↓E_isPlace_y, ↓E_isPlace_n, ↓E_isNumber_y, ↓E_isNumber_n, ↓M_isPlace_y, ↓M_isPlace_n, ↓M_isNumber_y, ↓M_isNumber_n, ↓M_in_y, ↓M_in_n, ↓us_ne, ej, e26]
          exact x1
        · have vy := hv y y0 (by omega)
          have e27 : s 27 y = τ 1 (256 * j + y) := by rw [f 27 (by decide)]; exact vy.1
          simp (disch := omega) only [↓jn_e, ↓ite_y, ↓ite_n, ↓oadd_eq, ↓osub_eq, ↓omul_eq, ↓odiv_eq, ↓orem_eq, ↓rd_eq, ↓wr_eq, ↓gf_e, ↓pf_e, ↓bnd_e, ↓bndp_e, ↓opure_e, ↓oif_t, ↓oif_f, ↓E_isPlace_y, ↓E_isPlace_n, ↓E_isNumber_y, ↓E_isNumber_n, ↓M_isPlace_y, ↓M_isPlace_n, ↓M_isNumber_y, ↓M_isNumber_n, ↓M_in_y, ↓M_in_n, ↓us_ne, ei, ej, e26, e27]
          exact x1
      · conv => lhs; unfold M_merges_L64
        by_cases qy : y = τ 3 j
        · simp (disch := omega) only [↓jn_e, ↓ite_y, ↓ite_n, ↓oadd_eq, ↓osub_eq, ↓omul_eq, ↓odiv_eq, ↓orem_eq, ↓rd_eq, ↓wr_eq, ↓gf_e, ↓pf_e, ↓bnd_e, ↓bndp_e, ↓opure_e, ↓oif_t, ↓oif_f, ↓E_isPlace_y, ↓E_isPlace_n, ↓E_isNumber_y, ↓E_isNumber_n, ↓M_isPlace_y, ↓M_isPlace_n, ↓M_isNumber_y, ↓M_isNumber_n, ↓M_in_y, ↓M_in_n, ↓us_ne, si, sj, ↓ni, ↓nj, ↓e1, ey]
          exact x2
        · simp (disch := omega) only [↓jn_e, ↓ite_y, ↓ite_n, ↓oadd_eq, ↓osub_eq, ↓omul_eq, ↓odiv_eq, ↓orem_eq, ↓rd_eq, ↓wr_eq, ↓gf_e, ↓pf_e, ↓bnd_e, ↓bndp_e, ↓opure_e, ↓oif_t, ↓oif_f, ↓E_isPlace_y, ↓E_isPlace_n, ↓E_isNumber_y, ↓E_isNumber_n, ↓M_isPlace_y, ↓M_isPlace_n, ↓M_isNumber_y, ↓M_isNumber_n, ↓M_in_y, ↓M_in_n, ↓us_ne, si, sj, ↓ni, ↓nj, ↓e1, ey]
          exact x2
    · have vy := hv y y0 (by omega)
      have e27 : s 27 y = τ 1 (256 * j + y) := by rw [f 27 (by decide)]; exact vy.1
      obtain ⟨t', e1, hB1⟩ := hB.lay (v := τ 1 (256 * j + y)) (by omega) vy.2
      obtain ⟨s2, t2, x1, x2, x3⟩ := ih m1 m2 _ _ x (y + 1) (z + 1) (by omega) (by omega) (by omega) (by omega) (by omega) (by omega) (by omega) (by omega) hB1
      have ex : x + 0 = x := by omega
      refine ⟨s2, t2, ?_, ?_, x3⟩
      · conv => lhs; unfold E_merges_L64
        by_cases qx : x < τ 3 i
        · have ux := hu x x0 qx
          have e26 : s 26 x = τ 1 (256 * i + x) := by rw [f 26 (by decide)]; exact ux.1
          simp (disch := omega) only [↓jn_e, ↓ite_y, ↓ite_n, ↓oadd_eq, ↓osub_eq, ↓omul_eq, ↓odiv_eq, ↓orem_eq, ↓rd_eq, ↓wr_eq, ↓gf_e, ↓pf_e, ↓bnd_e, ↓bndp_e, ↓opure_e, ↓oif_t, ↓oif_f, ↓E_isPlace_y, ↓E_isPlace_n, ↓E_isNumber_y, ↓E_isNumber_n, ↓M_isPlace_y, ↓M_isPlace_n, ↓M_isNumber_y, ↓M_isNumber_n, ↓M_in_y, ↓M_in_n, ↓us_ne, ei, ej, e26, e27]
          exact x1
        · simp (disch := omega) only [↓jn_e, ↓ite_y, ↓ite_n, ↓oadd_eq, ↓osub_eq, ↓omul_eq, ↓odiv_eq, ↓orem_eq, ↓rd_eq, ↓wr_eq, ↓gf_e, ↓pf_e, ↓bnd_e, ↓bndp_e, ↓opure_e, ↓oif_t, ↓oif_f, ↓E_isPlace_y, ↓E_isPlace_n, ↓E_isNumber_y, ↓E_isNumber_n, ↓M_isPlace_y, ↓M_isPlace_n, ↓M_isNumber_y, ↓M_isNumber_n, ↓M_in_y, ↓M_in_n, ↓us_ne, ei, ej, e27]
          exact x1
      · conv => lhs; unfold M_merges_L64
        by_cases qx : x < τ 3 i
        · simp (disch := omega) only [↓jn_e, ↓ite_y, ↓ite_n, ↓oadd_eq, ↓osub_eq, ↓omul_eq, ↓odiv_eq, ↓orem_eq, ↓rd_eq, ↓wr_eq, ↓gf_e, ↓pf_e, ↓bnd_e, ↓bndp_e, ↓opure_e, ↓oif_t, ↓oif_f, ↓E_isPlace_y, ↓E_isPlace_n, ↓E_isNumber_y, ↓E_isNumber_n, ↓M_isPlace_y, ↓M_isPlace_n, ↓M_isNumber_y, ↓M_isNumber_n, ↓M_in_y, ↓M_in_n, ↓us_ne, si, sj, ↓ni, ↓nj, ↓e1, ex]
          exact x2
        · simp (disch := omega) only [↓jn_e, ↓ite_y, ↓ite_n, ↓oadd_eq, ↓osub_eq, ↓omul_eq, ↓odiv_eq, ↓orem_eq, ↓rd_eq, ↓wr_eq, ↓gf_e, ↓pf_e, ↓bnd_e, ↓bndp_e, ↓opure_e, ↓oif_t, ↓oif_f, ↓E_isPlace_y, ↓E_isPlace_n, ↓E_isNumber_y, ↓E_isNumber_n, ↓M_isPlace_y, ↓M_isPlace_n, ↓M_isNumber_y, ↓M_isNumber_n, ↓M_in_y, ↓M_in_n, ↓us_ne, si, sj, ↓ni, ↓nj, ↓e1, ex]
          exact x2
theorem call_merges : HS_27 SS := by
  intro k σ τ z0 z1 z2 hk hS i0 i1 i2
  have hS0 := hS
  obtain ⟨⟨ρ, hW⟩, hT, hr, hn, hm⟩ := hS
  unfold E_merges M_merges
  by_cases a : 0 ≤ z0 ∧ z0 < 6
  · have hP := hW.2.2 z0 a.1 a.2
    have s0 := hP.2.1
    have n0 := hP.1
    by_cases b : 0 ≤ z1 ∧ z1 < 6
    · have hQ := hW.2.2 z1 b.1 b.2
      have s1 := hQ.2.1
      have n1 := hQ.1
      by_cases c : 0 ≤ z2 ∧ z2 < 6
      · by_cases d : σ 25 z0 + σ 25 z1 ≤ 255
        · obtain ⟨sa, e5, f5, c5, d5⟩ := readBoth_ex (σ := σ) a b n0 n1
          have x0 : us τ 33 0 0 3 z0 = σ 25 z0 := by rw [us_ne (by decide)]; exact s0
          have x1 : us τ 33 0 0 3 z1 = σ 25 z1 := by rw [us_ne (by decide)]; exact s1
          obtain ⟨s2, t2, y1, y2, y3⟩ := merges_loop (K1 := fun (s9 : St) => bnd (E_build s9 z2 (σ 25 z0 + σ 25 z1)) fun v11 s12 => some (v11, s12)) (K2 := fun (s9 : St) => bnd (M_builds s9 z2) fun v11 s12 => some (v11, s12)) (N := σ 25 z0 + σ 25 z1) (σ := sa) (τ := us τ 33 0 0) a b (by omega) d (by omega) (by omega) (by rw [f5 25 (by decide)]; exact x0.symm) (by rw [f5 25 (by decide)]; exact x1.symm)
            (fun x p q => by rw [c5 x p (by omega), us_ne (by decide)]; exact hP.num ⟨p, by omega⟩) (fun x p q => by rw [d5 x p (by omega), us_ne (by decide)]; exact hQ.num ⟨p, by omega⟩) (σ 25 z0 + σ 25 z1).toNat FU FU sa (us (us τ 33 0 0) 3 7 0) 0 0 0 (by omega) (by omega) (by omega) (by omega) (by omega) (by omega) (by unfold FU; omega) (by unfold FU; omega) (BR.start _ _)
          obtain ⟨σ4, τ4, w1, w2, w3⟩ := builds_ex (p := z2) (y3.ss hS0 f5 rfl) hk (by omega) y3.2.2.2.1 y3.2.2.2.2 c
          refine ⟨σ 25 z0 + σ 25 z1, σ4, τ4, ?_, ?_, w3⟩
          · simp (disch := omega) only [↓jn_e, ↓ite_y, ↓ite_n, ↓oadd_eq, ↓osub_eq, ↓omul_eq, ↓odiv_eq, ↓orem_eq, ↓rd_eq, ↓wr_eq, ↓gf_e, ↓pf_e, ↓bnd_e, ↓bndp_e, ↓opure_e, ↓oif_t, ↓oif_f, ↓E_isPlace_y, ↓E_isPlace_n, ↓E_isNumber_y, ↓E_isNumber_n, ↓M_isPlace_y, ↓M_isPlace_n, ↓M_isNumber_y, ↓M_isNumber_n, ↓M_in_y, ↓M_in_n, ↓us_ne, ↓e5]
            refine y1.trans ?_
            simp (disch := omega) only [↓jn_e, ↓ite_y, ↓ite_n, ↓oadd_eq, ↓osub_eq, ↓omul_eq, ↓odiv_eq, ↓orem_eq, ↓rd_eq, ↓wr_eq, ↓gf_e, ↓pf_e, ↓bnd_e, ↓bndp_e, ↓opure_e, ↓oif_t, ↓oif_f, ↓E_isPlace_y, ↓E_isPlace_n, ↓E_isNumber_y, ↓E_isNumber_n, ↓M_isPlace_y, ↓M_isPlace_n, ↓M_isNumber_y, ↓M_isNumber_n, ↓M_in_y, ↓M_in_n, ↓us_ne, ↓w1]
          · simp (disch := omega) only [↓jn_e, ↓ite_y, ↓ite_n, ↓oadd_eq, ↓osub_eq, ↓omul_eq, ↓odiv_eq, ↓orem_eq, ↓rd_eq, ↓wr_eq, ↓gf_e, ↓pf_e, ↓bnd_e, ↓bndp_e, ↓opure_e, ↓oif_t, ↓oif_f, ↓E_isPlace_y, ↓E_isPlace_n, ↓E_isNumber_y, ↓E_isNumber_n, ↓M_isPlace_y, ↓M_isPlace_n, ↓M_isNumber_y, ↓M_isNumber_n, ↓M_in_y, ↓M_in_n, ↓us_ne]
            refine y2.trans ?_
            simp (disch := omega) only [↓jn_e, ↓ite_y, ↓ite_n, ↓oadd_eq, ↓osub_eq, ↓omul_eq, ↓odiv_eq, ↓orem_eq, ↓rd_eq, ↓wr_eq, ↓gf_e, ↓pf_e, ↓bnd_e, ↓bndp_e, ↓opure_e, ↓oif_t, ↓oif_f, ↓E_isPlace_y, ↓E_isPlace_n, ↓E_isNumber_y, ↓E_isNumber_n, ↓M_isPlace_y, ↓M_isPlace_n, ↓M_isNumber_y, ↓M_isNumber_n, ↓M_in_y, ↓M_in_n, ↓us_ne, ↓w2]
        · refine ⟨-2, σ, us τ 33 0 0, ?_, ?_, hS0.thr⟩
          · simp (disch := omega) only [↓jn_e, ↓ite_y, ↓ite_n, ↓oadd_eq, ↓osub_eq, ↓omul_eq, ↓odiv_eq, ↓orem_eq, ↓rd_eq, ↓wr_eq, ↓gf_e, ↓pf_e, ↓bnd_e, ↓bndp_e, ↓opure_e, ↓oif_t, ↓oif_f, ↓E_isPlace_y, ↓E_isPlace_n, ↓E_isNumber_y, ↓E_isNumber_n, ↓M_isPlace_y, ↓M_isPlace_n, ↓M_isNumber_y, ↓M_isNumber_n, ↓M_in_y, ↓M_in_n, ↓us_ne]
          · simp (disch := omega) only [↓jn_e, ↓ite_y, ↓ite_n, ↓oadd_eq, ↓osub_eq, ↓omul_eq, ↓odiv_eq, ↓orem_eq, ↓rd_eq, ↓wr_eq, ↓gf_e, ↓pf_e, ↓bnd_e, ↓bndp_e, ↓opure_e, ↓oif_t, ↓oif_f, ↓E_isPlace_y, ↓E_isPlace_n, ↓E_isNumber_y, ↓E_isNumber_n, ↓M_isPlace_y, ↓M_isPlace_n, ↓M_isNumber_y, ↓M_isNumber_n, ↓M_in_y, ↓M_in_n, ↓us_ne]
      · refine ⟨-1, σ, us τ 33 0 0, ?_, ?_, hS0.thr⟩
        · simp (disch := omega) only [↓jn_e, ↓ite_y, ↓ite_n, ↓oadd_eq, ↓osub_eq, ↓omul_eq, ↓odiv_eq, ↓orem_eq, ↓rd_eq, ↓wr_eq, ↓gf_e, ↓pf_e, ↓bnd_e, ↓bndp_e, ↓opure_e, ↓oif_t, ↓oif_f, ↓E_isPlace_y, ↓E_isPlace_n, ↓E_isNumber_y, ↓E_isNumber_n, ↓M_isPlace_y, ↓M_isPlace_n, ↓M_isNumber_y, ↓M_isNumber_n, ↓M_in_y, ↓M_in_n, ↓us_ne]
        · simp (disch := omega) only [↓jn_e, ↓ite_y, ↓ite_n, ↓oadd_eq, ↓osub_eq, ↓omul_eq, ↓odiv_eq, ↓orem_eq, ↓rd_eq, ↓wr_eq, ↓gf_e, ↓pf_e, ↓bnd_e, ↓bndp_e, ↓opure_e, ↓oif_t, ↓oif_f, ↓E_isPlace_y, ↓E_isPlace_n, ↓E_isNumber_y, ↓E_isNumber_n, ↓M_isPlace_y, ↓M_isPlace_n, ↓M_isNumber_y, ↓M_isNumber_n, ↓M_in_y, ↓M_in_n, ↓us_ne]
    · refine ⟨-1, σ, us τ 33 0 0, ?_, ?_, hS0.thr⟩
      · simp (disch := omega) only [↓jn_e, ↓ite_y, ↓ite_n, ↓oadd_eq, ↓osub_eq, ↓omul_eq, ↓odiv_eq, ↓orem_eq, ↓rd_eq, ↓wr_eq, ↓gf_e, ↓pf_e, ↓bnd_e, ↓bndp_e, ↓opure_e, ↓oif_t, ↓oif_f, ↓E_isPlace_y, ↓E_isPlace_n, ↓E_isNumber_y, ↓E_isNumber_n, ↓M_isPlace_y, ↓M_isPlace_n, ↓M_isNumber_y, ↓M_isNumber_n, ↓M_in_y, ↓M_in_n, ↓us_ne]
      · simp (disch := omega) only [↓jn_e, ↓ite_y, ↓ite_n, ↓oadd_eq, ↓osub_eq, ↓omul_eq, ↓odiv_eq, ↓orem_eq, ↓rd_eq, ↓wr_eq, ↓gf_e, ↓pf_e, ↓bnd_e, ↓bndp_e, ↓opure_e, ↓oif_t, ↓oif_f, ↓E_isPlace_y, ↓E_isPlace_n, ↓E_isNumber_y, ↓E_isNumber_n, ↓M_isPlace_y, ↓M_isPlace_n, ↓M_isNumber_y, ↓M_isNumber_n, ↓M_in_y, ↓M_in_n, ↓us_ne]
  · refine ⟨-1, σ, us τ 33 0 0, ?_, ?_, hS0.thr⟩
    · simp (disch := omega) only [↓jn_e, ↓ite_y, ↓ite_n, ↓oadd_eq, ↓osub_eq, ↓omul_eq, ↓odiv_eq, ↓orem_eq, ↓rd_eq, ↓wr_eq, ↓gf_e, ↓pf_e, ↓bnd_e, ↓bndp_e, ↓opure_e, ↓oif_t, ↓oif_f, ↓E_isPlace_y, ↓E_isPlace_n, ↓E_isNumber_y, ↓E_isNumber_n, ↓M_isPlace_y, ↓M_isPlace_n, ↓M_isNumber_y, ↓M_isNumber_n, ↓M_in_y, ↓M_in_n, ↓us_ne]
    · simp (disch := omega) only [↓jn_e, ↓ite_y, ↓ite_n, ↓oadd_eq, ↓osub_eq, ↓omul_eq, ↓odiv_eq, ↓orem_eq, ↓rd_eq, ↓wr_eq, ↓gf_e, ↓pf_e, ↓bnd_e, ↓bndp_e, ↓opure_e, ↓oif_t, ↓oif_f, ↓E_isPlace_y, ↓E_isPlace_n, ↓E_isNumber_y, ↓E_isNumber_n, ↓M_isPlace_y, ↓M_isPlace_n, ↓M_isNumber_y, ↓M_isNumber_n, ↓M_in_y, ↓M_in_n, ↓us_ne]

-- MATH 34: asks: numbers, search, reaches, count, row
theorem numbers_loop {K : St → Option (Int × St)} {i N fr c : Int} (hi : 0 ≤ i ∧ i < 6) (hN : 0 ≤ N ∧ N ≤ 255) (hf : 0 ≤ fr ∧ fr ≤ N) (hc : c = imin 16 (N - fr)) {σ τ : St} (h3 : τ 3 i = N) (hu : ∀ x, 0 ≤ x → x < N → σ 26 x = τ 1 (256 * i + x) ∧ -999 ≤ τ 1 (256 * i + x) ∧ τ 1 (256 * i + x) ≤ 999) : ∀ (r m1 m2 : Nat) (s t : St) (x : Int), x + r = fr + c → fr ≤ x → r < m1 → r < m2 → Fr [13, 34] σ s → Fr [5, 32] τ t → Rw s t → s 34 0 = x - fr →
    ∃ s2 t2, E_numbers_L59 fr c m1 s x = some (c, s2) ∧ M_numbers_L37 K i m2 t x = K t2 ∧ Fr [13, 34] σ s2 ∧ Fr [5, 32] τ t2 ∧ Rw s2 t2 ∧ t2 32 0 = c := by
  have hmin := imin_le 16 (N - fr)
  intro r
  induction r with
  | zero =>
    intro m1 m2 s t x h1 h0 h2 h3' hF hG hR hx
    cases m1 with
    | zero => omega
    | succ m1 =>
    cases m2 with
    | zero => omega
    | succ m2 =>
    have t3 : t 3 i = N := by rw [hG 3 (by decide)]; exact h3
    have t32 : t 32 0 = x - fr := by have := hR.1; omega
    refine ⟨s, t, ?_, ?_, hF, hG, hR, by omega⟩
    · unfold E_numbers_L59
      rw [oadd_eq (by omega), if_neg (by omega)]
    · unfold M_numbers_L37
      rw [rd_eq (by omega), t3]
      by_cases q : x < N
      · rw [if_pos q, gf_eq, t32, if_neg (by omega)]
      · rw [if_neg q]
  | succ r ih =>
    intro m1 m2 s t x h1 h0 h2 h3' hF hG hR hx
    cases m1 with
    | zero => omega
    | succ m1 =>
    cases m2 with
    | zero => omega
    | succ m2 =>
    have t3 : t 3 i = N := by rw [hG 3 (by decide)]; exact h3
    have t32 : t 32 0 = x - fr := by have := hR.1; omega
    have ux := hu x (by omega) (by omega)
    have e26 : s 26 x = τ 1 (256 * i + x) := by rw [hF 26 (by decide)]; exact ux.1
    have nM : M_number t i x = some (τ 1 (256 * i + x)) := by rw [M_number_eq (by omega) (by omega), hG 1 (by decide)]
    obtain ⟨s1, t1, e1, e2, r1, f1, g1, n1⟩ := hR.add (v := τ 1 (256 * i + x)) (by omega) (by omega)
    obtain ⟨s2, t2, x1, x2, x3⟩ := ih m1 m2 s1 t1 (x + 1) (by omega) (by omega) (by omega) (by omega) (hF.tr f1) (hG.tr g1) r1 (by omega)
    refine ⟨s2, t2, ?_, ?_, x3⟩
    · unfold E_numbers_L59
      rw [oadd_eq (by omega), if_pos (by omega), rd_eq (by omega), e26, e1, bnd_eq, oadd_eq (by omega)]
      exact x1
    · unfold M_numbers_L37
      rw [rd_eq (by omega), t3, if_pos (by omega), gf_eq, t32, if_pos (by omega), nM, bndp_eq, e2, bnd_eq, oadd_eq (by omega)]
      exact x2
theorem call_numbers : HS_34 SS := by
  intro k σ τ z0 z1 hk hS i0 i1
  have hS0 := hS
  obtain ⟨⟨ρ, hW⟩, hT, hr, hn, hm⟩ := hS
  unfold E_numbers M_numbers
  by_cases a : 0 ≤ z0 ∧ z0 < 6
  · have hP := hW.2.2 z0 a.1 a.2
    have s0 := hP.2.1
    have n0 := hP.1
    by_cases b : 0 ≤ z1 ∧ z1 ≤ σ 25 z0
    · have b1 : E_isRange σ z0 0 z1 = some 1 := isRange_y (by omega)
      have b2 : M_in z1 0 (τ 3 z0) = some 1 := M_in_y (by omega)
      obtain ⟨sa, e1, f1, c1⟩ := read_one_eq σ (σ 24 z0) (σ 25 z0) n0
      have hmin := imin_le 16 (σ 25 z0 - z1)
      have q25 : sa 25 z0 = σ 25 z0 := by rw [f1 25 (by decide)]
      obtain ⟨s2, t2, x1, x2, x3, x4, x5, x6⟩ := numbers_loop (K := fun (s6 : St) => gf s6 32 fun v8 => some (v8, s6)) (N := σ 25 z0) (fr := z1) (c := imin 16 (σ 25 z0 - z1)) a n0 b rfl (σ := us sa 34 0 0) (τ := us (us τ 33 0 0) 32 0 0) (by rw [us_ne (by decide), us_ne (by decide)]; exact s0)
        (fun x p q => by rw [us_ne (by decide), us_ne (by decide), us_ne (by decide), c1 x p q]; exact hP.num ⟨p, q⟩) (imin 16 (σ 25 z0 - z1)).toNat FU FU (us sa 34 0 0) (us (us τ 33 0 0) 32 0 0) z1 (by omega) (by omega) (by unfold FU; omega) (by unfold FU; omega) (Fr.rf _ _) (Fr.rf _ _) (Rw.nil _ _) (by rw [us_eq]; omega)
      have e34 : Row_clear sa = some (0, us sa 34 0 0) := rfl
      refine ⟨imin 16 (σ 25 z0 - z1), s2, t2, ?_, ?_, hS0.ask ((f1.mono (by decide)).tr (((Fr.rf [13, 34] sa).us (by decide)).tr x3 |>.mono (by decide))) (((fr_sc [33, 32, 5] τ 33 0 (by decide)).us (by decide)).tr (x4.mono (by decide)) |>.mono (by decide)) (Rws.fr (((fr_sc [33, 32, 5] τ 33 0 (by decide)).us (by decide)).tr (x4.mono (by decide))) (by decide) (by decide) (by decide) _) x5⟩
      · rw [b1, bndp_eq, if_neg (by decide), rd_eq (by omega), rd_eq (by omega), e1, bnd_eq, rd_eq (by omega), q25, osub_eq (by omega), opure_eq, e34, bnd_eq]
        exact x1
      · rw [pf_eq, M_isPlace_y a, bndp_eq, if_neg (by decide), rd_eq (by omega), us_ne (by decide), b2, bndp_eq, if_neg (by decide), pf_eq, jn_eq]
        refine x2.trans ?_
        rw [gf_eq, x6]
    · have b1 : E_isRange σ z0 0 z1 = some 0 := isRange_n (by omega)
      have b2 : M_in z1 0 (τ 3 z0) = some 0 := M_in_n (by omega)
      refine ⟨-1, σ, us τ 33 0 0, ?_, ?_, hS0.thr⟩
      · simp (disch := omega) only [↓jn_e, ↓ite_y, ↓ite_n, ↓oadd_eq, ↓osub_eq, ↓omul_eq, ↓odiv_eq, ↓orem_eq, ↓rd_eq, ↓wr_eq, ↓gf_e, ↓pf_e, ↓bnd_e, ↓bndp_e, ↓opure_e, ↓oif_t, ↓oif_f, ↓E_isPlace_y, ↓E_isPlace_n, ↓E_isNumber_y, ↓E_isNumber_n, ↓M_isPlace_y, ↓M_isPlace_n, ↓M_isNumber_y, ↓M_isNumber_n, ↓M_in_y, ↓M_in_n, ↓us_ne, ↓b1]
      · simp (disch := omega) only [↓jn_e, ↓ite_y, ↓ite_n, ↓oadd_eq, ↓osub_eq, ↓omul_eq, ↓odiv_eq, ↓orem_eq, ↓rd_eq, ↓wr_eq, ↓gf_e, ↓pf_e, ↓bnd_e, ↓bndp_e, ↓opure_e, ↓oif_t, ↓oif_f, ↓E_isPlace_y, ↓E_isPlace_n, ↓E_isNumber_y, ↓E_isNumber_n, ↓M_isPlace_y, ↓M_isPlace_n, ↓M_isNumber_y, ↓M_isNumber_n, ↓M_in_y, ↓M_in_n, ↓us_ne, ↓b2]
  · have b1 : E_isRange σ z0 0 z1 = some 0 := isRange_n (by omega)
    refine ⟨-1, σ, us τ 33 0 0, ?_, ?_, hS0.thr⟩
    · simp (disch := omega) only [↓jn_e, ↓ite_y, ↓ite_n, ↓oadd_eq, ↓osub_eq, ↓omul_eq, ↓odiv_eq, ↓orem_eq, ↓rd_eq, ↓wr_eq, ↓gf_e, ↓pf_e, ↓bnd_e, ↓bndp_e, ↓opure_e, ↓oif_t, ↓oif_f, ↓E_isPlace_y, ↓E_isPlace_n, ↓E_isNumber_y, ↓E_isNumber_n, ↓M_isPlace_y, ↓M_isPlace_n, ↓M_isNumber_y, ↓M_isNumber_n, ↓M_in_y, ↓M_in_n, ↓us_ne, ↓b1]
    · simp (disch := omega) only [↓jn_e, ↓ite_y, ↓ite_n, ↓oadd_eq, ↓osub_eq, ↓omul_eq, ↓odiv_eq, ↓orem_eq, ↓rd_eq, ↓wr_eq, ↓gf_e, ↓pf_e, ↓bnd_e, ↓bndp_e, ↓opure_e, ↓oif_t, ↓oif_f, ↓E_isPlace_y, ↓E_isPlace_n, ↓E_isNumber_y, ↓E_isNumber_n, ↓M_isPlace_y, ↓M_isPlace_n, ↓M_isNumber_y, ↓M_isNumber_n, ↓M_in_y, ↓M_in_n, ↓us_ne]
theorem search_loop {K1 K2 : Int → Int → Option (Int × St)} {i N v : Int} (hi : 0 ≤ i ∧ i < 6) (hN : 0 ≤ N ∧ N ≤ 255) {s τ : St} (hu : ∀ x, 0 ≤ x → x < N → s 26 x = τ 1 (256 * i + x)) : ∀ (r m1 m2 : Nat) (lo hi9 c : Int), hi9 - lo ≤ r → 0 ≤ lo → lo ≤ hi9 → hi9 ≤ N → r < m1 → r < m2 → 0 ≤ c → c + r ≤ 255 →
    ∃ lo2 c2, E_search_L52 K1 s v m1 lo hi9 c = K1 lo2 c2 ∧ M_search_L34 K2 τ i v m2 lo hi9 c = K2 lo2 c2 ∧ 0 ≤ lo2 ∧ lo2 ≤ N ∧ 0 ≤ c2 ∧ c2 ≤ 255 := by
  intro r
  induction r with
  | zero =>
    intro m1 m2 lo hi9 c h1 h0 hl hh h2 h3 hc hcr
    cases m1 with
    | zero => omega
    | succ m1 =>
    cases m2 with
    | zero => omega
    | succ m2 =>
    refine ⟨lo, c, ?_, ?_, by omega, by omega, hc, by omega⟩
    · unfold E_search_L52
      exact if_neg (by omega)
    · unfold M_search_L34
      exact if_neg (by omega)
  | succ r ih =>
    intro m1 m2 lo hi9 c h1 h0 hl hh h2 h3 hc hcr
    cases m1 with
    | zero => omega
    | succ m1 =>
    cases m2 with
    | zero => omega
    | succ m2 =>
    by_cases q : lo < hi9
    · have um := hu ((lo + hi9) / 2) (by omega) (by omega)
      have nM : M_number τ i ((lo + hi9) / 2) = some (τ 1 (256 * i + (lo + hi9) / 2)) := M_number_eq (by omega) (by omega)
      by_cases w : τ 1 (256 * i + (lo + hi9) / 2) < v
      · obtain ⟨lo2, c2, x1, x2, x3⟩ := ih m1 m2 ((lo + hi9) / 2 + 1) hi9 (c + 1) (by omega) (by omega) (by omega) (by omega) (by omega) (by omega) (by omega) (by omega)
        refine ⟨lo2, c2, ?_, ?_, x3⟩
        · conv => lhs; unfold E_search_L52
          simp (disch := omega) only [↓jn_e, ↓ite_y, ↓ite_n, ↓oadd_eq, ↓osub_eq, ↓omul_eq, ↓odiv_eq, ↓orem_eq, ↓rd_eq, ↓wr_eq, ↓gf_e, ↓pf_e, ↓bnd_e, ↓bndp_e, ↓opure_e, ↓oif_t, ↓oif_f, ↓E_isPlace_y, ↓E_isPlace_n, ↓E_isNumber_y, ↓E_isNumber_n, ↓M_isPlace_y, ↓M_isPlace_n, ↓M_isNumber_y, ↓M_isNumber_n, ↓M_in_y, ↓M_in_n, ↓us_ne, um]
          exact x1
        · conv => lhs; unfold M_search_L34
          simp (disch := omega) only [↓jn_e, ↓ite_y, ↓ite_n, ↓oadd_eq, ↓osub_eq, ↓omul_eq, ↓odiv_eq, ↓orem_eq, ↓rd_eq, ↓wr_eq, ↓gf_e, ↓pf_e, ↓bnd_e, ↓bndp_e, ↓opure_e, ↓oif_t, ↓oif_f, ↓E_isPlace_y, ↓E_isPlace_n, ↓E_isNumber_y, ↓E_isNumber_n, ↓M_isPlace_y, ↓M_isPlace_n, ↓M_isNumber_y, ↓M_isNumber_n, ↓M_in_y, ↓M_in_n, ↓us_ne, ↓nM]
          exact x2
      · obtain ⟨lo2, c2, x1, x2, x3⟩ := ih m1 m2 lo ((lo + hi9) / 2) (c + 1) (by omega) (by omega) (by omega) (by omega) (by omega) (by omega) (by omega) (by omega)
        refine ⟨lo2, c2, ?_, ?_, x3⟩
        · conv => lhs; unfold E_search_L52
          simp (disch := omega) only [↓jn_e, ↓ite_y, ↓ite_n, ↓oadd_eq, ↓osub_eq, ↓omul_eq, ↓odiv_eq, ↓orem_eq, ↓rd_eq, ↓wr_eq, ↓gf_e, ↓pf_e, ↓bnd_e, ↓bndp_e, ↓opure_e, ↓oif_t, ↓oif_f, ↓E_isPlace_y, ↓E_isPlace_n, ↓E_isNumber_y, ↓E_isNumber_n, ↓M_isPlace_y, ↓M_isPlace_n, ↓M_isNumber_y, ↓M_isNumber_n, ↓M_in_y, ↓M_in_n, ↓us_ne, um]
          exact x1
        · conv => lhs; unfold M_search_L34
          simp (disch := omega) only [↓jn_e, ↓ite_y, ↓ite_n, ↓oadd_eq, ↓osub_eq, ↓omul_eq, ↓odiv_eq, ↓orem_eq, ↓rd_eq, ↓wr_eq, ↓gf_e, ↓pf_e, ↓bnd_e, ↓bndp_e, ↓opure_e, ↓oif_t, ↓oif_f, ↓E_isPlace_y, ↓E_isPlace_n, ↓E_isNumber_y, ↓E_isNumber_n, ↓M_isPlace_y, ↓M_isPlace_n, ↓M_isNumber_y, ↓M_isNumber_n, ↓M_in_y, ↓M_in_n, ↓us_ne, ↓nM]
          exact x2
    · refine ⟨lo, c, ?_, ?_, by omega, by omega, hc, by omega⟩
      · unfold E_search_L52
        exact if_neg (by omega)
      · unfold M_search_L34
        exact if_neg (by omega)
theorem call_search : HS_38 SS := by
  intro k σ τ z0 z1 hk hS i0 i1
  have hS0 := hS
  obtain ⟨⟨ρ, hW⟩, hT, hr, hn, hm⟩ := hS
  unfold E_search M_search
  by_cases a : 0 ≤ z0 ∧ z0 < 6
  · have hP := hW.2.2 z0 a.1 a.2
    have s0 := hP.2.1
    have n0 := hP.1
    by_cases b : -999 ≤ z1 ∧ z1 ≤ 999
    · obtain ⟨sa, e1, f1, c1⟩ := read_one_eq σ (σ 24 z0) (σ 25 z0) n0
      have q25 : sa 25 z0 = σ 25 z0 := by rw [f1 25 (by decide)]
      have hu : ∀ x, 0 ≤ x → x < σ 25 z0 → sa 26 x = us τ 33 0 0 1 (256 * z0 + x) := fun x p q => by rw [c1 x p q, us_ne (by decide)]; exact (hP.num ⟨p, q⟩).1
      obtain ⟨K1, hK1⟩ : ∃ K1 : Int → Int → Option (Int × St), K1 = fun (x8 : Int) (x9 : Int) => rd sa 25 6 z0 fun v11 => jn (fun (x12 : Int) => bnd (Row_tell1 sa x9 x12) fun _ s15 => some (x8, s15)) fun k13 => jn (k13 0) fun k16 => if x8 < v11 then (rd sa 26 256 x8 fun v17 => if v17 = z1 then (k13 1) else (k16)) else (k16) := ⟨_, rfl⟩
      obtain ⟨K2, hK2⟩ : ∃ K2 : Int → Int → Option (Int × St), K2 = fun (x5 : Int) (x6 : Int) => pf (us τ 33 0 0) 32 0 fun s8 => bnd (M_tell s8 x6) fun _ s10 => rd s10 3 10 z0 fun v11 => jn (fun (x12 : Int) => bnd (M_tell s10 x12) fun _ s15 => some (x5, s15)) fun k13 => jn (k13 0) fun k16 => if x5 < v11 then (bndp (M_number s10 z0 x5) fun v17 => if v17 = z1 then (k13 1) else (k16)) else (k16) := ⟨_, rfl⟩
      obtain ⟨lo, c, y1, y2, y3, y4, y5, y6⟩ := search_loop (K1 := K1) (K2 := K2) (v := z1) (N := σ 25 z0) a n0 hu 255 FU FU 0 (σ 25 z0) 0 (by omega) (by omega) (by omega) (by omega) (by unfold FU; omega) (by unfold FU; omega) (by omega) (by omega)
      obtain ⟨w, hw⟩ : ∃ w : Int, w = if lo < σ 25 z0 ∧ τ 1 (256 * z0 + lo) = z1 then 1 else 0 := ⟨_, rfl⟩
      have hwr : 0 ≤ w ∧ w ≤ 1 := by rw [hw]; split <;> omega
      obtain ⟨σt, τ1, τt, t1, t2, t3, t4, t5, t6, t7, -⟩ := tells2 sa (us τ 33 0 0) (a := c) (b := w) (by omega) (by omega)
      have r3 : τ1 3 z0 = σ 25 z0 := by rw [t6 3 (by decide), us_ne (by decide)]; exact s0
      refine ⟨lo, σt, τt, ?_, ?_, hS0.ask ((f1.mono (by decide)).tr (t5.mono (by decide))) (((fr_sc [33] τ 33 0 (by decide)).mono (by decide)).tr (t7.mono (by decide))) ((Rws.fr (fr_sc [33] _ _ _ (by decide)) (by decide) (by decide) (by decide) _).tr (Rws.fr t7 (by decide) (by decide) (by decide) _)) t4⟩
      · rw [E_isPlace_y a, bndp_eq, if_neg (by decide), E_isNumber_y b, bndp_eq, if_neg (by decide), rd_eq (by omega), rd_eq (by omega), e1, bnd_eq, rd_eq (by omega), q25, ← hK1, jn_eq]
        refine y1.trans ?_
        rw [hK1]
        by_cases q : lo < σ 25 z0
        · have u2 := hu lo y3 q
          rw [us_ne (by decide)] at u2
          by_cases q2 : τ 1 (256 * z0 + lo) = z1
          · rw [if_pos ⟨q, q2⟩] at hw
            rw [hw] at t1
            simp (disch := omega) only [↓jn_e, ↓ite_y, ↓ite_n, ↓oadd_eq, ↓osub_eq, ↓omul_eq, ↓odiv_eq, ↓orem_eq, ↓rd_eq, ↓wr_eq, ↓gf_e, ↓pf_e, ↓bnd_e, ↓bndp_e, ↓opure_e, ↓oif_t, ↓oif_f, ↓E_isPlace_y, ↓E_isPlace_n, ↓E_isNumber_y, ↓E_isNumber_n, ↓M_isPlace_y, ↓M_isPlace_n, ↓M_isNumber_y, ↓M_isNumber_n, ↓M_in_y, ↓M_in_n, ↓us_ne, q25, u2, ↓t1]
          · rw [if_neg (fun e => q2 e.2)] at hw
            rw [hw] at t1
            simp (disch := omega) only [↓jn_e, ↓ite_y, ↓ite_n, ↓oadd_eq, ↓osub_eq, ↓omul_eq, ↓odiv_eq, ↓orem_eq, ↓rd_eq, ↓wr_eq, ↓gf_e, ↓pf_e, ↓bnd_e, ↓bndp_e, ↓opure_e, ↓oif_t, ↓oif_f, ↓E_isPlace_y, ↓E_isPlace_n, ↓E_isNumber_y, ↓E_isNumber_n, ↓M_isPlace_y, ↓M_isPlace_n, ↓M_isNumber_y, ↓M_isNumber_n, ↓M_in_y, ↓M_in_n, ↓us_ne, q25, u2, ↓t1]
        · rw [if_neg (fun e => q e.1)] at hw
          rw [hw] at t1
          simp (disch := omega) only [↓jn_e, ↓ite_y, ↓ite_n, ↓oadd_eq, ↓osub_eq, ↓omul_eq, ↓odiv_eq, ↓orem_eq, ↓rd_eq, ↓wr_eq, ↓gf_e, ↓pf_e, ↓bnd_e, ↓bndp_e, ↓opure_e, ↓oif_t, ↓oif_f, ↓E_isPlace_y, ↓E_isPlace_n, ↓E_isNumber_y, ↓E_isNumber_n, ↓M_isPlace_y, ↓M_isPlace_n, ↓M_isNumber_y, ↓M_isNumber_n, ↓M_in_y, ↓M_in_n, ↓us_ne, q25, ↓t1]
      · rw [pf_eq, M_isPlace_y a, bndp_eq, if_neg (by decide), M_isNumber_y b, bndp_eq, if_neg (by decide), rd_eq (by omega), us_ne (by decide), s0, ← hK2, jn_eq]
        refine y2.trans ?_
        rw [hK2]
        by_cases q : lo < σ 25 z0
        · have nM : M_number τ1 z0 lo = some (τ 1 (256 * z0 + lo)) := by rw [M_number_eq (by omega) (by omega), t6 1 (by decide), us_ne (by decide)]
          by_cases q2 : τ 1 (256 * z0 + lo) = z1
          · rw [if_pos ⟨q, q2⟩] at hw
            rw [hw] at t3
            simp (disch := omega) only [↓jn_e, ↓ite_y, ↓ite_n, ↓oadd_eq, ↓osub_eq, ↓omul_eq, ↓odiv_eq, ↓orem_eq, ↓rd_eq, ↓wr_eq, ↓gf_e, ↓pf_e, ↓bnd_e, ↓bndp_e, ↓opure_e, ↓oif_t, ↓oif_f, ↓E_isPlace_y, ↓E_isPlace_n, ↓E_isNumber_y, ↓E_isNumber_n, ↓M_isPlace_y, ↓M_isPlace_n, ↓M_isNumber_y, ↓M_isNumber_n, ↓M_in_y, ↓M_in_n, ↓us_ne, ↓t2, r3, ↓nM, ↓t3]
          · rw [if_neg (fun e => q2 e.2)] at hw
            rw [hw] at t3
            simp (disch := omega) only [↓jn_e, ↓ite_y, ↓ite_n, ↓oadd_eq, ↓osub_eq, ↓omul_eq, ↓odiv_eq, ↓orem_eq, ↓rd_eq, ↓wr_eq, ↓gf_e, ↓pf_e, ↓bnd_e, ↓bndp_e, ↓opure_e, ↓oif_t, ↓oif_f, ↓E_isPlace_y, ↓E_isPlace_n, ↓E_isNumber_y, ↓E_isNumber_n, ↓M_isPlace_y, ↓M_isPlace_n, ↓M_isNumber_y, ↓M_isNumber_n, ↓M_in_y, ↓M_in_n, ↓us_ne, ↓t2, r3, ↓nM, ↓t3]
        · rw [if_neg (fun e => q e.1)] at hw
          rw [hw] at t3
          simp (disch := omega) only [↓jn_e, ↓ite_y, ↓ite_n, ↓oadd_eq, ↓osub_eq, ↓omul_eq, ↓odiv_eq, ↓orem_eq, ↓rd_eq, ↓wr_eq, ↓gf_e, ↓pf_e, ↓bnd_e, ↓bndp_e, ↓opure_e, ↓oif_t, ↓oif_f, ↓E_isPlace_y, ↓E_isPlace_n, ↓E_isNumber_y, ↓E_isNumber_n, ↓M_isPlace_y, ↓M_isPlace_n, ↓M_isNumber_y, ↓M_isNumber_n, ↓M_in_y, ↓M_in_n, ↓us_ne, ↓t2, r3, ↓t3]
    · refine ⟨-1, σ, us τ 33 0 0, ?_, ?_, hS0.thr⟩
      · simp (disch := omega) only [↓jn_e, ↓ite_y, ↓ite_n, ↓oadd_eq, ↓osub_eq, ↓omul_eq, ↓odiv_eq, ↓orem_eq, ↓rd_eq, ↓wr_eq, ↓gf_e, ↓pf_e, ↓bnd_e, ↓bndp_e, ↓opure_e, ↓oif_t, ↓oif_f, ↓E_isPlace_y, ↓E_isPlace_n, ↓E_isNumber_y, ↓E_isNumber_n, ↓M_isPlace_y, ↓M_isPlace_n, ↓M_isNumber_y, ↓M_isNumber_n, ↓M_in_y, ↓M_in_n, ↓us_ne]
      · simp (disch := omega) only [↓jn_e, ↓ite_y, ↓ite_n, ↓oadd_eq, ↓osub_eq, ↓omul_eq, ↓odiv_eq, ↓orem_eq, ↓rd_eq, ↓wr_eq, ↓gf_e, ↓pf_e, ↓bnd_e, ↓bndp_e, ↓opure_e, ↓oif_t, ↓oif_f, ↓E_isPlace_y, ↓E_isPlace_n, ↓E_isNumber_y, ↓E_isNumber_n, ↓M_isPlace_y, ↓M_isPlace_n, ↓M_isNumber_y, ↓M_isNumber_n, ↓M_in_y, ↓M_in_n, ↓us_ne]
  · refine ⟨-1, σ, us τ 33 0 0, ?_, ?_, hS0.thr⟩
    · simp (disch := omega) only [↓jn_e, ↓ite_y, ↓ite_n, ↓oadd_eq, ↓osub_eq, ↓omul_eq, ↓odiv_eq, ↓orem_eq, ↓rd_eq, ↓wr_eq, ↓gf_e, ↓pf_e, ↓bnd_e, ↓bndp_e, ↓opure_e, ↓oif_t, ↓oif_f, ↓E_isPlace_y, ↓E_isPlace_n, ↓E_isNumber_y, ↓E_isNumber_n, ↓M_isPlace_y, ↓M_isPlace_n, ↓M_isNumber_y, ↓M_isNumber_n, ↓M_in_y, ↓M_in_n, ↓us_ne]
    · simp (disch := omega) only [↓jn_e, ↓ite_y, ↓ite_n, ↓oadd_eq, ↓osub_eq, ↓omul_eq, ↓odiv_eq, ↓orem_eq, ↓rd_eq, ↓wr_eq, ↓gf_e, ↓pf_e, ↓bnd_e, ↓bndp_e, ↓opure_e, ↓oif_t, ↓oif_f, ↓E_isPlace_y, ↓E_isPlace_n, ↓E_isNumber_y, ↓E_isNumber_n, ↓M_isPlace_y, ↓M_isPlace_n, ↓M_isNumber_y, ↓M_isNumber_n, ↓M_in_y, ↓M_in_n, ↓us_ne]
theorem reaches_loop {K1 K2 : Int → Int → Option (Int × St)} {i N v : Int} (hi : 0 ≤ i ∧ i < 6) (hN : 0 ≤ N ∧ N ≤ 255) {s τ : St} (h25 : s 25 i = N) (h3 : τ 3 i = N) (hu : ∀ x, 0 ≤ x → x < N → s 26 x = τ 1 (256 * i + x) ∧ -999 ≤ τ 1 (256 * i + x) ∧ τ 1 (256 * i + x) ≤ 999) : ∀ (r m1 m2 : Nat) (c x : Int), x + r = N → 0 ≤ x → r < m1 → r < m2 → -1000 * x ≤ c → c ≤ 1000 * x →
    ∃ c2 x2, E_reaches_L37 K1 s i v m1 c x = K1 c2 x2 ∧ M_reaches_L19 K2 τ i v m2 c x = K2 c2 x2 ∧ 0 ≤ x2 ∧ x2 ≤ N ∧ -1000 * x2 ≤ c2 ∧ c2 ≤ 1000 * x2 := by
  intro r
  induction r with
  | zero =>
    intro m1 m2 c x h1 h0 h2 h3' l1 l2
    cases m1 with
    | zero => omega
    | succ m1 =>
    cases m2 with
    | zero => omega
    | succ m2 =>
    refine ⟨c, x, ?_, ?_, h0, by omega, l1, l2⟩
    · unfold E_reaches_L37
      rw [rd_eq (by omega), h25, if_neg (by omega)]
    · unfold M_reaches_L19
      rw [rd_eq (by omega), h3, if_neg (by omega)]
  | succ r ih =>
    intro m1 m2 c x h1 h0 h2 h3' l1 l2
    cases m1 with
    | zero => omega
    | succ m1 =>
    cases m2 with
    | zero => omega
    | succ m2 =>
    have ux := hu x h0 (by omega)
    have nM : M_number τ i x = some (τ 1 (256 * i + x)) := M_number_eq (by omega) (by omega)
    by_cases q : c < v
    · obtain ⟨c2, x2, y1, y2, y3⟩ := ih m1 m2 (c + τ 1 (256 * i + x)) (x + 1) (by omega) (by omega) (by omega) (by omega) (by omega) (by omega)
      refine ⟨c2, x2, ?_, ?_, y3⟩
      · unfold E_reaches_L37
        rw [rd_eq (by omega), h25, if_pos (by omega), if_pos q, rd_eq (by omega), ux.1, oadd_eq (by omega), oadd_eq (by omega)]
        exact y1
      · unfold M_reaches_L19
        rw [rd_eq (by omega), h3, if_pos (by omega), if_pos q, nM, bndp_eq, oadd_eq (by omega), oadd_eq (by omega)]
        exact y2
    · refine ⟨c, x, ?_, ?_, h0, by omega, l1, l2⟩
      · unfold E_reaches_L37
        rw [rd_eq (by omega), h25, if_pos (by omega), if_neg q]
      · unfold M_reaches_L19
        rw [rd_eq (by omega), h3, if_pos (by omega), if_neg q]
theorem call_reaches : HS_39 SS := by
  intro k σ τ z0 z1 hk hS i0 i1
  have hS0 := hS
  obtain ⟨⟨ρ, hW⟩, hT, hr, hn, hm⟩ := hS
  unfold E_reaches M_reaches
  by_cases a : 0 ≤ z0 ∧ z0 < 6
  · have hP := hW.2.2 z0 a.1 a.2
    have s0 := hP.2.1
    have n0 := hP.1
    obtain ⟨sa, e1, f1, c1⟩ := read_one_eq σ (σ 24 z0) (σ 25 z0) n0
    have q25 : sa 25 z0 = σ 25 z0 := by rw [f1 25 (by decide)]
    obtain ⟨K1, hK1⟩ : ∃ K1 : Int → Int → Option (Int × St), K1 = fun (x6 : Int) (x7 : Int) => if x6 < z1 then (some ((-2), sa)) else (bnd (Row_tell sa x6) fun _ s10 => some (x7, s10)) := ⟨_, rfl⟩
    obtain ⟨K2, hK2⟩ : ∃ K2 : Int → Int → Option (Int × St), K2 = fun (x3 : Int) (x4 : Int) => if x3 < z1 then (some ((-2), us τ 33 0 0)) else (pf (us τ 33 0 0) 32 0 fun s6 => bnd (M_tell s6 x3) fun _ s8 => some (x4, s8)) := ⟨_, rfl⟩
    obtain ⟨c, x, y1, y2, y3, y4, y5, y6⟩ := reaches_loop (K1 := K1) (K2 := K2) (v := z1) (s := sa) (τ := us τ 33 0 0) a n0 q25 (by rw [us_ne (by decide)]; exact s0) (fun x p q => by rw [c1 x p q, us_ne (by decide)]; exact hP.num ⟨p, q⟩) (σ 25 z0).toNat FU FU 0 0 (by omega) (by omega) (by unfold FU; omega) (by unfold FU; omega) (by omega) (by omega)
    have fE : ∀ s' t', E_reaches_L37 K1 sa z0 z1 FU 0 0 = some s' → M_reaches_L19 K2 (us τ 33 0 0) z0 z1 FU 0 0 = some t' → E_reaches σ z0 z1 = some s' ∧ M_reaches τ z0 z1 = some t' := fun s' t' p q => by
      constructor
      · unfold E_reaches
        rw [E_isPlace_y a, bndp_eq, if_neg (by decide), rd_eq (by omega), rd_eq (by omega), e1, bnd_eq, ← hK1, jn_eq]
        exact p
      · unfold M_reaches
        rw [pf_eq, M_isPlace_y a, bndp_eq, if_neg (by decide), ← hK2, jn_eq]
        exact q
    by_cases q : c < z1
    · have w := fE (-2, sa) (-2, us τ 33 0 0) (y1.trans (by rw [hK1]; exact if_pos q)) (y2.trans (by rw [hK2]; exact if_pos q))
      exact ⟨-2, sa, us τ 33 0 0, w.1, w.2, hS0.asq (f1.mono (by decide)) (fr_sc _ _ _ _ (by decide)) (Rws.fr (fr_sc [33] _ _ _ (by decide)) (by decide) (by decide) (by decide) _)⟩
    · obtain ⟨σt, τt, t1, t2, t3, t4, t5, -⟩ := tells1 sa (us τ 33 0 0) (a := c) (by omega)
      have w := fE (x, σt) (x, τt) (y1.trans (by rw [hK1]; show (if c < z1 then _ else _) = _; rw [if_neg q, t1, bnd_eq])) (y2.trans (by rw [hK2]; show (if c < z1 then _ else _) = _; rw [if_neg q, pf_eq, t2, bnd_eq]))
      exact ⟨x, σt, τt, w.1, w.2, hS0.ask ((f1.mono (by decide)).tr (t4.mono (by decide))) (((fr_sc [33] τ 33 0 (by decide)).mono (by decide)).tr (t5.mono (by decide))) ((Rws.fr (fr_sc [33] _ _ _ (by decide)) (by decide) (by decide) (by decide) _).tr (Rws.fr t5 (by decide) (by decide) (by decide) _)) t3⟩
  · refine ⟨-1, σ, us τ 33 0 0, ?_, ?_, hS0.thr⟩
    · simp (disch := omega) only [↓jn_e, ↓ite_y, ↓ite_n, ↓oadd_eq, ↓osub_eq, ↓omul_eq, ↓odiv_eq, ↓orem_eq, ↓rd_eq, ↓wr_eq, ↓gf_e, ↓pf_e, ↓bnd_e, ↓bndp_e, ↓opure_e, ↓oif_t, ↓oif_f, ↓E_isPlace_y, ↓E_isPlace_n, ↓E_isNumber_y, ↓E_isNumber_n, ↓M_isPlace_y, ↓M_isPlace_n, ↓M_isNumber_y, ↓M_isNumber_n, ↓M_in_y, ↓M_in_n, ↓us_ne]
    · simp (disch := omega) only [↓jn_e, ↓ite_y, ↓ite_n, ↓oadd_eq, ↓osub_eq, ↓omul_eq, ↓odiv_eq, ↓orem_eq, ↓rd_eq, ↓wr_eq, ↓gf_e, ↓pf_e, ↓bnd_e, ↓bndp_e, ↓opure_e, ↓oif_t, ↓oif_f, ↓E_isPlace_y, ↓E_isPlace_n, ↓E_isNumber_y, ↓E_isNumber_n, ↓M_isPlace_y, ↓M_isPlace_n, ↓M_isNumber_y, ↓M_isNumber_n, ↓M_in_y, ↓M_in_n, ↓us_ne]
theorem places_loop {σ τ : St} (h : ∀ p, 0 ≤ p → p < 6 → τ 3 p = σ 25 p) : ∀ (r m : Nat) (b x : Int), x + r = 6 → 0 ≤ x → r < m → ∃ c, E_placesInUse_L4 σ m b x = some c ∧ M_fullPlaces_L4 τ m b x = some c := by
  intro r
  induction r with
  | zero =>
    intro m b x h1 h0 h2
    cases m with
    | zero => omega
    | succ m =>
    refine ⟨b, ?_, ?_⟩
    · unfold E_placesInUse_L4
      exact if_neg (by omega)
    · unfold M_fullPlaces_L4
      exact if_neg (by omega)
  | succ r ih =>
    intro m b x h1 h0 h2
    cases m with
    | zero => omega
    | succ m =>
    have e := h x h0 (by omega)
    by_cases q : 0 < σ 25 x
    · obtain ⟨c, c1, c2⟩ := ih m (bor b (bshl 1 x)) (x + 1) (by omega) (by omega) (by omega)
      refine ⟨c, ?_, ?_⟩
      · unfold E_placesInUse_L4
        simp (disch := omega) only [↓jn_e, ↓ite_y, ↓ite_n, ↓oadd_eq, ↓osub_eq, ↓omul_eq, ↓odiv_eq, ↓orem_eq, ↓rd_eq, ↓wr_eq, ↓gf_e, ↓pf_e, ↓bnd_e, ↓bndp_e, ↓opure_e, ↓oif_t, ↓oif_f, ↓E_isPlace_y, ↓E_isPlace_n, ↓E_isNumber_y, ↓E_isNumber_n, ↓M_isPlace_y, ↓M_isPlace_n, ↓M_isNumber_y, ↓M_isNumber_n, ↓M_in_y, ↓M_in_n, ↓us_ne]
        exact c1
      · unfold M_fullPlaces_L4
        simp (disch := omega) only [↓jn_e, ↓ite_y, ↓ite_n, ↓oadd_eq, ↓osub_eq, ↓omul_eq, ↓odiv_eq, ↓orem_eq, ↓rd_eq, ↓wr_eq, ↓gf_e, ↓pf_e, ↓bnd_e, ↓bndp_e, ↓opure_e, ↓oif_t, ↓oif_f, ↓E_isPlace_y, ↓E_isPlace_n, ↓E_isNumber_y, ↓E_isNumber_n, ↓M_isPlace_y, ↓M_isPlace_n, ↓M_isNumber_y, ↓M_isNumber_n, ↓M_in_y, ↓M_in_n, ↓us_ne, e]
        exact c2
    · obtain ⟨c, c1, c2⟩ := ih m (bor b 0) (x + 1) (by omega) (by omega) (by omega)
      refine ⟨c, ?_, ?_⟩
      · unfold E_placesInUse_L4
        simp (disch := omega) only [↓jn_e, ↓ite_y, ↓ite_n, ↓oadd_eq, ↓osub_eq, ↓omul_eq, ↓odiv_eq, ↓orem_eq, ↓rd_eq, ↓wr_eq, ↓gf_e, ↓pf_e, ↓bnd_e, ↓bndp_e, ↓opure_e, ↓oif_t, ↓oif_f, ↓E_isPlace_y, ↓E_isPlace_n, ↓E_isNumber_y, ↓E_isNumber_n, ↓M_isPlace_y, ↓M_isPlace_n, ↓M_isNumber_y, ↓M_isNumber_n, ↓M_in_y, ↓M_in_n, ↓us_ne]
        exact c1
      · unfold M_fullPlaces_L4
        simp (disch := omega) only [↓jn_e, ↓ite_y, ↓ite_n, ↓oadd_eq, ↓osub_eq, ↓omul_eq, ↓odiv_eq, ↓orem_eq, ↓rd_eq, ↓wr_eq, ↓gf_e, ↓pf_e, ↓bnd_e, ↓bndp_e, ↓opure_e, ↓oif_t, ↓oif_f, ↓E_isPlace_y, ↓E_isPlace_n, ↓E_isNumber_y, ↓E_isNumber_n, ↓M_isPlace_y, ↓M_isPlace_n, ↓M_isNumber_y, ↓M_isNumber_n, ↓M_in_y, ↓M_in_n, ↓us_ne, e]
        exact c2
theorem call_count : HS_49 SS := by
  intro k σ τ z0 hk hS i0
  have hS0 := hS
  obtain ⟨⟨ρ, hW⟩, hT, hr, hn, hm⟩ := hS
  have t1 := hT.1
  have r1 := hr.1
  have m1 := hm.1
  unfold E_count M_count
  by_cases c0 : z0 = 0
  · obtain ⟨c, c1, c2⟩ := places_loop (σ := σ) (τ := us τ 33 0 0) (fun p p0 p6 => by rw [us_ne (by decide)]; exact (hW.2.2 p p0 p6).2.1) 6 FU 0 0 (by omega) (by omega) (by unfold FU; omega)
    have c1 : E_placesInUse σ = some c := c1
    have c2 : M_fullPlaces (us τ 33 0 0) = some c := c2
    refine ⟨c, us τ 33 0 0, ?_, ?_, hS0.thr⟩
    · simp (disch := omega) only [↓jn_e, ↓ite_y, ↓ite_n, ↓oadd_eq, ↓osub_eq, ↓omul_eq, ↓odiv_eq, ↓orem_eq, ↓rd_eq, ↓wr_eq, ↓gf_e, ↓pf_e, ↓bnd_e, ↓bndp_e, ↓opure_e, ↓oif_t, ↓oif_f, ↓E_isPlace_y, ↓E_isPlace_n, ↓E_isNumber_y, ↓E_isNumber_n, ↓M_isPlace_y, ↓M_isPlace_n, ↓M_isNumber_y, ↓M_isNumber_n, ↓M_in_y, ↓M_in_n, ↓us_ne, ↓c1]
    · simp (disch := omega) only [↓jn_e, ↓ite_y, ↓ite_n, ↓oadd_eq, ↓osub_eq, ↓omul_eq, ↓odiv_eq, ↓orem_eq, ↓rd_eq, ↓wr_eq, ↓gf_e, ↓pf_e, ↓bnd_e, ↓bndp_e, ↓opure_e, ↓oif_t, ↓oif_f, ↓E_isPlace_y, ↓E_isPlace_n, ↓E_isNumber_y, ↓E_isNumber_n, ↓M_isPlace_y, ↓M_isPlace_n, ↓M_isNumber_y, ↓M_isNumber_n, ↓M_in_y, ↓M_in_n, ↓us_ne, ↓c2]
  · by_cases c1 : z0 = 1
    · refine ⟨σ 32 0, us τ 33 0 0, ?_, ?_, hS0.thr⟩
      · simp (disch := omega) only [↓jn_e, ↓ite_y, ↓ite_n, ↓oadd_eq, ↓osub_eq, ↓omul_eq, ↓odiv_eq, ↓orem_eq, ↓rd_eq, ↓wr_eq, ↓gf_e, ↓pf_e, ↓bnd_e, ↓bndp_e, ↓opure_e, ↓oif_t, ↓oif_f, ↓E_isPlace_y, ↓E_isPlace_n, ↓E_isNumber_y, ↓E_isNumber_n, ↓M_isPlace_y, ↓M_isPlace_n, ↓M_isNumber_y, ↓M_isNumber_n, ↓M_in_y, ↓M_in_n, ↓us_ne]
      · simp (disch := omega) only [↓jn_e, ↓ite_y, ↓ite_n, ↓oadd_eq, ↓osub_eq, ↓omul_eq, ↓odiv_eq, ↓orem_eq, ↓rd_eq, ↓wr_eq, ↓gf_e, ↓pf_e, ↓bnd_e, ↓bndp_e, ↓opure_e, ↓oif_t, ↓oif_f, ↓E_isPlace_y, ↓E_isPlace_n, ↓E_isNumber_y, ↓E_isNumber_n, ↓M_isPlace_y, ↓M_isPlace_n, ↓M_isNumber_y, ↓M_isNumber_n, ↓M_in_y, ↓M_in_n, ↓us_ne, m1]
    · by_cases c2 : z0 = 2
      · refine ⟨σ 34 0, us τ 33 0 0, ?_, ?_, hS0.thr⟩
        · simp (disch := omega) only [↓jn_e, ↓ite_y, ↓ite_n, ↓oadd_eq, ↓osub_eq, ↓omul_eq, ↓odiv_eq, ↓orem_eq, ↓rd_eq, ↓wr_eq, ↓gf_e, ↓pf_e, ↓bnd_e, ↓bndp_e, ↓opure_e, ↓oif_t, ↓oif_f, ↓E_isPlace_y, ↓E_isPlace_n, ↓E_isNumber_y, ↓E_isNumber_n, ↓M_isPlace_y, ↓M_isPlace_n, ↓M_isNumber_y, ↓M_isNumber_n, ↓M_in_y, ↓M_in_n, ↓us_ne]
        · simp (disch := omega) only [↓jn_e, ↓ite_y, ↓ite_n, ↓oadd_eq, ↓osub_eq, ↓omul_eq, ↓odiv_eq, ↓orem_eq, ↓rd_eq, ↓wr_eq, ↓gf_e, ↓pf_e, ↓bnd_e, ↓bndp_e, ↓opure_e, ↓oif_t, ↓oif_f, ↓E_isPlace_y, ↓E_isPlace_n, ↓E_isNumber_y, ↓E_isNumber_n, ↓M_isPlace_y, ↓M_isPlace_n, ↓M_isNumber_y, ↓M_isNumber_n, ↓M_in_y, ↓M_in_n, ↓us_ne, r1]
      · by_cases c3 : z0 = 3
        · refine ⟨σ 35 0, us τ 33 0 0, ?_, ?_, hS0.thr⟩
          · simp (disch := omega) only [↓jn_e, ↓ite_y, ↓ite_n, ↓oadd_eq, ↓osub_eq, ↓omul_eq, ↓odiv_eq, ↓orem_eq, ↓rd_eq, ↓wr_eq, ↓gf_e, ↓pf_e, ↓bnd_e, ↓bndp_e, ↓opure_e, ↓oif_t, ↓oif_f, ↓E_isPlace_y, ↓E_isPlace_n, ↓E_isNumber_y, ↓E_isNumber_n, ↓M_isPlace_y, ↓M_isPlace_n, ↓M_isNumber_y, ↓M_isNumber_n, ↓M_in_y, ↓M_in_n, ↓us_ne]
          · simp (disch := omega) only [↓jn_e, ↓ite_y, ↓ite_n, ↓oadd_eq, ↓osub_eq, ↓omul_eq, ↓odiv_eq, ↓orem_eq, ↓rd_eq, ↓wr_eq, ↓gf_e, ↓pf_e, ↓bnd_e, ↓bndp_e, ↓opure_e, ↓oif_t, ↓oif_f, ↓E_isPlace_y, ↓E_isPlace_n, ↓E_isNumber_y, ↓E_isNumber_n, ↓M_isPlace_y, ↓M_isPlace_n, ↓M_isNumber_y, ↓M_isNumber_n, ↓M_in_y, ↓M_in_n, ↓us_ne, t1]
        · by_cases c4 : z0 = 4
          · refine ⟨1, us τ 33 0 0, ?_, ?_, hS0.thr⟩
            · simp (disch := omega) only [↓jn_e, ↓ite_y, ↓ite_n, ↓oadd_eq, ↓osub_eq, ↓omul_eq, ↓odiv_eq, ↓orem_eq, ↓rd_eq, ↓wr_eq, ↓gf_e, ↓pf_e, ↓bnd_e, ↓bndp_e, ↓opure_e, ↓oif_t, ↓oif_f, ↓E_isPlace_y, ↓E_isPlace_n, ↓E_isNumber_y, ↓E_isNumber_n, ↓M_isPlace_y, ↓M_isPlace_n, ↓M_isNumber_y, ↓M_isNumber_n, ↓M_in_y, ↓M_in_n, ↓us_ne]
            · simp (disch := omega) only [↓jn_e, ↓ite_y, ↓ite_n, ↓oadd_eq, ↓osub_eq, ↓omul_eq, ↓odiv_eq, ↓orem_eq, ↓rd_eq, ↓wr_eq, ↓gf_e, ↓pf_e, ↓bnd_e, ↓bndp_e, ↓opure_e, ↓oif_t, ↓oif_f, ↓E_isPlace_y, ↓E_isPlace_n, ↓E_isNumber_y, ↓E_isNumber_n, ↓M_isPlace_y, ↓M_isPlace_n, ↓M_isNumber_y, ↓M_isNumber_n, ↓M_in_y, ↓M_in_n, ↓us_ne]
          · refine ⟨-1, us τ 33 0 0, ?_, ?_, hS0.thr⟩
            · simp (disch := omega) only [↓jn_e, ↓ite_y, ↓ite_n, ↓oadd_eq, ↓osub_eq, ↓omul_eq, ↓odiv_eq, ↓orem_eq, ↓rd_eq, ↓wr_eq, ↓gf_e, ↓pf_e, ↓bnd_e, ↓bndp_e, ↓opure_e, ↓oif_t, ↓oif_f, ↓E_isPlace_y, ↓E_isPlace_n, ↓E_isNumber_y, ↓E_isNumber_n, ↓M_isPlace_y, ↓M_isPlace_n, ↓M_isNumber_y, ↓M_isNumber_n, ↓M_in_y, ↓M_in_n, ↓us_ne]
            · simp (disch := omega) only [↓jn_e, ↓ite_y, ↓ite_n, ↓oadd_eq, ↓osub_eq, ↓omul_eq, ↓odiv_eq, ↓orem_eq, ↓rd_eq, ↓wr_eq, ↓gf_e, ↓pf_e, ↓bnd_e, ↓bndp_e, ↓opure_e, ↓oif_t, ↓oif_f, ↓E_isPlace_y, ↓E_isPlace_n, ↓E_isNumber_y, ↓E_isNumber_n, ↓M_isPlace_y, ↓M_isPlace_n, ↓M_isNumber_y, ↓M_isNumber_n, ↓M_in_y, ↓M_in_n, ↓us_ne]

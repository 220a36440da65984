-- P54, 4: calls of the reference from its rows to its rows
theorem front_m {τ : St} {i v l n : Int} (hk : Ok τ) (hi : 0 ≤ i ∧ i < 6) (hl : 0 ≤ l ∧ l < 6) (hv : -999 ≤ v ∧ v ≤ 999) (h3 : τ 3 i = n) (hn : n ≤ 254) :
    ∃ r τ', M_front τ i v l = some (r, τ') ∧ Op τ τ' l (n + 1) (fun x => if x = 0 then v else τ 1 (256 * i + (x - 1))) r := by
  have n0 := (hk.2 i hi.1 hi.2).1
  have m0 := hk.1
  obtain ⟨s, hs⟩ : ∃ s, s = us τ 33 0 0 := ⟨_, rfl⟩
  have rs : ∀ L, Rws L τ s := fun L => by rw [hs]; exact us33 τ 0 L
  have s3 : s 3 i = n := by rw [((rs []).n (p := i) List.not_mem_nil).1]; exact h3
  have s30 : s 30 0 = τ 30 0 := by rw [hs, us_ne (by decide)]
  obtain ⟨s1, s2, e1, e2, f2, r2, a6, a7, c6, c7, a34, a30⟩ := open2 (rs _) s30 hi h3 (by omega)
  have b3 : s2 3 i = n := by rw [(r2.n (p := i) (by simp; omega)).1]; exact h3
  obtain ⟨t, e3, t6, c⟩ := fronts_cr (s := s2) (n := n) (v := v) (by omega) a6 (by omega)
  obtain ⟨u, hu⟩ : ∃ u, u = us t 3 7 (n + 1) := ⟨_, rfl⟩
  rw [← hu] at c
  obtain ⟨τ', e4, o, -⟩ := close2 hl r2 (by decide) a34 a30 c (by omega) (by omega)
  refine ⟨_, τ', ?_, ⟨⟨o.1.1, fun x x0 xn => ?_⟩, o.2⟩⟩
  · unfold M_front
    simp (disch := omega) only [↓jn_e, ↓ite_y, ↓ite_n, ↓oadd_eq, ↓osub_eq, ↓omul_eq, ↓odiv_eq, ↓orem_eq, ↓rd_eq, ↓wr_eq, ↓gf_e, ↓pf_e, ↓bnd_e, ↓bndp_e, ↓opure_e, ↓oif_t, ↓oif_f, ↓E_isPlace_y, ↓E_isPlace_n, ↓E_isNumber_y, ↓E_isNumber_n, ↓M_isPlace_y, ↓M_isPlace_n, ↓M_isNumber_y, ↓M_isNumber_n, ↓M_in_y, ↓M_in_n, ↓us_ne, ← hs, ↓s3, ↓e1, ↓e2, ↓b3, ↓e3, ↓t6, ← hu, ↓e4]
  · rw [o.1.2 x x0 xn]
    dsimp only
    by_cases x1 : x = 0
    · rw [if_pos x1, if_pos x1]
    · rw [if_neg x1, if_neg x1, c6 _ (by omega) (by omega)]
theorem back_m {τ : St} {i v l n : Int} (hk : Ok τ) (hi : 0 ≤ i ∧ i < 6) (hl : 0 ≤ l ∧ l < 6) (hv : -999 ≤ v ∧ v ≤ 999) (h3 : τ 3 i = n) (hn : n ≤ 254) :
    ∃ r τ', M_back τ i v l = some (r, τ') ∧ Op τ τ' l (n + 1) (fun x => if x = n then v else τ 1 (256 * i + x)) r := by
  have n0 := (hk.2 i hi.1 hi.2).1
  have m0 := hk.1
  obtain ⟨s, hs⟩ : ∃ s, s = us τ 33 0 0 := ⟨_, rfl⟩
  have rs : ∀ L, Rws L τ s := fun L => by rw [hs]; exact us33 τ 0 L
  have s3 : s 3 i = n := by rw [((rs []).n (p := i) List.not_mem_nil).1]; exact h3
  have s30 : s 30 0 = τ 30 0 := by rw [hs, us_ne (by decide)]
  obtain ⟨s1, s2, e1, e2, f2, r2, a6, a7, c6, c7, a34, a30⟩ := open2 (rs _) s30 hi h3 (by omega)
  obtain ⟨t, e3, c⟩ := backs_cr (s := s2) (n := n) (v := v) (by omega) a7 (by omega)
  obtain ⟨τ', e4, o, -⟩ := close2 hl r2 (by decide) a34 a30 c (by omega) (by omega)
  refine ⟨_, τ', ?_, ⟨⟨o.1.1, fun x x0 xn => ?_⟩, o.2⟩⟩
  · unfold M_back
    simp (disch := omega) only [↓jn_e, ↓ite_y, ↓ite_n, ↓oadd_eq, ↓osub_eq, ↓omul_eq, ↓odiv_eq, ↓orem_eq, ↓rd_eq, ↓wr_eq, ↓gf_e, ↓pf_e, ↓bnd_e, ↓bndp_e, ↓opure_e, ↓oif_t, ↓oif_f, ↓E_isPlace_y, ↓E_isPlace_n, ↓E_isNumber_y, ↓E_isNumber_n, ↓M_isPlace_y, ↓M_isPlace_n, ↓M_isNumber_y, ↓M_isNumber_n, ↓M_in_y, ↓M_in_n, ↓us_ne, ← hs, ↓s3, ↓e1, ↓e2, ↓e3, ↓e4]
  · rw [o.1.2 x x0 xn]
    dsimp only
    by_cases x1 : x = n
    · rw [if_pos x1, if_pos x1]
    · rw [if_neg x1, if_neg x1, c7 _ (by omega) (by omega)]
/-- behind the row that is told -/
theorem told1 {τ : St} {v : Int} (hv : -2147483648 ≤ v ∧ v ≤ 2147483647) : ∃ s, M_tell (us (us τ 33 0 0) 32 0 0) v = some (0, s) ∧ Fr [5, 32, 33] τ s ∧ s 32 0 = 1 ∧ s 5 0 = v := by
  obtain ⟨s, e, f, a, b, -⟩ := M_tell_ex (τ := us (us τ 33 0 0) 32 0 0) (v := v) (by rw [us_eq]; omega) hv
  rw [us_eq] at a b
  exact ⟨s, e, ((((Fr.rf [5, 32, 33] τ).us (f := 33) (by decide)).us (f := 32) (by decide)).tr (f.mono (by decide))), by omega, b⟩
theorem first_m {τ : St} {i l n : Int} (hk : Ok τ) (hi : 0 ≤ i ∧ i < 6) (hl : 0 ≤ l ∧ l < 6) (h3 : τ 3 i = n) (hn : 1 ≤ n) :
    ∃ r τ', M_first τ i l = some (r, τ') ∧ Op τ τ' l (n - 1) (fun x => τ 1 (256 * i + (x + 1))) r ∧ τ' 32 0 = 1 ∧ τ' 5 0 = τ 1 (256 * i) := by
  have n0 := (hk.2 i hi.1 hi.2).1
  have hnum := (hk.2 i hi.1 hi.2).2 0 (by omega) (by omega)
  have m0 := hk.1
  obtain ⟨v, hv⟩ : ∃ v, v = τ 1 (256 * i) := ⟨_, rfl⟩
  rw [show 256 * i + 0 = 256 * i by omega, ← hv] at hnum
  obtain ⟨s, e0, f0, w1, w2⟩ := told1 (τ := τ) (v := v) (by omega)
  have rs : ∀ L, Rws L τ s := Rws.fr f0 (by decide) (by decide) (by decide)
  have s3 : us τ 33 0 0 3 i = n := by rw [us_ne (by decide)]; exact h3
  have hN : M_number (us (us τ 33 0 0) 32 0 0) i 0 = some v := by
    rw [M_number_eq (by omega) (by omega), us_ne (by decide), us_ne (by decide), hv, show 256 * i + 0 = 256 * i by omega]
  have s30 : s 30 0 = τ 30 0 := by rw [f0 30 (by decide)]
  obtain ⟨s1, s2, e1, e2, f2, r2, a6, a7, c6, c7, a34, a30⟩ := open2 (rs _) s30 hi h3 (by omega)
  obtain ⟨t, e3, c⟩ := goesFirst_cr (s := s2) (n := n) (by omega) a7 (by omega)
  obtain ⟨τ', e4, o, f4⟩ := close2 hl r2 (by decide) a34 a30 c (by omega) (by omega)
  refine ⟨_, τ', ?_, ⟨⟨o.1.1, fun x x0 xn => ?_⟩, o.2⟩, ?_, ?_⟩
  · unfold M_first
    simp (disch := omega) only [↓jn_e, ↓ite_y, ↓ite_n, ↓oadd_eq, ↓osub_eq, ↓omul_eq, ↓odiv_eq, ↓orem_eq, ↓rd_eq, ↓wr_eq, ↓gf_e, ↓pf_e, ↓bnd_e, ↓bndp_e, ↓opure_e, ↓oif_t, ↓oif_f, ↓E_isPlace_y, ↓E_isPlace_n, ↓E_isNumber_y, ↓E_isNumber_n, ↓M_isPlace_y, ↓M_isPlace_n, ↓M_isNumber_y, ↓M_isNumber_n, ↓M_in_y, ↓M_in_n, ↓us_ne, ↓s3, ↓hN, ↓e0, ↓e1, ↓e2, ↓e3, ↓e4]
  · rw [o.1.2 x x0 xn]
    exact c7 _ (by omega) (by omega)
  · rw [f4 32 (by decide), c.1 32 (by decide), f2 32 (by decide)]; exact w1
  · rw [f4 5 (by decide), c.1 5 (by decide), f2 5 (by decide), w2, hv]
theorem last_m {τ : St} {i l n : Int} (hk : Ok τ) (hi : 0 ≤ i ∧ i < 6) (hl : 0 ≤ l ∧ l < 6) (h3 : τ 3 i = n) (hn : 1 ≤ n) :
    ∃ r τ', M_last τ i l = some (r, τ') ∧ Op τ τ' l (n - 1) (fun x => τ 1 (256 * i + x)) r ∧ τ' 32 0 = 1 ∧ τ' 5 0 = τ 1 (256 * i + (n - 1)) := by
  have n0 := (hk.2 i hi.1 hi.2).1
  have hnum := (hk.2 i hi.1 hi.2).2 (n - 1) (by omega) (by omega)
  have m0 := hk.1
  obtain ⟨v, hv⟩ : ∃ v, v = τ 1 (256 * i + (n - 1)) := ⟨_, rfl⟩
  rw [← hv] at hnum
  obtain ⟨s, e0, f0, w1, w2⟩ := told1 (τ := τ) (v := v) (by omega)
  have rs : ∀ L, Rws L τ s := Rws.fr f0 (by decide) (by decide) (by decide)
  have s3 : us τ 33 0 0 3 i = n := by rw [us_ne (by decide)]; exact h3
  have s3' : us (us τ 33 0 0) 32 0 0 3 i = n := by rw [us_ne (by decide)]; exact s3
  have hN : M_number (us (us τ 33 0 0) 32 0 0) i (n - 1) = some v := by
    rw [M_number_eq (by omega) (by omega), us_ne (by decide), us_ne (by decide), hv]
  have s30 : s 30 0 = τ 30 0 := by rw [f0 30 (by decide)]
  obtain ⟨s1, s2, e1, e2, f2, r2, a6, a7, c6, c7, a34, a30⟩ := open2 (rs _) s30 hi h3 (by omega)
  obtain ⟨t, e3, c⟩ := goesLast_cr (s := s2) (n := n) (by omega) a7 (by omega)
  obtain ⟨τ', e4, o, f4⟩ := close2 hl r2 (by decide) a34 a30 c (by omega) (by omega)
  refine ⟨_, τ', ?_, ⟨⟨o.1.1, fun x x0 xn => ?_⟩, o.2⟩, ?_, ?_⟩
  · unfold M_last
    simp (disch := omega) only [↓jn_e, ↓ite_y, ↓ite_n, ↓oadd_eq, ↓osub_eq, ↓omul_eq, ↓odiv_eq, ↓orem_eq, ↓rd_eq, ↓wr_eq, ↓gf_e, ↓pf_e, ↓bnd_e, ↓bndp_e, ↓opure_e, ↓oif_t, ↓oif_f, ↓E_isPlace_y, ↓E_isPlace_n, ↓E_isNumber_y, ↓E_isNumber_n, ↓M_isPlace_y, ↓M_isPlace_n, ↓M_isNumber_y, ↓M_isNumber_n, ↓M_in_y, ↓M_in_n, ↓us_ne, ↓h3, ↓hN, ↓e0, ↓e1, ↓e2, ↓e3, ↓e4]
  · rw [o.1.2 x x0 xn]
    exact c7 _ (by omega) (by omega)
  · rw [f4 32 (by decide), c.1 32 (by decide), f2 32 (by decide)]; exact w1
  · rw [f4 5 (by decide), c.1 5 (by decide), f2 5 (by decide), w2, hv]
theorem keeps_m {τ : St} {i N l n : Int} (hk : Ok τ) (hi : 0 ≤ i ∧ i < 6) (hl : 0 ≤ l ∧ l < 6) (h3 : τ 3 i = n) (hN : 0 ≤ N ∧ N ≤ n) :
    ∃ r τ', M_keeps τ i N l = some (r, τ') ∧ Op τ τ' l N (fun x => τ 1 (256 * i + x)) r := by
  have n0 := (hk.2 i hi.1 hi.2).1
  have m0 := hk.1
  obtain ⟨s, hs⟩ : ∃ s, s = us τ 33 0 0 := ⟨_, rfl⟩
  have rs : ∀ L, Rws L τ s := fun L => by rw [hs]; exact us33 τ 0 L
  have s3 : s 3 i = n := by rw [((rs []).n (p := i) List.not_mem_nil).1]; exact h3
  have s30 : s 30 0 = τ 30 0 := by rw [hs, us_ne (by decide)]
  obtain ⟨s1, s2, e1, e2, f2, r2, a6, a7, c6, c7, a34, a30⟩ := open2 (rs _) s30 hi h3 (by omega)
  obtain ⟨K, hK⟩ : ∃ K : St → Option (Int × St), K = fun s => bnd (M_ends s l) fun v12 s13 => some (v12, s13) := ⟨_, rfl⟩
  obtain ⟨t, e3, c⟩ := keepsM_loop K N hN.1 (n - N).toNat FU s2 (by rw [a7]; omega) (by omega) (by unfold FU; omega) (by omega)
  obtain ⟨τ', e4, o, -⟩ := close2 hl r2 (by decide) a34 a30 c (by omega) (by omega)
  refine ⟨_, τ', ?_, ⟨⟨o.1.1, fun x x0 xn => ?_⟩, o.2⟩⟩
  · unfold M_keeps
    simp (disch := omega) only [↓jn_e, ↓ite_y, ↓ite_n, ↓oadd_eq, ↓osub_eq, ↓omul_eq, ↓odiv_eq, ↓orem_eq, ↓rd_eq, ↓wr_eq, ↓gf_e, ↓pf_e, ↓bnd_e, ↓bndp_e, ↓opure_e, ↓oif_t, ↓oif_f, ↓E_isPlace_y, ↓E_isPlace_n, ↓E_isNumber_y, ↓E_isNumber_n, ↓M_isPlace_y, ↓M_isPlace_n, ↓M_isNumber_y, ↓M_isNumber_n, ↓M_in_y, ↓M_in_n, ↓us_ne, ← hs, ↓s3, ↓e1, ↓e2, ← hK]
    rw [e3, hK]
    simp (disch := omega) only [↓jn_e, ↓ite_y, ↓ite_n, ↓oadd_eq, ↓osub_eq, ↓omul_eq, ↓odiv_eq, ↓orem_eq, ↓rd_eq, ↓wr_eq, ↓gf_e, ↓pf_e, ↓bnd_e, ↓bndp_e, ↓opure_e, ↓oif_t, ↓oif_f, ↓E_isPlace_y, ↓E_isPlace_n, ↓E_isNumber_y, ↓E_isNumber_n, ↓M_isPlace_y, ↓M_isPlace_n, ↓M_isNumber_y, ↓M_isNumber_n, ↓M_in_y, ↓M_in_n, ↓us_ne, ↓e4]
  · rw [o.1.2 x x0 xn]
    exact c7 _ (by omega) (by omega)
theorem skips_m {τ : St} {i N l n : Int} (hk : Ok τ) (hi : 0 ≤ i ∧ i < 6) (hl : 0 ≤ l ∧ l < 6) (h3 : τ 3 i = n) (hN : 0 ≤ N ∧ N ≤ n) :
    ∃ r τ', M_skips τ i N l = some (r, τ') ∧ Op τ τ' l (n - N) (fun x => τ 1 (256 * i + (x + N))) r := by
  have n0 := (hk.2 i hi.1 hi.2).1
  have m0 := hk.1
  obtain ⟨s, hs⟩ : ∃ s, s = us τ 33 0 0 := ⟨_, rfl⟩
  have rs : ∀ L, Rws L τ s := fun L => by rw [hs]; exact us33 τ 0 L
  have s3 : s 3 i = n := by rw [((rs []).n (p := i) List.not_mem_nil).1]; exact h3
  have s30 : s 30 0 = τ 30 0 := by rw [hs, us_ne (by decide)]
  obtain ⟨s1, s2, e1, e2, f2, r2, a6, a7, c6, c7, a34, a30⟩ := open2 (rs _) s30 hi h3 (by omega)
  obtain ⟨K, hK⟩ : ∃ K : St → Option (Int × St), K = fun s => bnd (M_ends s l) fun v12 s13 => some (v12, s13) := ⟨_, rfl⟩
  obtain ⟨t, e3, c⟩ := skipsM_loop K N n (by omega) N.toNat FU s2 0 (by omega) (by omega) hN.2 (by rw [a7]; omega) (by unfold FU; omega) (by omega)
  obtain ⟨τ', e4, o, -⟩ := close2 hl r2 (by decide) a34 a30 c (by omega) (by omega)
  refine ⟨_, τ', ?_, ⟨⟨o.1.1, fun x x0 xn => ?_⟩, o.2⟩⟩
  · unfold M_skips
    simp (disch := omega) only [↓jn_e, ↓ite_y, ↓ite_n, ↓oadd_eq, ↓osub_eq, ↓omul_eq, ↓odiv_eq, ↓orem_eq, ↓rd_eq, ↓wr_eq, ↓gf_e, ↓pf_e, ↓bnd_e, ↓bndp_e, ↓opure_e, ↓oif_t, ↓oif_f, ↓E_isPlace_y, ↓E_isPlace_n, ↓E_isNumber_y, ↓E_isNumber_n, ↓M_isPlace_y, ↓M_isPlace_n, ↓M_isNumber_y, ↓M_isNumber_n, ↓M_in_y, ↓M_in_n, ↓us_ne, ← hs, ↓s3, ↓e1, ↓e2, ← hK]
    rw [e3, hK]
    simp (disch := omega) only [↓jn_e, ↓ite_y, ↓ite_n, ↓oadd_eq, ↓osub_eq, ↓omul_eq, ↓odiv_eq, ↓orem_eq, ↓rd_eq, ↓wr_eq, ↓gf_e, ↓pf_e, ↓bnd_e, ↓bndp_e, ↓opure_e, ↓oif_t, ↓oif_f, ↓E_isPlace_y, ↓E_isPlace_n, ↓E_isNumber_y, ↓E_isNumber_n, ↓M_isPlace_y, ↓M_isPlace_n, ↓M_isNumber_y, ↓M_isNumber_n, ↓M_in_y, ↓M_in_n, ↓us_ne, ↓e4]
  · rw [o.1.2 x x0 xn, show N - 0 = N by omega]
    exact c7 _ (by omega) (by omega)
theorem turned_m {τ : St} {i N l n : Int} (hk : Ok τ) (hi : 0 ≤ i ∧ i < 6) (hl : 0 ≤ l ∧ l < 6) (h3 : τ 3 i = n) (hN : 0 ≤ N ∧ N ≤ 255) (hn : 1 ≤ n) :
    ∃ r τ', M_turned τ i N l = some (r, τ') ∧ Op τ τ' l n (fun x => τ 1 (256 * i + (x + N) % n)) r := by
  have n0 := (hk.2 i hi.1 hi.2).1
  have m0 := hk.1
  obtain ⟨s, hs⟩ : ∃ s, s = us τ 33 0 0 := ⟨_, rfl⟩
  have rs : ∀ L, Rws L τ s := fun L => by rw [hs]; exact us33 τ 0 L
  have s3 : s 3 i = n := by rw [((rs []).n (p := i) List.not_mem_nil).1]; exact h3
  have s30 : s 30 0 = τ 30 0 := by rw [hs, us_ne (by decide)]
  obtain ⟨s1, s2, e1, e2, f2, r2, a6, a7, c6, c7, a34, a30⟩ := open2 (rs _) s30 hi h3 (by omega)
  obtain ⟨K, hK⟩ : ∃ K : St → Option (Int × St), K = fun s => bnd (M_ends s l) fun v12 s13 => some (v12, s13) := ⟨_, rfl⟩
  obtain ⟨t, e3, c⟩ := turnedM_loop K N n hN (by omega) N.toNat FU s2 0 (by omega) (by omega) a7 (by unfold FU; omega) (by omega)
  obtain ⟨τ', e4, o, -⟩ := close2 hl r2 (by decide) a34 a30 c (by omega) (by omega)
  refine ⟨_, τ', ?_, ⟨⟨o.1.1, fun x x0 xn => ?_⟩, o.2⟩⟩
  · unfold M_turned
    simp (disch := omega) only [↓jn_e, ↓ite_y, ↓ite_n, ↓oadd_eq, ↓osub_eq, ↓omul_eq, ↓odiv_eq, ↓orem_eq, ↓rd_eq, ↓wr_eq, ↓gf_e, ↓pf_e, ↓bnd_e, ↓bndp_e, ↓opure_e, ↓oif_t, ↓oif_f, ↓E_isPlace_y, ↓E_isPlace_n, ↓E_isNumber_y, ↓E_isNumber_n, ↓M_isPlace_y, ↓M_isPlace_n, ↓M_isNumber_y, ↓M_isNumber_n, ↓M_in_y, ↓M_in_n, ↓us_ne, ← hs, ↓s3, ↓e1, ↓e2, ← hK]
    rw [e3, hK]
    simp (disch := omega) only [↓jn_e, ↓ite_y, ↓ite_n, ↓oadd_eq, ↓osub_eq, ↓omul_eq, ↓odiv_eq, ↓orem_eq, ↓rd_eq, ↓wr_eq, ↓gf_e, ↓pf_e, ↓bnd_e, ↓bndp_e, ↓opure_e, ↓oif_t, ↓oif_f, ↓E_isPlace_y, ↓E_isPlace_n, ↓E_isNumber_y, ↓E_isNumber_n, ↓M_isPlace_y, ↓M_isPlace_n, ↓M_isNumber_y, ↓M_isNumber_n, ↓M_in_y, ↓M_in_n, ↓us_ne, ↓e4]
  · have q0 := Int.emod_nonneg (x + N) (show n ≠ 0 by omega)
    have q1 := Int.emod_lt_of_pos (x + N) (show 0 < n by omega)
    rw [o.1.2 x x0 xn, show N - 0 = N by omega]
    exact c7 _ q0 q1
theorem appends_m {τ : St} {i j l n m : Int} (hk : Ok τ) (hi : 0 ≤ i ∧ i < 6) (hj : 0 ≤ j ∧ j < 6) (hl : 0 ≤ l ∧ l < 6) (h3 : τ 3 i = n) (hm : τ 3 j = m) (hn : n + m ≤ 255) :
    ∃ r τ', M_appends τ i j l = some (r, τ') ∧ Op τ τ' l (n + m) (fun x => if x < n then τ 1 (256 * i + x) else τ 1 (256 * j + (x - n))) r := by
  have n0 := (hk.2 i hi.1 hi.2).1
  have n1 := (hk.2 j hj.1 hj.2).1
  have m0 := hk.1
  obtain ⟨s, hs⟩ : ∃ s, s = us τ 33 0 0 := ⟨_, rfl⟩
  have rs : ∀ L, Rws L τ s := fun L => by rw [hs]; exact us33 τ 0 L
  have s3 : s 3 i = n := by rw [((rs []).n (p := i) List.not_mem_nil).1]; exact h3
  have s3' : s 3 j = m := by rw [((rs []).n (p := j) List.not_mem_nil).1]; exact hm
  have s30 : s 30 0 = τ 30 0 := by rw [hs, us_ne (by decide)]
  obtain ⟨s1, e1, f1, r1, a6, a7, c6, c7⟩ := asks_ex s i hi (by omega)
  rw [s3] at a6 a7 c6 c7
  have s1j := r1.n (p := j) (by simp; omega)
  obtain ⟨s2, e2, f2, r2, a8, c8⟩ := takes_ex s1 j 8 (by omega) (by omega) (by rw [s1j.1]; omega)
  rw [s1j.1, s3'] at a8 c8
  obtain ⟨s4, hs4⟩ : ∃ s4, s4 = us s2 34 0 (s2 30 0) := ⟨_, rfl⟩
  have e2' : M_begins s2 = some (0, s4) := by rw [hs4]; rfl
  have f4 : Fr [34] s2 s4 := by rw [hs4]; exact (Fr.rf _ _).us (by decide)
  have r4 : Rws [6, 7, 8] τ s4 := ((rs _).tr (r1.mono (by decide))).tr ((r2.mono (by decide)).tr (Rws.fr f4 (by decide) (by decide) (by decide) _))
  have q30 : s2 30 0 = τ 30 0 := by rw [f2 30 (by decide), f1 30 (by decide), s30]
  have a34 : s4 34 0 = τ 30 0 := by rw [hs4, us_eq, q30]
  have a30 : s4 30 0 = τ 30 0 := by rw [f4 30 (by decide), q30]
  have b7 : s4 3 7 = n := by rw [f4 3 (by decide), (r2.n (p := 7) (by decide)).1]; exact a7
  have b8 : s4 3 8 = m := by rw [f4 3 (by decide)]; exact a8
  have d7 : ∀ x, 0 ≤ x → x < n → s4 1 (1792 + x) = τ 1 (256 * i + x) := fun x x0 xn => by
    have h := (r2.n (p := 7) (by decide)).2 x x0 (by omega)
    rw [f4 1 (by decide)]
    rw [show (256 * 7 + x : Int) = 1792 + x by omega] at h
    rw [h]
    have h2 := (c7 x x0 xn).1
    rw [show (256 * 7 + x : Int) = 1792 + x by omega] at h2
    rw [h2, hs, us_ne (by decide)]
  have d8 : ∀ x, 0 ≤ x → x < m → s4 1 (2048 + x) = τ 1 (256 * j + x) := fun x x0 xn => by
    rw [f4 1 (by decide)]
    have h2 := (c8 x x0 xn).1
    rw [show (256 * 8 + x : Int) = 2048 + x by omega] at h2
    rw [h2, s1j.2 x x0 (by omega), hs, us_ne (by decide)]
  obtain ⟨K, hK⟩ : ∃ K : St → Option (Int × St), K = fun s => bnd (M_ends s l) fun v12 s13 => some (v12, s13) := ⟨_, rfl⟩
  obtain ⟨t, e3, c⟩ := appendsM_loop K (fun x => τ 1 (256 * j + x)) n m (by omega) m.toNat FU s4 0 (by omega) (by omega) (by rw [b7]; omega) b8 d8 (by unfold FU; omega) (by omega)
  obtain ⟨τ', e4, o, -⟩ := close2 hl r4 (by decide) a34 a30 c (by omega) (by omega)
  refine ⟨_, τ', ?_, ⟨⟨o.1.1, fun x x0 xn => ?_⟩, o.2⟩⟩
  · unfold M_appends
    simp (disch := omega) only [↓jn_e, ↓ite_y, ↓ite_n, ↓oadd_eq, ↓osub_eq, ↓omul_eq, ↓odiv_eq, ↓orem_eq, ↓rd_eq, ↓wr_eq, ↓gf_e, ↓pf_e, ↓bnd_e, ↓bndp_e, ↓opure_e, ↓oif_t, ↓oif_f, ↓E_isPlace_y, ↓E_isPlace_n, ↓E_isNumber_y, ↓E_isNumber_n, ↓M_isPlace_y, ↓M_isPlace_n, ↓M_isNumber_y, ↓M_isNumber_n, ↓M_in_y, ↓M_in_n, ↓us_ne, ← hs, ↓s3, ↓s3', ↓e1, ↓e2, ↓e2', ← hK]
    rw [e3, hK]
    simp (disch := omega) only [↓jn_e, ↓ite_y, ↓ite_n, ↓oadd_eq, ↓osub_eq, ↓omul_eq, ↓odiv_eq, ↓orem_eq, ↓rd_eq, ↓wr_eq, ↓gf_e, ↓pf_e, ↓bnd_e, ↓bndp_e, ↓opure_e, ↓oif_t, ↓oif_f, ↓E_isPlace_y, ↓E_isPlace_n, ↓E_isNumber_y, ↓E_isNumber_n, ↓M_isPlace_y, ↓M_isPlace_n, ↓M_isNumber_y, ↓M_isNumber_n, ↓M_in_y, ↓M_in_n, ↓us_ne, ↓e4]
  · rw [o.1.2 x x0 xn]
    dsimp only
    by_cases a : x < n
    · rw [if_pos (by omega), if_pos a]; exact d7 x x0 a
    · rw [if_neg (by omega), if_neg a]
theorem sides_m {τ : St} {i b l n m : Int} (hk : Ok τ) (hi : 0 ≤ i ∧ i < 6) (hl : 0 ≤ l ∧ l < 6) (h3 : τ 3 i = n) (hm : (b = 0 ∧ m = n / 2) ∨ (b = 1 ∧ m = (n - 1) / 2)) (h1 : 1 ≤ m) :
    ∃ τ', M_sides τ i b l = some (m, τ') ∧ Op τ τ' l m (fun x => τ 1 (256 * i + (1 + b + 2 * x))) 0 := by
  have n0 := (hk.2 i hi.1 hi.2).1
  have m0 := hk.1
  obtain ⟨s, hs⟩ : ∃ s, s = us τ 33 0 0 := ⟨_, rfl⟩
  have rs : ∀ L, Rws L τ s := fun L => by rw [hs]; exact us33 τ 0 L
  have s3 : s 3 i = n := by rw [((rs []).n (p := i) List.not_mem_nil).1]; exact h3
  have s30 : s 30 0 = τ 30 0 := by rw [hs, us_ne (by decide)]
  obtain ⟨s1, e1, f1, r1, a6, a7, c6, c7⟩ := asks_ex s i hi (by omega)
  rw [s3] at a6 a7 c6 c7
  obtain ⟨s2, hs2⟩ : ∃ s2, s2 = us s1 3 7 m := ⟨_, rfl⟩
  have f2 : Fr [3] s1 s2 := by rw [hs2]; exact (Fr.rf _ _).us (by decide)
  have a7' : s2 3 7 = m := by rw [hs2, us_eq]
  obtain ⟨t, e3, f3, c3, k3⟩ := M_shares_eq s2 6 (1 + b) 2 m 7 0 1 (by omega) (by omega) (by omega) (by omega) (by omega) (by omega) (by omega) (by omega) (fun k k0 kn => by omega) (fun k k0 kn => by omega)
  have t7 : t 3 7 = m := by rw [f3 3 (by decide)]; exact a7'
  obtain ⟨τ', e4, f4, r4, q1, q2⟩ := takes_ex t 7 l (by omega) (by omega) (by omega)
  rw [t7] at q1 q2
  have rt : Rws [6, 7] s t := r1.tr (((us37 s1 m).mono (by decide)).tr (by
    rw [← hs2]
    exact ⟨fun q hq => k3 q (fun k k0 kn => by have := hq 7 (by decide); omega), fun p _ => by rw [f3 3 (by decide)]⟩))
  have t30 : τ' 30 0 = τ 30 0 := by rw [f4 30 (by decide), f3 30 (by decide), f2 30 (by decide), f1 30 (by decide), s30]
  refine ⟨τ', ?_, ⟨⟨q1, fun x x0 xn => ?_⟩, fun p p0 p6 pl => ?_, by omega, by omega⟩⟩
  · unfold M_sides
    rcases hm with ⟨hb, hm⟩ | ⟨hb, hm⟩
    · subst hb
      simp (disch := omega) only [↓jn_e, ↓ite_y, ↓ite_n, ↓oadd_eq, ↓osub_eq, ↓omul_eq, ↓odiv_eq, ↓orem_eq, ↓rd_eq, ↓wr_eq, ↓gf_e, ↓pf_e, ↓bnd_e, ↓bndp_e, ↓opure_e, ↓oif_t, ↓oif_f, ↓E_isPlace_y, ↓E_isPlace_n, ↓E_isNumber_y, ↓E_isNumber_n, ↓M_isPlace_y, ↓M_isPlace_n, ↓M_isNumber_y, ↓M_isNumber_n, ↓M_in_y, ↓M_in_n, ↓us_ne, ← hs, ↓s3, ↓h3, ↓M_leftSize_eq, ← hm, ↓e1, ← hs2, ↓a7', ↓e3, ↓e4, ↓q1]
    · subst hb
      simp (disch := omega) only [↓jn_e, ↓ite_y, ↓ite_n, ↓oadd_eq, ↓osub_eq, ↓omul_eq, ↓odiv_eq, ↓orem_eq, ↓rd_eq, ↓wr_eq, ↓gf_e, ↓pf_e, ↓bnd_e, ↓bndp_e, ↓opure_e, ↓oif_t, ↓oif_f, ↓E_isPlace_y, ↓E_isPlace_n, ↓E_isNumber_y, ↓E_isNumber_n, ↓M_isPlace_y, ↓M_isPlace_n, ↓M_isNumber_y, ↓M_isNumber_n, ↓M_in_y, ↓M_in_n, ↓us_ne, ← hs, ↓s3, ↓h3, ↓M_rightSize_eq, ← hm, ↓e1, ← hs2, ↓a7', ↓e3, ↓e4, ↓q1]
  · rw [(q2 x x0 xn).1]
    have h := (c3 x x0 xn).1
    rw [show (256 * 7 + 0 + 1 * x : Int) = 256 * 7 + x by omega] at h
    rw [h, f2 1 (by decide)]
    have h2 := (c6 (1 + b + 2 * x) (by omega) (by omega)).1
    rw [show (256 * 6 + (1 + b) + 2 * x : Int) = 256 * 6 + (1 + b + 2 * x) by omega, h2, hs, us_ne (by decide)]
  · have a := (rs []).n (p := p) List.not_mem_nil
    have b' := rt.n (p := p) (by simp; omega)
    have c := r4.n (p := p) (by simp; exact pl)
    exact ⟨c.1.trans (b'.1.trans a.1), fun x x0 xn => (c.2 x x0 xn).trans ((b'.2 x x0 xn).trans (a.2 x x0 xn))⟩

-- P54, 6: HEAPS, POP of the reference
/-- the least, as the law finds it -/
def mnl (u : Int → Int) : Nat → Int
  | 0 => 999
  | m + 1 => imin (mnl u m) (u (m : Int))
theorem mnl_rng {u : Int → Int} : ∀ m : Nat, (∀ y, 0 ≤ y → y < m → -999 ≤ u y ∧ u y ≤ 999) → -999 ≤ mnl u m ∧ mnl u m ≤ 999 := by
  intro m
  induction m with
  | zero =>
    intro _
    show -999 ≤ (999 : Int) ∧ (999 : Int) ≤ 999
    omega
  | succ m ih =>
    intro h
    have a := ih (fun y y0 yn => h y y0 (by omega))
    have b := h m (by omega) (by omega)
    unfold mnl
    have c := imin_le (mnl u m) (u (m : Int))
    rcases c.1 with w | w <;> rw [w] <;> omega
theorem imin_comm (a b : Int) : imin a b = imin b a := by
  unfold imin
  by_cases c : b < a
  · rw [if_pos c, if_neg (by omega)]
  · rw [if_neg c]
    by_cases d : a < b
    · rw [if_pos d]
    · rw [if_neg d]; omega
theorem heapsM_loop (K : St → Option (Int × St)) (u : Int → Int) (N : Int) (hN : 0 ≤ N ∧ N ≤ 254) (hu : ∀ y, 0 ≤ y → y < N → -999 ≤ u y ∧ u y ≤ 999) : ∀ (r m : Nat) (s : St) (x : Nat), (x : Int) + r = N → s 3 7 = x → s 3 8 = N → (∀ y, 0 ≤ y → y < N → s 1 (2048 + y) = u y) → HP (fun y => s 1 (1792 + y)) x → sm (fun y => s 1 (1792 + y)) x = sm u x → (1 ≤ x → s 1 1792 = mnl u x) → r < m → (0 ≤ s 30 0 ∧ s 30 0 + 12 * r ≤ 2100000000) →
    ∃ t, M_heaps_L42 K m s x = K t ∧ Cr s t N (fun y => t 1 (1792 + y)) (12 * r) ∧ HP (fun y => t 1 (1792 + y)) N ∧ sm (fun y => t 1 (1792 + y)) N.toNat = sm u N.toNat ∧ (1 ≤ N → t 1 1792 = mnl u N.toNat) := by
  intro r
  induction r with
  | zero =>
    intro m s x hx h7 h8 hs hP hS hM hm hb
    obtain ⟨m, rfl⟩ : ∃ m', m = m' + 1 := ⟨m - 1, by omega⟩
    unfold M_heaps_L42
    have e : (x : Int) = N := by omega
    have e2 : N.toNat = x := by omega
    refine ⟨s, ?_, (Cr.rf (by omega)).is (by omega) (fun _ _ _ => rfl), by rw [← e]; exact hP, by rw [e2]; exact hS, fun h => by rw [e2]; exact hM (by omega)⟩
    simp (disch := omega) only [↓jn_e, ↓ite_y, ↓ite_n, ↓oadd_eq, ↓osub_eq, ↓omul_eq, ↓odiv_eq, ↓orem_eq, ↓rd_eq, ↓wr_eq, ↓gf_e, ↓pf_e, ↓bnd_e, ↓bndp_e, ↓opure_e, ↓oif_t, ↓oif_f, ↓E_isPlace_y, ↓E_isPlace_n, ↓E_isNumber_y, ↓E_isNumber_n, ↓M_isPlace_y, ↓M_isPlace_n, ↓M_isNumber_y, ↓M_isNumber_n, ↓M_in_y, ↓M_in_n, ↓us_ne, ↓h8]
  | succ r ih =>
    intro m s x hx h7 h8 hs hP hS hM hm hb
    obtain ⟨m, rfl⟩ : ∃ m', m = m' + 1 := ⟨m - 1, by omega⟩
    unfold M_heaps_L42
    obtain ⟨t, e1, c1⟩ := goesPush_cr (s := s) (n := x) (v := u x) (by omega) h7 (by omega)
    have c5 := c1.2.2.2.2
    have t8 := c1.2.1.n (p := 8) (by decide)
    have hnum : M_number s 8 x = some (u x) := by
      rw [M_number_eq (by omega) (by omega), ← hs x (by omega) (by omega)]; rfl
    have cx : ∀ y, 0 ≤ y → y < (x : Int) + 1 → psh 12 (fun y => s 1 (1792 + y)) x (u x) y = t 1 (1792 + y) := fun y y0 yn => (c1.2.2.2.1 y y0 yn).symm
    have hP' : HP (fun y => t 1 (1792 + y)) ((x + 1 : Nat) : Int) := by
      have h := psh_heap 12 (fun y => s 1 (1792 + y)) x (u x) (by omega) (by omega) (by rw [p2_12]; omega) hP
      rw [show ((x + 1 : Nat) : Int) = (x : Int) + 1 by omega]
      exact h.ext (by omega) cx
    have hS' : sm (fun y => t 1 (1792 + y)) (x + 1) = sm u (x + 1) := by
      rw [← sm_ext (x + 1) (fun y y0 yn => cx y y0 (by omega)), psh_sum 12 x _ _ (by rw [p2_12]; omega), hS]
      rfl
    have hM' : 1 ≤ x + 1 → t 1 1792 = mnl u (x + 1) := fun _ => by
      have h := cx 0 (by omega) (by omega)
      rw [show (1792 + 0 : Int) = 1792 from rfl] at h
      rw [← h]
      show _ = imin (mnl u x) (u x)
      by_cases x0 : x = 0
      · subst x0
        rw [show ((0 : Nat) : Int) = 0 from rfl, psh_0 (by omega)]
        have := hu 0 (by omega) (by omega)
        show u 0 = imin 999 (u 0)
        unfold imin
        by_cases c : u 0 < 999
        · rw [if_pos c]
        · rw [if_neg c]; omega
      · rw [psh_root (by omega), imin_comm]
        show imin (s 1 (1792 + 0)) (u x) = _
        rw [show (1792 + 0 : Int) = 1792 from rfl, hM (by omega)]
    obtain ⟨w, e2, c2, d1, d2, d3⟩ := ih m t (x + 1) (by omega) (by rw [c1.2.2.1]; omega) (by rw [t8.1]; exact h8) (fun y y0 yn => (t8.2 y y0 (by omega)).trans (hs y y0 yn)) hP' hS' hM' (by omega) (by omega)
    refine ⟨w, ?_, (c1.tr c2).is (by omega) (fun _ _ _ => rfl), d1, d2, d3⟩
    rw [show ((x + 1 : Nat) : Int) = (x : Int) + 1 by omega] at e2
    simp (disch := omega) only [↓jn_e, ↓ite_y, ↓ite_n, ↓oadd_eq, ↓osub_eq, ↓omul_eq, ↓odiv_eq, ↓orem_eq, ↓rd_eq, ↓wr_eq, ↓gf_e, ↓pf_e, ↓bnd_e, ↓bndp_e, ↓opure_e, ↓oif_t, ↓oif_f, ↓E_isPlace_y, ↓E_isPlace_n, ↓E_isNumber_y, ↓E_isNumber_n, ↓M_isPlace_y, ↓M_isPlace_n, ↓M_isNumber_y, ↓M_isNumber_n, ↓M_in_y, ↓M_in_n, ↓us_ne, ↓h8, ↓hnum, ↓e1]
    exact e2
theorem heaps_m {τ : St} {i l n : Int} (hk : Ok τ) (hi : 0 ≤ i ∧ i < 6) (hl : 0 ≤ l ∧ l < 6) (h3 : τ 3 i = n) (hn : n ≤ 254) :
    ∃ r τ', M_heaps τ i l = some (r, τ') ∧ Op τ τ' l n (fun x => τ' 1 (256 * l + x)) r ∧ HP (fun x => τ' 1 (256 * l + x)) n ∧ sm (fun x => τ' 1 (256 * l + x)) n.toNat = sm (fun x => τ 1 (256 * i + x)) n.toNat ∧ (1 ≤ n → τ' 1 (256 * l) = mnl (fun x => τ 1 (256 * i + x)) n.toNat) := by
  have n0 := (hk.2 i hi.1 hi.2).1
  have m0 := hk.1
  obtain ⟨s, hs⟩ : ∃ s, s = us τ 33 0 0 := ⟨_, rfl⟩
  have rs : ∀ L, Rws L τ s := fun L => by rw [hs]; exact us33 τ 0 L
  have si := (rs []).n (p := i) List.not_mem_nil
  have s30 : s 30 0 = τ 30 0 := by rw [hs, us_ne (by decide)]
  obtain ⟨s1, e1, f1, r1, a8, c8⟩ := takes_ex s i 8 (by omega) (by omega) (by rw [si.1]; omega)
  rw [si.1, h3] at a8 c8
  obtain ⟨s2, hs2⟩ : ∃ s2, s2 = us s1 34 0 (s1 30 0) := ⟨_, rfl⟩
  have e2 : M_begins s1 = some (0, s2) := by rw [hs2]; rfl
  have f2 : Fr [34] s1 s2 := by rw [hs2]; exact (Fr.rf _ _).us (by decide)
  obtain ⟨s3, hs3⟩ : ∃ s3, s3 = us s2 3 7 0 := ⟨_, rfl⟩
  have f3 : Fr [3] s2 s3 := by rw [hs3]; exact (Fr.rf _ _).us (by decide)
  have r3 : Rws [7, 8] τ s3 := ((rs _).tr (r1.mono (by decide))).tr ((Rws.fr f2 (by decide) (by decide) (by decide) _).tr (by rw [hs3]; exact (us37 s2 0).mono (by decide)))
  have q1 : s1 30 0 = τ 30 0 := by rw [f1 30 (by decide), s30]
  have a30 : s3 30 0 = τ 30 0 := by rw [f3 30 (by decide), f2 30 (by decide), q1]
  have a34 : s3 34 0 = τ 30 0 := by rw [f3 34 (by decide), hs2, us_eq, q1]
  have b7 : s3 3 7 = 0 := by rw [hs3, us_eq]
  have b8 : s3 3 8 = n := by rw [hs3, us_ni (by decide), f2 3 (by decide)]; exact a8
  have d8 : ∀ y, 0 ≤ y → y < n → s3 1 (2048 + y) = τ 1 (256 * i + y) := fun y y0 yn => by
    rw [f3 1 (by decide), f2 1 (by decide)]
    have h := (c8 y y0 yn).1
    rw [show (256 * 8 + y : Int) = 2048 + y by omega] at h
    rw [h, si.2 y y0 (by omega)]
  obtain ⟨K, hK⟩ : ∃ K : St → Option (Int × St), K = fun s => bnd (M_ends s l) fun v12 s13 => some (v12, s13) := ⟨_, rfl⟩
  obtain ⟨t, e3, c, d1, d2, d3⟩ := heapsM_loop K (fun x => τ 1 (256 * i + x)) n (by omega) (fun y y0 yn => (hk.2 i hi.1 hi.2).2 y y0 (by omega)) n.toNat FU s3 0 (by omega) b7 b8 d8 (fun x x0 xn => by exfalso; omega) rfl (fun h => by exfalso; omega) (by unfold FU; omega) (by omega)
  obtain ⟨τ', e4, o, f4⟩ := close2 hl r3 (by decide) a34 a30 c (by omega) (by omega)
  have row : ∀ y, 0 ≤ y → y < n → t 1 (1792 + y) = τ' 1 (256 * l + y) := fun y y0 yn => (o.1.2 y y0 yn).symm
  refine ⟨_, τ', ?_, ⟨⟨o.1.1, fun _ _ _ => rfl⟩, o.2⟩, d1.ext (by omega) row, ?_, fun h => ?_⟩
  · unfold M_heaps
    simp (disch := omega) only [↓jn_e, ↓ite_y, ↓ite_n, ↓oadd_eq, ↓osub_eq, ↓omul_eq, ↓odiv_eq, ↓orem_eq, ↓rd_eq, ↓wr_eq, ↓gf_e, ↓pf_e, ↓bnd_e, ↓bndp_e, ↓opure_e, ↓oif_t, ↓oif_f, ↓E_isPlace_y, ↓E_isPlace_n, ↓E_isNumber_y, ↓E_isNumber_n, ↓M_isPlace_y, ↓M_isPlace_n, ↓M_isNumber_y, ↓M_isNumber_n, ↓M_in_y, ↓M_in_n, ↓us_ne, ← hs, ↓e1, ↓e2, ← hs3, ← hK]
    rw [show M_heaps_L42 K FU s3 0 = K t from e3, hK]
    simp (disch := omega) only [↓jn_e, ↓ite_y, ↓ite_n, ↓oadd_eq, ↓osub_eq, ↓omul_eq, ↓odiv_eq, ↓orem_eq, ↓rd_eq, ↓wr_eq, ↓gf_e, ↓pf_e, ↓bnd_e, ↓bndp_e, ↓opure_e, ↓oif_t, ↓oif_f, ↓E_isPlace_y, ↓E_isPlace_n, ↓E_isNumber_y, ↓E_isNumber_n, ↓M_isPlace_y, ↓M_isPlace_n, ↓M_isNumber_y, ↓M_isNumber_n, ↓M_in_y, ↓M_in_n, ↓us_ne, ↓e4]
  · rw [← d2]
    exact sm_ext _ (fun y y0 yn => (row y y0 (by omega)).symm)
  · have h1 := row 0 (by omega) (by omega)
    rw [show 256 * l + 0 = 256 * l by omega, show (1792 + 0 : Int) = 1792 from rfl] at h1
    rw [← h1]; exact d3 h
theorem pop_m {τ : St} {i l n : Int} (hk : Ok τ) (hi : 0 ≤ i ∧ i < 6) (hl : 0 ≤ l ∧ l < 6) (h3 : τ 3 i = n) (hn : 1 ≤ n ∧ n ≤ 254) :
    ∃ r τ', M_pop τ i l = some (r, τ') ∧ Op τ τ' l (n - 1) (fun x => τ' 1 (256 * l + x)) r ∧ sm (fun x => τ' 1 (256 * l + x)) (n - 1).toNat + τ 1 (256 * i) = sm (fun x => τ 1 (256 * i + x)) n.toNat ∧ τ' 32 0 = 1 ∧ τ' 5 0 = τ 1 (256 * i) := by
  have n0 := (hk.2 i hi.1 hi.2).1
  have hnum := (hk.2 i hi.1 hi.2).2 0 (by omega) (by omega)
  have m0 := hk.1
  obtain ⟨v, hv⟩ : ∃ v, v = τ 1 (256 * i) := ⟨_, rfl⟩
  rw [show 256 * i + 0 = 256 * i by omega, ← hv] at hnum
  obtain ⟨s, e0, f0, w1, w2⟩ := told1 (τ := τ) (v := v) (by omega)
  have rs : ∀ L, Rws L τ s := Rws.fr f0 (by decide) (by decide) (by decide)
  have s3 : us τ 33 0 0 3 i = n := by rw [us_ne (by decide)]; exact h3
  have hN : M_number (us (us τ 33 0 0) 32 0 0) i 0 = some v := by
    rw [M_number_eq (by omega) (by omega), us_ne (by decide), us_ne (by decide), hv, show 256 * i + 0 = 256 * i by omega]
  have s30 : s 30 0 = τ 30 0 := by rw [f0 30 (by decide)]
  obtain ⟨s1, s2, e1, e2, f2, r2, a6, a7, c6, c7, a34, a30⟩ := open2 (rs _) s30 hi h3 (by omega)
  obtain ⟨u, hu⟩ : ∃ u, u = us s2 3 7 (n - 1) := ⟨_, rfl⟩
  have fu : Fr [3] s2 u := by rw [hu]; exact (Fr.rf _ _).us (by decide)
  have ru : Rws [7] s2 u := by rw [hu]; exact us37 s2 (n - 1)
  have u7 : u 3 7 = n - 1 := by rw [hu, us_eq]
  have u6 : u 3 6 = n := by rw [hu, us_ni (by decide)]; exact a6
  have u30 : u 30 0 = τ 30 0 := by rw [fu 30 (by decide)]; exact a30
  by_cases n1 : n = 1
  · have c : Cr s2 u (n - 1) (fun x => u 1 (1792 + x)) 0 := ⟨fu.mono (by decide), ru.mono (by decide), u7, fun _ _ _ => rfl, by omega⟩
    obtain ⟨τ', e4, o, f4⟩ := close2 hl r2 (by decide) a34 a30 c (by omega) (by omega)
    refine ⟨_, τ', ?_, ⟨⟨o.1.1, fun _ _ _ => rfl⟩, o.2⟩, ?_, ?_, ?_⟩
    · unfold M_pop
      simp (disch := omega) only [↓jn_e, ↓ite_y, ↓ite_n, ↓oadd_eq, ↓osub_eq, ↓omul_eq, ↓odiv_eq, ↓orem_eq, ↓rd_eq, ↓wr_eq, ↓gf_e, ↓pf_e, ↓bnd_e, ↓bndp_e, ↓opure_e, ↓oif_t, ↓oif_f, ↓E_isPlace_y, ↓E_isPlace_n, ↓E_isNumber_y, ↓E_isNumber_n, ↓M_isPlace_y, ↓M_isPlace_n, ↓M_isNumber_y, ↓M_isNumber_n, ↓M_in_y, ↓M_in_n, ↓us_ne, ↓s3, ↓hN, ↓e0, ↓e1, ↓e2, ↓a6, ← hu, ↓u7, ↓e4]
    · rw [n1, show ((1 : Int) - 1).toNat = 0 from rfl, show (1 : Int).toNat = 1 from rfl]
      show 0 + τ 1 (256 * i) = 0 + τ 1 (256 * i + ((0 : Nat) : Int))
      rw [show ((0 : Nat) : Int) = 0 from rfl, show 256 * i + 0 = 256 * i by omega]
    · rw [f4 32 (by decide), c.1 32 (by decide), f2 32 (by decide)]; exact w1
    · rw [f4 5 (by decide), c.1 5 (by decide), f2 5 (by decide), w2, hv]
  · obtain ⟨t1, e5, f5, c5, k5⟩ := M_shares_eq u 6 2 2 ((n - 1) / 2) 7 1 2 (by omega) (by omega) (by omega) (by omega) (by omega) (by omega) (by omega) (by omega) (fun k k0 kn => by omega) (fun k k0 kn => by omega)
    have t16 : t1 3 6 = n := by rw [f5 3 (by decide)]; exact u6
    have t130 : t1 30 0 = τ 30 0 := by rw [f5 30 (by decide)]; exact u30
    obtain ⟨t2, e6, k6, f6, b6, q6, c6'⟩ := lifts_c RD t1 (n / 2) 1 2 2 2 (by rw [RD_eq]; omega) (by rw [RD_eq, p2_12]; omega) (by omega) (by omega) (by omega) (by omega) (by omega) (fun k k0 kn => by omega) (fun k k0 kn => by omega)
    rw [RD_eq] at b6 q6 c6'
    have t27 : t2 3 7 = n - 1 := by rw [f6 3 (by decide), f5 3 (by decide)]; exact u7
    obtain ⟨w, hw⟩ : ∃ w, w = t2 42 0 := ⟨_, rfl⟩
    obtain ⟨t3, e7, s7, r7, f7, b7⟩ := sifts_c (N := (n - 1).toNat) (by omega) 7 FU t2 w (n - 1) 0 1 (by omega) (by unfold FU; omega) (by omega) (by rw [show (2 : Int) * p2 7 = 256 from rfl]; omega) (by omega) (by omega) (by omega) (fun y y0 yn => by omega)
    have eS : M_sifts t2 w = some (0, t3) := by
      unfold M_sifts
      simp (disch := omega) only [↓jn_e, ↓ite_y, ↓ite_n, ↓oadd_eq, ↓osub_eq, ↓omul_eq, ↓odiv_eq, ↓orem_eq, ↓rd_eq, ↓wr_eq, ↓gf_e, ↓pf_e, ↓bnd_e, ↓bndp_e, ↓opure_e, ↓oif_t, ↓oif_f, ↓E_isPlace_y, ↓E_isPlace_n, ↓E_isNumber_y, ↓E_isNumber_n, ↓M_isPlace_y, ↓M_isPlace_n, ↓M_isNumber_y, ↓M_isNumber_n, ↓M_in_y, ↓M_in_n, ↓us_ne, ↓t27]
      exact e7
    have r5 : Rws [7] u t1 := ⟨fun q hq => k5 q (fun k k0 kn => by have := hq 7 (by decide); omega), fun p _ => by rw [f5 3 (by decide)]⟩
    have r6 : Rws [7] t1 t2 := ⟨fun q hq => k6 q (fun k k0 kn => by have := hq 7 (by decide); unfold vw; omega), fun p _ => by rw [f6 3 (by decide)]⟩
    have c : Cr s2 t3 (n - 1) (fun x => t3 1 (1792 + x)) 40 := by
      refine ⟨(fu.mono (by decide)).tr ((f5.mono (by decide)).tr ((f6.mono (by decide)).tr (f7.mono (by decide)))), (ru.mono (by decide)).tr ((r5.mono (by decide)).tr ((r6.mono (by decide)).tr (r7.mono (by decide)))), by rw [f7 3 (by decide)]; exact t27, fun _ _ _ => rfl, by omega⟩
    obtain ⟨τ', e4, o, f4⟩ := close2 hl r2 (by decide) a34 a30 c (by omega) (by omega)
    refine ⟨_, τ', ?_, ⟨⟨o.1.1, fun _ _ _ => rfl⟩, o.2⟩, ?_, ?_, ?_⟩
    · unfold M_pop
      have hr : M_rightSize n = some ((n - 1) / 2) := M_rightSize_eq (by omega)
      have hq : M_leftSize n = some (n / 2) := M_leftSize_eq (by omega)
      simp (disch := omega) only [↓jn_e, ↓ite_y, ↓ite_n, ↓oadd_eq, ↓osub_eq, ↓omul_eq, ↓odiv_eq, ↓orem_eq, ↓rd_eq, ↓wr_eq, ↓gf_e, ↓pf_e, ↓bnd_e, ↓bndp_e, ↓opure_e, ↓oif_t, ↓oif_f, ↓E_isPlace_y, ↓E_isPlace_n, ↓E_isNumber_y, ↓E_isNumber_n, ↓M_isPlace_y, ↓M_isPlace_n, ↓M_isNumber_y, ↓M_isNumber_n, ↓M_in_y, ↓M_in_n, ↓us_ne, ↓s3, ↓hN, ↓e0, ↓e1, ↓e2, ↓a6, ← hu, ↓u7, ↓u6, ↓hr, ↓e5, ↓t16, ↓hq, ↓e6, ← hw, ↓eS, ↓e4]
    · obtain ⟨m, hm⟩ : ∃ m : Nat, n = (m : Int) + 1 := ⟨(n - 1).toNat, by omega⟩
      have m1 : 1 ≤ m := by omega
      have en : (n - 1).toNat = m := by omega
      have en2 : n.toNat = m + 1 := by omega
      rw [en] at s7 ⊢
      rw [en2]
      rw [sm_ext (g := fun x => t3 1 (1792 + x)) m (fun y y0 yn => o.1.2 y y0 (by omega)), s7]
      rw [sm_split (fun x => t2 1 (1792 + x)) m m1, sm_split (fun x => τ 1 (256 * i + x)) (m + 1) (by omega)]
      have odd : sm (fun j => t2 1 (1792 + (2 * j + 1))) (m / 2) = sm (fun j => τ 1 (256 * i + (2 * j + 2))) (m / 2) := sm_ext _ (fun j j0 jn => by
        have a := (k6 (1792 + (2 * j + 1)) (fun k k0 kn => by unfold vw; omega)).1
        have b := (c5 j j0 (by omega)).1
        rw [show (256 * 7 + 1 + 2 * j : Int) = 1792 + (2 * j + 1) by omega, show (256 * 6 + 2 + 2 * j : Int) = 1536 + (2 * j + 2) by omega] at b
        rw [a, b, fu 1 (by decide)]
        exact c6 _ (by omega) (by omega))
      have view : ∀ x, 0 ≤ x → x < n / 2 → t1 1 (vw 6 1 2 x) = τ 1 (256 * i + (2 * x + 1)) := fun x x0 xn => by
        have a := (k5 (vw 6 1 2 x) (fun k k0 kn => by unfold vw; omega)).1
        rw [a, fu 1 (by decide), show vw 6 1 2 x = 1536 + (2 * x + 1) by unfold vw; omega]
        exact c6 _ (by omega) (by omega)
      have le := lf_ext 12 (fun x => t1 1 (vw 6 1 2 x)) (fun x => τ 1 (256 * i + (2 * x + 1))) (n := n / 2) view (by omega) (by rw [p2_12]; omega)
      have even : sm (fun j => t2 1 (1792 + (2 * j + 2))) ((m - 1) / 2) = sm (lft 12 (fun x => τ 1 (256 * i + (2 * x + 1))) (((m + 1) / 2 : Nat) : Int)) ((m - 1) / 2) := sm_ext _ (fun j j0 jn => by
        have a := c6' j j0 (by omega)
        rw [show vw 7 2 2 j = 1792 + (2 * j + 2) by unfold vw; omega] at a
        rw [a, le.2 j j0 (by omega), show n / 2 = (((m + 1) / 2 : Nat) : Int) by omega])
      have ls := lf_sum 12 ((m + 1) / 2) (fun x => τ 1 (256 * i + (2 * x + 1))) (by omega) (by rw [p2_12]; omega)
      have hwv : w = lfv 12 (fun x => τ 1 (256 * i + (2 * x + 1))) (((m + 1) / 2 : Nat) : Int) := by
        rw [hw, q6, le.1, show n / 2 = (((m + 1) / 2 : Nat) : Int) by omega]
      rw [show (m + 1) / 2 - 1 = (m - 1) / 2 by omega] at ls
      rw [odd, even, hwv]
      show _ + sm (fun j => τ 1 (256 * i + (2 * j + 2))) (m / 2) + sm (lft 12 (fun x => τ 1 (256 * i + (2 * x + 1))) (((m + 1) / 2 : Nat) : Int)) ((m - 1) / 2) - t2 1 (1792 + 0) + _ + τ 1 (256 * i) = τ 1 (256 * i + 0) + sm (fun j => τ 1 (256 * i + (2 * j + 1))) ((m + 1) / 2) + sm (fun j => τ 1 (256 * i + (2 * j + 2))) ((m + 1 - 1) / 2)
      rw [← ls, show 256 * i + 0 = 256 * i by omega, show (m + 1 - 1) / 2 = m / 2 by omega]
      omega
    · rw [f4 32 (by decide), c.1 32 (by decide), f2 32 (by decide)]; exact w1
    · rw [f4 5 (by decide), c.1 5 (by decide), f2 5 (by decide), w2, hv]

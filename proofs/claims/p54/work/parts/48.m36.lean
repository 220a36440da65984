-- MATH 36: asks: occurs, heap, level
theorem stands_loop {K : Int → Option Int} {i j at0 N M9 : Int} (hi : 0 ≤ i ∧ i < 6) (hj : 0 ≤ j ∧ j < 6) (hK : ∀ x, K x = some (if x = M9 then 1 else 0)) (hN : 0 ≤ at0 ∧ at0 + M9 ≤ N ∧ N ≤ 255) {s τ : St} (h3 : τ 3 j = M9) (hu : ∀ x, 0 ≤ x → x < N → s 26 x = τ 1 (256 * i + x)) (hv : ∀ x, 0 ≤ x → x < M9 → s 27 x = τ 1 (256 * j + x)) : ∀ (r m1 m2 : Nat) (x : Int), x + r = M9 → 0 ≤ x → r < m1 → r < m2 →
    ∃ b, (b = 0 ∨ b = 1) ∧ E_standsAt_L2 K s at0 M9 m1 x = some b ∧ M_stands_L3 τ i j at0 m2 x = some b := by
  intro r
  induction r with
  | zero =>
    intro m1 m2 x h1 h0 h2 h3'
    cases m1 with
    | zero => omega
    | succ m1 =>
    cases m2 with
    | zero => omega
    | succ m2 =>
    refine ⟨1, Or.inr rfl, ?_, ?_⟩
    · unfold E_standsAt_L2
      rw [if_neg (by omega), hK, if_pos (by omega)]
    · unfold M_stands_L3
      rw [rd_eq (by omega), h3, if_neg (by omega)]
  | succ r ih =>
    intro m1 m2 x h1 h0 h2 h3'
    cases m1 with
    | zero => omega
    | succ m1 =>
    cases m2 with
    | zero => omega
    | succ m2 =>
    have u := hu (at0 + x) (by omega) (by omega)
    have v := hv x h0 (by omega)
    have ni : M_number τ i (at0 + x) = some (τ 1 (256 * i + (at0 + x))) := M_number_eq (by omega) (by omega)
    have nj : M_number τ j x = some (τ 1 (256 * j + x)) := M_number_eq (by omega) (by omega)
    by_cases q : τ 1 (256 * i + (at0 + x)) = τ 1 (256 * j + x)
    · obtain ⟨b, b0, x1, x2⟩ := ih m1 m2 (x + 1) (by omega) (by omega) (by omega) (by omega)
      refine ⟨b, b0, ?_, ?_⟩
      · unfold E_standsAt_L2
        rw [if_pos (by omega), oadd_eq (by omega), rd_eq (by omega), rd_eq (by omega), u, v, if_pos q, oadd_eq (by omega)]
        exact x1
      · unfold M_stands_L3
        rw [rd_eq (by omega), h3, if_pos (by omega), oadd_eq (by omega), ni, bndp_eq, nj, bndp_eq, if_pos q, oadd_eq (by omega)]
        exact x2
    · refine ⟨0, Or.inl rfl, ?_, ?_⟩
      · unfold E_standsAt_L2
        rw [if_pos (by omega), oadd_eq (by omega), rd_eq (by omega), rd_eq (by omega), u, v, if_neg q, hK, if_neg (by omega)]
      · unfold M_stands_L3
        rw [rd_eq (by omega), h3, if_pos (by omega), oadd_eq (by omega), ni, bndp_eq, nj, bndp_eq, if_neg q]
theorem stands_eq {i j at0 N M9 : Int} (hi : 0 ≤ i ∧ i < 6) (hj : 0 ≤ j ∧ j < 6) (hM : 0 ≤ M9) (hN : 0 ≤ at0 ∧ at0 + M9 ≤ N ∧ N ≤ 255) {s τ : St} (h3 : τ 3 j = M9) (hu : ∀ x, 0 ≤ x → x < N → s 26 x = τ 1 (256 * i + x)) (hv : ∀ x, 0 ≤ x → x < M9 → s 27 x = τ 1 (256 * j + x)) :
    ∃ b, (b = 0 ∨ b = 1) ∧ E_standsAt s at0 M9 = some b ∧ M_stands τ i j at0 = some b :=
  stands_loop (K := fun (x1 : Int) => oif (x1 = M9) inferInstance 1 0 fun v3 => retZp v3) hi hj (fun x => by
    by_cases q : x = M9
    · rw [if_pos q]
      show oif _ _ _ _ _ = _
      rw [oif_t q (by omega), retZp_1]
    · rw [if_neg q]
      show oif _ _ _ _ _ = _
      rw [oif_f q (by omega), retZp_0]) hN h3 hu hv M9.toNat FU FU 0 (by omega) (by omega) (by unfold FU; omega) (by unfold FU; omega)
theorem occurs_loop {K1 K2 : Int → Int → Int → Option (Int × St)} {i j N M9 : Int} (hi : 0 ≤ i ∧ i < 6) (hj : 0 ≤ j ∧ j < 6) (hM : 0 ≤ M9 ∧ M9 ≤ 255) (hN : 0 ≤ N ∧ N ≤ 255) {s τ : St} (e25i : s 25 i = N) (e25j : s 25 j = M9) (h3i : τ 3 i = N) (h3 : τ 3 j = M9) (hu : ∀ x, 0 ≤ x → x < N → s 26 x = τ 1 (256 * i + x)) (hv : ∀ x, 0 ≤ x → x < M9 → s 27 x = τ 1 (256 * j + x)) : ∀ (r m1 m2 : Nat) (c a b x : Int), x + r = 256 → 0 ≤ x → r < m1 → r < m2 → 0 ≤ c → c ≤ x → -1 ≤ a → a ≤ x → -1 ≤ b → b ≤ x →
    ∃ c2 a2 b2, E_occurs_L33 K1 s i j m1 c a b x = K1 c2 a2 b2 ∧ M_occurs_L32 K2 τ i j m2 c a b x = K2 c2 a2 b2 ∧ -1 ≤ a2 ∧ a2 ≤ 256 ∧ -1 ≤ b2 ∧ b2 ≤ 256 := by
  intro r
  induction r with
  | zero =>
    intro m1 m2 c a b x h1 h0 h2 h3' c0 c1 a0 a1 b0 b1
    cases m1 with
    | zero => omega
    | succ m1 =>
    cases m2 with
    | zero => omega
    | succ m2 =>
    refine ⟨c, a, b, ?_, ?_, by omega, by omega, by omega, by omega⟩
    · unfold E_occurs_L33
      rw [rd_eq (by omega), e25j, oadd_eq (by omega), rd_eq (by omega), e25i, if_pos (by omega)]
    · unfold M_occurs_L32
      rw [rd_eq (by omega), h3, oadd_eq (by omega), rd_eq (by omega), h3i, if_pos (by omega)]
  | succ r ih =>
    intro m1 m2 c a b x h1 h0 h2 h3' c0 c1 a0 a1 b0 b1
    cases m1 with
    | zero => omega
    | succ m1 =>
    cases m2 with
    | zero => omega
    | succ m2 =>
    by_cases w : N < x + M9
    · refine ⟨c, a, b, ?_, ?_, by omega, by omega, by omega, by omega⟩
      · unfold E_occurs_L33
        rw [rd_eq (by omega), e25j, oadd_eq (by omega), rd_eq (by omega), e25i, if_pos w]
      · unfold M_occurs_L32
        rw [rd_eq (by omega), h3, oadd_eq (by omega), rd_eq (by omega), h3i, if_pos w]
    · obtain ⟨t, t0, t1, t2⟩ := stands_eq (at0 := x) hi hj hM.1 ⟨h0, by omega, hN.2⟩ h3 hu hv
      rcases t0 with t0 | t0
      · subst t0
        obtain ⟨c2, a2, b2, y1, y2, y3⟩ := ih m1 m2 c a b (x + 1) (by omega) (by omega) (by omega) (by omega) c0 (by omega) a0 (by omega) b0 (by omega)
        refine ⟨c2, a2, b2, ?_, ?_, y3⟩
        · conv => lhs; unfold E_occurs_L33
          simp (disch := omega) only [↓jn_e, ↓ite_y, ↓ite_n, ↓oadd_eq, ↓osub_eq, ↓omul_eq, ↓odiv_eq, ↓orem_eq, ↓rd_eq, ↓wr_eq, ↓gf_e, ↓pf_e, ↓bnd_e, ↓bndp_e, ↓opure_e, ↓oif_t, ↓oif_f, ↓E_isPlace_y, ↓E_isPlace_n, ↓E_isNumber_y, ↓E_isNumber_n, ↓M_isPlace_y, ↓M_isPlace_n, ↓M_isNumber_y, ↓M_isNumber_n, ↓M_in_y, ↓M_in_n, ↓us_ne, e25i, e25j, ↓t1]
          exact y1
        · conv => lhs; unfold M_occurs_L32
          simp (disch := omega) only [↓jn_e, ↓ite_y, ↓ite_n, ↓oadd_eq, ↓osub_eq, ↓omul_eq, ↓odiv_eq, ↓orem_eq, ↓rd_eq, ↓wr_eq, ↓gf_e, ↓pf_e, ↓bnd_e, ↓bndp_e, ↓opure_e, ↓oif_t, ↓oif_f, ↓E_isPlace_y, ↓E_isPlace_n, ↓E_isNumber_y, ↓E_isNumber_n, ↓M_isPlace_y, ↓M_isPlace_n, ↓M_isNumber_y, ↓M_isNumber_n, ↓M_in_y, ↓M_in_n, ↓us_ne, h3, h3i, ↓t2]
          exact y2
      · subst t0
        obtain ⟨c2, a2, b2, y1, y2, y3⟩ := ih m1 m2 (c + 1) (if c = 0 then x else a) x (x + 1) (by omega) (by omega) (by omega) (by omega) (by omega) (by omega) (by split <;> omega) (by split <;> omega) (by omega) (by omega)
        refine ⟨c2, a2, b2, ?_, ?_, y3⟩
        · conv => lhs; unfold E_occurs_L33
          by_cases w2 : c = 0
          · rw [if_pos w2] at y1
            simp (disch := omega) only [↓jn_e, ↓ite_y, ↓ite_n, ↓oadd_eq, ↓osub_eq, ↓omul_eq, ↓odiv_eq, ↓orem_eq, ↓rd_eq, ↓wr_eq, ↓gf_e, ↓pf_e, ↓bnd_e, ↓bndp_e, ↓opure_e, ↓oif_t, ↓oif_f, ↓E_isPlace_y, ↓E_isPlace_n, ↓E_isNumber_y, ↓E_isNumber_n, ↓M_isPlace_y, ↓M_isPlace_n, ↓M_isNumber_y, ↓M_isNumber_n, ↓M_in_y, ↓M_in_n, ↓us_ne, e25i, e25j, ↓t1]
            exact y1
          · rw [if_neg w2] at y1
            simp (disch := omega) only [↓jn_e, ↓ite_y, ↓ite_n, ↓oadd_eq, ↓osub_eq, ↓omul_eq, ↓odiv_eq, ↓orem_eq, ↓rd_eq, ↓wr_eq, ↓gf_e, ↓pf_e, ↓bnd_e, ↓bndp_e, ↓opure_e, ↓oif_t, ↓oif_f, ↓E_isPlace_y, ↓E_isPlace_n, ↓E_isNumber_y, ↓E_isNumber_n, ↓M_isPlace_y, ↓M_isPlace_n, ↓M_isNumber_y, ↓M_isNumber_n, ↓M_in_y, ↓M_in_n, ↓us_ne, e25i, e25j, ↓t1]
            exact y1
        · conv => lhs; unfold M_occurs_L32
          by_cases w2 : c = 0
          · rw [if_pos w2] at y2
            simp (disch := omega) only [↓jn_e, ↓ite_y, ↓ite_n, ↓oadd_eq, ↓osub_eq, ↓omul_eq, ↓odiv_eq, ↓orem_eq, ↓rd_eq, ↓wr_eq, ↓gf_e, ↓pf_e, ↓bnd_e, ↓bndp_e, ↓opure_e, ↓oif_t, ↓oif_f, ↓E_isPlace_y, ↓E_isPlace_n, ↓E_isNumber_y, ↓E_isNumber_n, ↓M_isPlace_y, ↓M_isPlace_n, ↓M_isNumber_y, ↓M_isNumber_n, ↓M_in_y, ↓M_in_n, ↓us_ne, h3, h3i, ↓t2]
            exact y2
          · rw [if_neg w2] at y2
            simp (disch := omega) only [↓jn_e, ↓ite_y, ↓ite_n, ↓oadd_eq, ↓osub_eq, ↓omul_eq, ↓odiv_eq, ↓orem_eq, ↓rd_eq, ↓wr_eq, ↓gf_e, ↓pf_e, ↓bnd_e, ↓bndp_e, ↓opure_e, ↓oif_t, ↓oif_f, ↓E_isPlace_y, ↓E_isPlace_n, ↓E_isNumber_y, ↓E_isNumber_n, ↓M_isPlace_y, ↓M_isPlace_n, ↓M_isNumber_y, ↓M_isNumber_n, ↓M_in_y, ↓M_in_n, ↓us_ne, h3, h3i, ↓t2]
            exact y2
theorem call_occurs : HS_40 SS := by
  intro k σ τ z0 z1 hk hS i0 i1
  have hS0 := hS
  obtain ⟨⟨ρ, hW⟩, hT, hr, hn, hm⟩ := hS
  unfold E_occurs M_occurs
  by_cases a : 0 ≤ z0 ∧ z0 < 6
  · have hP := hW.2.2 z0 a.1 a.2
    have s0 := hP.2.1
    have n0 := hP.1
    by_cases b : 0 ≤ z1 ∧ z1 < 6
    · have hQ := hW.2.2 z1 b.1 b.2
      have s1 := hQ.2.1
      have n1 := hQ.1
      obtain ⟨sa, e5, f5, c5, d5⟩ := readBoth_ex (σ := σ) a b n0 n1
      obtain ⟨K1, hK1⟩ : ∃ K1 : Int → Int → Int → Option (Int × St), K1 = fun (x5 : Int) (x6 : Int) (x7 : Int) => bnd (Row_tell1 sa x6 x7) fun _ s10 => some (x5, s10) := ⟨_, rfl⟩
      obtain ⟨K2, hK2⟩ : ∃ K2 : Int → Int → Int → Option (Int × St), K2 = fun (x4 : Int) (x5 : Int) (x6 : Int) => pf (us τ 33 0 0) 32 0 fun s8 => bnd (M_tell s8 x5) fun _ s10 => bnd (M_tell s10 x6) fun _ s12 => some (x4, s12) := ⟨_, rfl⟩
      obtain ⟨c, p, q, y1, y2, y3, y4, y5, y6⟩ := occurs_loop (K1 := K1) (K2 := K2) (N := σ 25 z0) (M9 := σ 25 z1) (s := sa) (τ := us τ 33 0 0) a b n1 n0 (by rw [f5 25 (by decide)]) (by rw [f5 25 (by decide)]) (by rw [us_ne (by decide)]; exact s0) (by rw [us_ne (by decide)]; exact s1)
        (fun x w1 w2 => by rw [c5 x w1 w2, us_ne (by decide)]; exact (hP.num ⟨w1, w2⟩).1) (fun x w1 w2 => by rw [d5 x w1 w2, us_ne (by decide)]; exact (hQ.num ⟨w1, w2⟩).1) 256 FU FU 0 (-1) (-1) 0 (by omega) (by omega) (by unfold FU; omega) (by unfold FU; omega) (by omega) (by omega) (by omega) (by omega) (by omega) (by omega)
      obtain ⟨σt, τ1, τt, t1, t2, t3, t4, t5, t6, t7, -⟩ := tells2 sa (us τ 33 0 0) (a := p) (b := q) (by omega) (by omega)
      refine ⟨c, σt, τt, ?_, ?_, hS0.ask ((f5.mono (by decide)).tr (t5.mono (by decide))) (((fr_sc [33] τ 33 0 (by decide)).mono (by decide)).tr (t7.mono (by decide))) ((Rws.fr (fr_sc [33] _ _ _ (by decide)) (by decide) (by decide) (by decide) _).tr (Rws.fr t7 (by decide) (by decide) (by decide) _)) t4⟩
      · rw [E_isPlace_y a, bndp_eq, if_neg (by decide), E_isPlace_y b, bndp_eq, if_neg (by decide), e5, bnd_eq, ← hK1, jn_eq]
        refine y1.trans ?_
        rw [hK1]
        show bnd (Row_tell1 sa p q) _ = _
        rw [t1, bnd_eq]
      · rw [pf_eq, M_isPlace_y a, bndp_eq, if_neg (by decide), M_isPlace_y b, bndp_eq, if_neg (by decide), ← hK2, jn_eq]
        refine y2.trans ?_
        rw [hK2]
        show pf _ 32 0 _ = _
        rw [pf_eq, t2, bnd_eq, t3, bnd_eq]
    · refine ⟨-1, σ, us τ 33 0 0, ?_, ?_, hS0.thr⟩
      · simp (disch := omega) only [↓jn_e, ↓ite_y, ↓ite_n, ↓oadd_eq, ↓osub_eq, ↓omul_eq, ↓odiv_eq, ↓orem_eq, ↓rd_eq, ↓wr_eq, ↓gf_e, ↓pf_e, ↓bnd_e, ↓bndp_e, ↓opure_e, ↓oif_t, ↓oif_f, ↓E_isPlace_y, ↓E_isPlace_n, ↓E_isNumber_y, ↓E_isNumber_n, ↓M_isPlace_y, ↓M_isPlace_n, ↓M_isNumber_y, ↓M_isNumber_n, ↓M_in_y, ↓M_in_n, ↓us_ne]
      · simp (disch := omega) only [↓jn_e, ↓ite_y, ↓ite_n, ↓oadd_eq, ↓osub_eq, ↓omul_eq, ↓odiv_eq, ↓orem_eq, ↓rd_eq, ↓wr_eq, ↓gf_e, ↓pf_e, ↓bnd_e, ↓bndp_e, ↓opure_e, ↓oif_t, ↓oif_f, ↓E_isPlace_y, ↓E_isPlace_n, ↓E_isNumber_y, ↓E_isNumber_n, ↓M_isPlace_y, ↓M_isPlace_n, ↓M_isNumber_y, ↓M_isNumber_n, ↓M_in_y, ↓M_in_n, ↓us_ne]
  · refine ⟨-1, σ, us τ 33 0 0, ?_, ?_, hS0.thr⟩
    · simp (disch := omega) only [↓jn_e, ↓ite_y, ↓ite_n, ↓oadd_eq, ↓osub_eq, ↓omul_eq, ↓odiv_eq, ↓orem_eq, ↓rd_eq, ↓wr_eq, ↓gf_e, ↓pf_e, ↓bnd_e, ↓bndp_e, ↓opure_e, ↓oif_t, ↓oif_f, ↓E_isPlace_y, ↓E_isPlace_n, ↓E_isNumber_y, ↓E_isNumber_n, ↓M_isPlace_y, ↓M_isPlace_n, ↓M_isNumber_y, ↓M_isNumber_n, ↓M_in_y, ↓M_in_n, ↓us_ne]
    · simp (disch := omega) only [↓jn_e, ↓ite_y, ↓ite_n, ↓oadd_eq, ↓osub_eq, ↓omul_eq, ↓odiv_eq, ↓orem_eq, ↓rd_eq, ↓wr_eq, ↓gf_e, ↓pf_e, ↓bnd_e, ↓bndp_e, ↓opure_e, ↓oif_t, ↓oif_f, ↓E_isPlace_y, ↓E_isPlace_n, ↓E_isNumber_y, ↓E_isNumber_n, ↓M_isPlace_y, ↓M_isPlace_n, ↓M_isNumber_y, ↓M_isNumber_n, ↓M_in_y, ↓M_in_n, ↓us_ne]
-- heap
theorem M_above_ex {i : Int} (h : 1 ≤ i ∧ i < 255) (τ : St) : ∃ τ2, M_above τ i = some (up i, τ2) ∧ Fr [6, 35, 36] τ τ2 := by
  obtain ⟨τ2, e, f, a, -, c⟩ := laysWay_ex (i := i) (by omega) τ
  have h7 := dp_7 (i := i) (by omega)
  have hd : 1 ≤ dp i := by unfold dp; rw [if_neg (by omega)]; repeat (first | omega | split)
  have ce := c (dp i - 1) (by omega)
  have u := (ats_up (i := i) (by omega) (q := dp i - 1) (by omega)).2
  rw [show dp i - 1 + 1 = dp i by omega, ats_dp (by omega)] at u
  rw [← u] at ce
  have ec : ((dp i - 1 : Nat) : Int) = (dp i : Int) + 1 - 2 := by omega
  rw [ec] at ce
  refine ⟨τ2, ?_, f⟩
  unfold M_above
  rw [e, bnd_eq, gf_eq, a, osub_eq (by omega), rd_eq (by omega), ce]
theorem heapE_loop {K : Int → Option (Int × St)} {i N : Int} (hi : 0 ≤ i ∧ i < 6) (hN : 0 ≤ N ∧ N ≤ 255) {s : St} {u : Int → Int} (h25 : s 25 i = N) (hu : ∀ x, 0 ≤ x → x < N → s 26 x = u x) : ∀ (r m : Nat) (x : Int), x + r = 256 → 1 ≤ x → r + 1 < m → (∀ z, 1 ≤ z → z < x → ¬ u z < u (up z)) →
    ∃ w, E_heap_L36 K s i m (-1) x = K w ∧ ((w = -1 ∧ ∀ z, 1 ≤ z → z < N → ¬ u z < u (up z)) ∨ (1 ≤ w ∧ w < N ∧ u w < u (up w) ∧ ∀ z, 1 ≤ z → z < w → ¬ u z < u (up z))) := by
  intro r
  induction r with
  | zero =>
    intro m x h1 h0 h2 hz
    cases m with
    | zero => omega
    | succ m =>
    refine ⟨-1, ?_, Or.inl ⟨rfl, fun z a b => hz z a (by omega)⟩⟩
    unfold E_heap_L36
    rw [rd_eq (by omega), h25, if_neg (by omega)]
  | succ r ih =>
    intro m x h1 h0 h2 hz
    cases m with
    | zero => omega
    | succ m =>
    by_cases c : x < N
    · have us9 := up_spec (x := x) (by omega)
      have ux := hu x (by omega) c
      have uu := hu (up x) us9.1 (by omega)
      have sa := Shape_above_eq (x := x) (by omega)
      rw [if_neg (by omega)] at sa
      by_cases w : u x < u (up x)
      · refine ⟨x, ?_, Or.inr ⟨h0, c, w, hz⟩⟩
        conv => lhs; unfold E_heap_L36
        simp (disch := omega) only [↓jn_e, ↓ite_y, ↓ite_n, ↓oadd_eq, ↓osub_eq, ↓omul_eq, ↓odiv_eq, ↓orem_eq, ↓rd_eq, ↓wr_eq, ↓gf_e, ↓pf_e, ↓bnd_e, ↓bndp_e, ↓opure_e, ↓oif_t, ↓oif_f, ↓E_isPlace_y, ↓E_isPlace_n, ↓E_isNumber_y, ↓E_isNumber_n, ↓M_isPlace_y, ↓M_isPlace_n, ↓M_isNumber_y, ↓M_isNumber_n, ↓M_in_y, ↓M_in_n, ↓us_ne, h25, ↓sa, ux, uu]
        cases m with
        | zero => omega
        | succ m =>
        unfold E_heap_L36
        rw [rd_eq (by omega), h25]
        by_cases c2 : x + 1 < N
        · rw [if_pos c2, if_neg (by omega)]
        · rw [if_neg c2]
      · obtain ⟨w2, y1, y2⟩ := ih m (x + 1) (by omega) (by omega) (by omega) (fun z a b => by
          by_cases e : z = x
          · rw [e]; exact w
          · exact hz z a (by omega))
        refine ⟨w2, ?_, y2⟩
        conv => lhs; unfold E_heap_L36
        simp (disch := omega) only [↓jn_e, ↓ite_y, ↓ite_n, ↓oadd_eq, ↓osub_eq, ↓omul_eq, ↓odiv_eq, ↓orem_eq, ↓rd_eq, ↓wr_eq, ↓gf_e, ↓pf_e, ↓bnd_e, ↓bndp_e, ↓opure_e, ↓oif_t, ↓oif_f, ↓E_isPlace_y, ↓E_isPlace_n, ↓E_isNumber_y, ↓E_isNumber_n, ↓M_isPlace_y, ↓M_isPlace_n, ↓M_isNumber_y, ↓M_isNumber_n, ↓M_in_y, ↓M_in_n, ↓us_ne, h25, ↓sa, ux, uu]
        exact y1
    · refine ⟨-1, ?_, Or.inl ⟨rfl, fun z a b => hz z a (by omega)⟩⟩
      unfold E_heap_L36
      rw [rd_eq (by omega), h25, if_neg c]
theorem heapM_loop {K : St → Int → Option (Int × St)} {i N : Int} (hi : 0 ≤ i ∧ i < 6) (hN : 0 ≤ N ∧ N ≤ 255) {τ : St} {u : Int → Int} (hu : ∀ x, 0 ≤ x → x < N → τ 1 (256 * i + x) = u x) : ∀ (r m : Nat) (t : St) (f x : Int), x ≤ r → x < N → r < m → Fr [6, 35, 36] τ t → ((f = -1 ∧ ∀ z, x < z → 1 ≤ z → z < N → ¬ u z < u (up z)) ∨ (1 ≤ f ∧ x < f ∧ f < N ∧ u f < u (up f) ∧ ∀ z, x < z → 1 ≤ z → z < f → ¬ u z < u (up z))) →
    ∃ w t2, M_heap_L25 K i m t f x = K t2 w ∧ Fr [6, 35, 36] τ t2 ∧ ((w = -1 ∧ ∀ z, 1 ≤ z → z < N → ¬ u z < u (up z)) ∨ (1 ≤ w ∧ w < N ∧ u w < u (up w) ∧ ∀ z, 1 ≤ z → z < w → ¬ u z < u (up z))) := by
  intro r
  induction r with
  | zero =>
    intro m t f x h1 h0 h2 hF hz
    cases m with
    | zero => omega
    | succ m =>
    refine ⟨f, t, ?_, hF, ?_⟩
    · unfold M_heap_L25
      rw [if_neg (by omega)]
    · rcases hz with ⟨a, b⟩ | ⟨a, b, c, d, e⟩
      · exact Or.inl ⟨a, fun z p q => b z (by omega) p q⟩
      · exact Or.inr ⟨a, c, d, fun z p q => e z (by omega) p q⟩
  | succ r ih =>
    intro m t f x h1 h0 h2 hF hz
    cases m with
    | zero => omega
    | succ m =>
    by_cases c : 0 < x
    · have us9 := up_spec (x := x) (by omega)
      have n1 : M_number t i x = some (u x) := by rw [M_number_eq (by omega) (by omega), hF 1 (by decide), hu x (by omega) h0]
      obtain ⟨t1, e1, f1⟩ := M_above_ex (i := x) (by omega) t
      have n2 : M_number t1 i (up x) = some (u (up x)) := by rw [M_number_eq (by omega) (by omega), f1 1 (by decide), hF 1 (by decide), hu (up x) us9.1 (by omega)]
      have e3 : x + -1 = x - 1 := by omega
      by_cases w : u x < u (up x)
      · obtain ⟨w2, t2, y1, y2⟩ := ih m t1 x (x - 1) (by omega) (by omega) (by omega) (hF.tr f1) (Or.inr ⟨by omega, by omega, h0, w, fun z p q r => by omega⟩)
        refine ⟨w2, t2, ?_, y2⟩
        conv => lhs; unfold M_heap_L25
        simp (disch := omega) only [↓jn_e, ↓ite_y, ↓ite_n, ↓oadd_eq, ↓osub_eq, ↓omul_eq, ↓odiv_eq, ↓orem_eq, ↓rd_eq, ↓wr_eq, ↓gf_e, ↓pf_e, ↓bnd_e, ↓bndp_e, ↓opure_e, ↓oif_t, ↓oif_f, ↓E_isPlace_y, ↓E_isPlace_n, ↓E_isNumber_y, ↓E_isNumber_n, ↓M_isPlace_y, ↓M_isPlace_n, ↓M_isNumber_y, ↓M_isNumber_n, ↓M_in_y, ↓M_in_n, ↓us_ne, ↓n1, ↓e1, ↓n2, e3]
        exact y1
      · obtain ⟨w2, t2, y1, y2⟩ := ih m t1 f (x - 1) (by omega) (by omega) (by omega) (hF.tr f1) (by
          rcases hz with ⟨a, b⟩ | ⟨a, b, c, d, e⟩
          · exact Or.inl ⟨a, fun z p q r => by
              by_cases e : z = x
              · rw [e]; exact w
              · exact b z (by omega) q r⟩
          · exact Or.inr ⟨a, by omega, c, d, fun z p q r => by
              by_cases e9 : z = x
              · rw [e9]; exact w
              · exact e z (by omega) q r⟩)
        refine ⟨w2, t2, ?_, y2⟩
        conv => lhs; unfold M_heap_L25
        simp (disch := omega) only [↓jn_e, ↓ite_y, ↓ite_n, ↓oadd_eq, ↓osub_eq, ↓omul_eq, ↓odiv_eq, ↓orem_eq, ↓rd_eq, ↓wr_eq, ↓gf_e, ↓pf_e, ↓bnd_e, ↓bndp_e, ↓opure_e, ↓oif_t, ↓oif_f, ↓E_isPlace_y, ↓E_isPlace_n, ↓E_isNumber_y, ↓E_isNumber_n, ↓M_isPlace_y, ↓M_isPlace_n, ↓M_isNumber_y, ↓M_isNumber_n, ↓M_in_y, ↓M_in_n, ↓us_ne, ↓n1, ↓e1, ↓n2, e3]
        exact y1
    · refine ⟨f, t, ?_, hF, ?_⟩
      · unfold M_heap_L25
        rw [if_neg c]
      · rcases hz with ⟨a, b⟩ | ⟨a, b, c, d, e⟩
        · exact Or.inl ⟨a, fun z p q => b z (by omega) p q⟩
        · exact Or.inr ⟨a, c, d, fun z p q => e z (by omega) p q⟩
theorem call_heap : HS_30 SS := by
  intro k σ τ z0 hk hS i0
  have hS0 := hS
  obtain ⟨⟨ρ, hW⟩, hT, hr, hn, hm⟩ := hS
  unfold E_heap M_heap
  by_cases a : 0 ≤ z0 ∧ z0 < 6
  · have hP := hW.2.2 z0 a.1 a.2
    have s0 := hP.2.1
    have n0 := hP.1
    obtain ⟨sa, e1, f1, c1⟩ := read_one_eq σ (σ 24 z0) (σ 25 z0) n0
    have q25 : sa 25 z0 = σ 25 z0 := by rw [f1 25 (by decide)]
    obtain ⟨K1, hK1⟩ : ∃ K1 : Int → Option (Int × St), K1 = fun (x6 : Int) => bnd (Row_tell sa x6) fun _ s9 => oif (x6 = (-1)) inferInstance 1 0 fun v10 => some (v10, s9) := ⟨_, rfl⟩
    obtain ⟨K2, hK2⟩ : ∃ K2 : St → Int → Option (Int × St), K2 = fun (s5 : St) (x6 : Int) => pf s5 32 0 fun s8 => bnd (M_tell s8 x6) fun _ s10 => oif (x6 = (-1)) inferInstance 1 0 fun v11 => some (v11, s10) := ⟨_, rfl⟩
    obtain ⟨w, y1, y2⟩ := heapE_loop (K := K1) (u := fun z => τ 1 (256 * z0 + z)) a n0 q25 (fun x p q => by rw [c1 x p q]; exact (hP.num ⟨p, q⟩).1) 255 FU 1 (by omega) (by omega) (by unfold FU; omega) (fun z p q => by omega)
    obtain ⟨w2, t2, x1, x2, x3⟩ := heapM_loop (K := K2) (τ := us τ 33 0 0) (N := σ 25 z0) (u := fun z => τ 1 (256 * z0 + z)) a n0 (fun x p q => by rw [us_ne (by decide)]) (σ 25 z0).toNat FU (us τ 33 0 0) (-1) (σ 25 z0 - 1) (by omega) (by omega) (by unfold FU; omega) (Fr.rf _ _) (Or.inl ⟨rfl, fun z p q r => by omega⟩)
    have ew : w2 = w := by
      rcases y2 with ⟨a1, a2⟩ | ⟨a1, a2, a3, a4⟩
      · rcases x3 with ⟨b1, b2⟩ | ⟨b1, b2, b3, b4⟩
        · omega
        · exact absurd b3 (a2 w2 b1 b2)
      · rcases x3 with ⟨b1, b2⟩ | ⟨b1, b2, b3, b4⟩
        · exact absurd a3 (b2 w a1 a2)
        · rcases Int.lt_trichotomy w2 w with h | h | h
          · exact absurd b3 (a4 w2 b1 h)
          · exact h
          · exact absurd a3 (b4 w a1 h)
    rw [ew] at x1
    have wr : -1 ≤ w ∧ w ≤ 255 := by
      rcases y2 with ⟨a1, a2⟩ | ⟨a1, a2, a3, a4⟩
      · omega
      · omega
    obtain ⟨σt, τt, t1, t2', t3, t4, t5, -⟩ := tells1 sa t2 (a := w) (by omega)
    refine ⟨if w = -1 then 1 else 0, σt, τt, ?_, ?_, hS0.ask ((f1.mono (by decide)).tr (t4.mono (by decide))) (((fr_sc [33] τ 33 0 (by decide)).mono (by decide)).tr ((x2.mono (by decide)).tr (t5.mono (by decide)))) ((Rws.fr (fr_sc [33] _ _ _ (by decide)) (by decide) (by decide) (by decide) _).tr ((Rws.fr x2 (by decide) (by decide) (by decide) _).tr (Rws.fr t5 (by decide) (by decide) (by decide) _))) t3⟩
    · rw [E_isPlace_y a, bndp_eq, if_neg (by decide), rd_eq (by omega), rd_eq (by omega), e1, bnd_eq, ← hK1, jn_eq]
      refine y1.trans ?_
      rw [hK1]
      show bnd (Row_tell sa w) _ = _
      rw [t1, bnd_eq]
      by_cases q : w = -1
      · rw [oif_t q (by omega), if_pos q]
      · rw [oif_f q (by omega), if_neg q]
    · rw [pf_eq, M_isPlace_y a, bndp_eq, if_neg (by decide), rd_eq (by omega), us_ne (by decide), s0, osub_eq (by omega), ← hK2, jn_eq]
      refine x1.trans ?_
      rw [hK2]
      show pf t2 32 0 _ = _
      rw [pf_eq, t2', bnd_eq]
      by_cases q : w = -1
      · rw [oif_t q (by omega), if_pos q]
      · rw [oif_f q (by omega), if_neg q]
  · refine ⟨-1, σ, us τ 33 0 0, ?_, ?_, hS0.thr⟩
    · simp (disch := omega) only [↓jn_e, ↓ite_y, ↓ite_n, ↓oadd_eq, ↓osub_eq, ↓omul_eq, ↓odiv_eq, ↓orem_eq, ↓rd_eq, ↓wr_eq, ↓gf_e, ↓pf_e, ↓bnd_e, ↓bndp_e, ↓opure_e, ↓oif_t, ↓oif_f, ↓E_isPlace_y, ↓E_isPlace_n, ↓E_isNumber_y, ↓E_isNumber_n, ↓M_isPlace_y, ↓M_isPlace_n, ↓M_isNumber_y, ↓M_isNumber_n, ↓M_in_y, ↓M_in_n, ↓us_ne]
    · simp (disch := omega) only [↓jn_e, ↓ite_y, ↓ite_n, ↓oadd_eq, ↓osub_eq, ↓omul_eq, ↓odiv_eq, ↓orem_eq, ↓rd_eq, ↓wr_eq, ↓gf_e, ↓pf_e, ↓bnd_e, ↓bndp_e, ↓opure_e, ↓oif_t, ↓oif_f, ↓E_isPlace_y, ↓E_isPlace_n, ↓E_isNumber_y, ↓E_isNumber_n, ↓M_isPlace_y, ↓M_isPlace_n, ↓M_isNumber_y, ↓M_isNumber_n, ↓M_in_y, ↓M_in_n, ↓us_ne]
-- level
def sm (u : Int → Int) : Nat → Int
  | 0 => 0
  | m + 1 => sm u m + u m
theorem sm_step (u : Int → Int) {x : Int} (h : 0 ≤ x) : sm u (x + 1).toNat = sm u x.toNat + u x := by
  have e : (x + 1).toNat = x.toNat + 1 := by omega
  rw [e]
  show sm u x.toNat + _ = _
  rw [show ((x.toNat : Nat) : Int) = x by omega]
theorem dp_lev_f : ∀ x : Fin 255, ∀ d : Fin 8, (dp (x.val : Int) = d.val ↔ (p2 d.val - 1 ≤ (x.val : Int) ∧ (x.val : Int) < 2 * p2 d.val - 1)) := by decide +kernel
theorem bshl_f : ∀ d : Fin 8, bshl 1 (d.val : Int) = p2 d.val ∧ bshl 2 (d.val : Int) = 2 * p2 d.val ∧ p2 d.val ≤ 128 := by decide +kernel
theorem levelE_loop {K : Int → Int → Option (Int × St)} {i N d lo hi9 : Int} (hi : 0 ≤ i ∧ i < 6) (hN : 0 ≤ N ∧ N ≤ 255) {s : St} {u : Int → Int} (h25 : s 25 i = N) (hu : ∀ x, 0 ≤ x → x < N → s 26 x = u x ∧ -999 ≤ u x ∧ u x ≤ 999) (hd : bshl 2 d = hi9 + 1) (hlo : 0 ≤ lo ∧ lo ≤ 255 ∧ hi9 ≤ 255 ∧ lo ≤ hi9) : ∀ (r m : Nat) (n c x : Int), x + r = 256 → lo ≤ x → (x ≤ hi9) → r < m → (x = lo ∨ x ≤ N) → n = x - lo → c = sm u x.toNat - sm u lo.toNat → -1000 * x ≤ c → c ≤ 1000 * x →
    ∃ n2 c2 e, E_level_L54 K s i d m n c x = K n2 c2 ∧ lo ≤ e ∧ e ≤ hi9 ∧ (e = lo ∨ e ≤ N) ∧ (e = hi9 ∨ N ≤ e) ∧ n2 = e - lo ∧ c2 = sm u e.toNat - sm u lo.toNat ∧ -1000 * e ≤ c2 ∧ c2 ≤ 1000 * e := by
  intro r
  induction r with
  | zero =>
    intro m n c x h1 h0 hx h2 hxl hn hc l1 l2
    omega
  | succ r ih =>
    intro m n c x h1 h0 hx h2 hxl hn hc l1 l2
    cases m with
    | zero => omega
    | succ m =>
    by_cases q : x < N
    · by_cases w : x < hi9
      · have ux := hu x (by omega) q
        have ss := sm_step u (x := x) (by omega)
        obtain ⟨n2, c2, e, y1, y2⟩ := ih m (n + 1) (c + u x) (x + 1) (by omega) (by omega) (by omega) (by omega) (Or.inr (by omega)) (by omega) (by omega) (by omega) (by omega)
        refine ⟨n2, c2, e, ?_, y2⟩
        unfold E_level_L54
        rw [rd_eq (by omega), h25, if_pos q, opure_eq, hd, osub_eq (by omega), if_pos (by omega), rd_eq (by omega), ux.1, oadd_eq (by omega), oadd_eq (by omega), oadd_eq (by omega)]
        exact y1
      · refine ⟨n, c, x, ?_, by omega, hx, by omega, by omega, hn, hc, l1, l2⟩
        unfold E_level_L54
        rw [rd_eq (by omega), h25, if_pos q, opure_eq, hd, osub_eq (by omega), if_neg (by omega)]
    · refine ⟨n, c, x, ?_, by omega, hx, ?_, by omega, hn, hc, l1, l2⟩
      · unfold E_level_L54
        rw [rd_eq (by omega), h25, if_neg q]
      · exact hxl
theorem levelM_loop {K : St → Int → Int → Option (Int × St)} {i N d lo hi9 : Int} (hi : 0 ≤ i ∧ i < 6) (hN : 0 ≤ N ∧ N ≤ 255) {τ : St} {u : Int → Int} (h3 : τ 3 i = N) (hu : ∀ x, 0 ≤ x → x < N → τ 1 (256 * i + x) = u x ∧ -999 ≤ u x ∧ u x ≤ 999) (hd : ∀ x, 0 ≤ x → x < 255 → ((dp x : Int) = d ↔ (lo ≤ x ∧ x < hi9))) (hlo : 0 ≤ lo ∧ lo ≤ hi9 ∧ hi9 ≤ 255) : ∀ (r m : Nat) (t : St) (n c x e : Int), x + r = N → 0 ≤ x → r < m → Fr [6, 35, 36] τ t → e = (if x < lo then lo else if x < hi9 then x else hi9) → n = e - lo → c = sm u e.toNat - sm u lo.toNat → -1000 * x ≤ c → c ≤ 1000 * x → n ≤ 255 →
    ∃ t2 e2, M_level_L34 K i d m t n c x = K t2 (e2 - lo) (sm u e2.toNat - sm u lo.toNat) ∧ Fr [6, 35, 36] τ t2 ∧ e2 = (if N < lo then lo else if N < hi9 then N else hi9) := by
  intro r
  induction r with
  | zero =>
    intro m t n c x e h1 h0 h2 hF he hn hc l1 l2 l3
    cases m with
    | zero => omega
    | succ m =>
    have ex : x = N := by omega
    rw [ex] at he
    refine ⟨t, e, ?_, hF, he⟩
    unfold M_level_L34
    rw [rd_eq (by omega), hF 3 (by decide), h3, if_neg (by omega), hn, hc]
  | succ r ih =>
    intro m t n c x e h1 h0 h2 hF he hn hc l1 l2 l3
    cases m with
    | zero => omega
    | succ m =>
    have t3 : t 3 i = N := by rw [hF 3 (by decide)]; exact h3
    have ux := hu x h0 (by omega)
    obtain ⟨t1, e1, f1, a1, -, -⟩ := laysWay_ex (i := x) (by omega) t
    have h7 := dp_7 (i := x) (by omega)
    have hdx := hd x h0 (by omega)
    have e9 : (dp x : Int) + 1 - 1 = (dp x : Int) := by omega
    have nM : M_number t1 i x = some (u x) := by rw [M_number_eq (by omega) (by omega), f1 1 (by decide), hF 1 (by decide)]; rw [ux.1]
    have ss := sm_step u h0
    by_cases w : (dp x : Int) = d
    · have lh := hdx.mp w
      have hex : e = x := by rw [he, if_neg (by omega), if_pos lh.2]
      rw [hex] at hc hn
      obtain ⟨t2, e2, y1, y2⟩ := ih m t1 (n + 1) (c + u x) (x + 1) (x + 1) (by omega) (by omega) (by omega) (hF.tr f1) (by
        rw [if_neg (by omega)]
        by_cases q : x + 1 < hi9
        · rw [if_pos q]
        · rw [if_neg q]; omega) (by omega) (by omega) (by omega) (by omega) (by omega)
      refine ⟨t2, e2, ?_, y2⟩
      conv => lhs; unfold M_level_L34
      simp (disch := omega) only [↓jn_e, ↓ite_y, ↓ite_n, ↓oadd_eq, ↓osub_eq, ↓omul_eq, ↓odiv_eq, ↓orem_eq, ↓rd_eq, ↓wr_eq, ↓gf_e, ↓pf_e, ↓bnd_e, ↓bndp_e, ↓opure_e, ↓oif_t, ↓oif_f, ↓E_isPlace_y, ↓E_isPlace_n, ↓E_isNumber_y, ↓E_isNumber_n, ↓M_isPlace_y, ↓M_isPlace_n, ↓M_isNumber_y, ↓M_isNumber_n, ↓M_in_y, ↓M_in_n, ↓us_ne, t3, ↓e1, a1, e9, ↓nM]
      exact y1
    · have lh := mt hdx.mpr w
      obtain ⟨t2, e2, y1, y2⟩ := ih m t1 n c (x + 1) e (by omega) (by omega) (by omega) (hF.tr f1) (by
        rw [he]
        by_cases q : x < lo
        · rw [if_pos q]
          by_cases q2 : x + 1 < lo
          · rw [if_pos q2]
          · rw [if_neg q2]
            by_cases q3 : x + 1 < hi9
            · rw [if_pos q3]; omega
            · rw [if_neg q3]; omega
        · rw [if_neg q, if_neg (by omega), if_neg (by omega), if_neg (by omega)]) hn hc (by omega) (by omega) l3
      refine ⟨t2, e2, ?_, y2⟩
      conv => lhs; unfold M_level_L34
      simp (disch := omega) only [↓jn_e, ↓ite_y, ↓ite_n, ↓oadd_eq, ↓osub_eq, ↓omul_eq, ↓odiv_eq, ↓orem_eq, ↓rd_eq, ↓wr_eq, ↓gf_e, ↓pf_e, ↓bnd_e, ↓bndp_e, ↓opure_e, ↓oif_t, ↓oif_f, ↓E_isPlace_y, ↓E_isPlace_n, ↓E_isNumber_y, ↓E_isNumber_n, ↓M_isPlace_y, ↓M_isPlace_n, ↓M_isNumber_y, ↓M_isNumber_n, ↓M_in_y, ↓M_in_n, ↓us_ne, t3, ↓e1, a1, e9]
      exact y1
theorem call_level : HS_47 SS := by
  intro k σ τ z0 z1 hk hS i0 i1
  have hS0 := hS
  obtain ⟨⟨ρ, hW⟩, hT, hr, hn, hm⟩ := hS
  unfold E_level M_level
  by_cases a : 0 ≤ z0 ∧ z0 < 6
  · have hP := hW.2.2 z0 a.1 a.2
    have s0 := hP.2.1
    have n0 := hP.1
    by_cases b : 0 ≤ z1 ∧ z1 ≤ 7
    · obtain ⟨w, hw⟩ := fin_int (i := z1) (n := 8) (by omega)
      have hb := bshl_f w
      rw [hw] at hb
      obtain ⟨P, hPp⟩ : ∃ P : Int, P = p2 w.val := ⟨_, rfl⟩
      rw [← hPp] at hb
      have hp := p2_pos w.val
      rw [← hPp] at hp
      have hd : ∀ x : Int, 0 ≤ x → x < 255 → ((dp x : Int) = z1 ↔ (P - 1 ≤ x ∧ x < 2 * P - 1)) := fun x p q => by
        obtain ⟨y, hy⟩ := fin_int (i := x) (n := 255) (by omega)
        have t := dp_lev_f y w
        rw [hy, ← hPp] at t
        rw [← t]
        constructor
        · intro e; omega
        · intro e; omega
      obtain ⟨sa, e1, f1, c1⟩ := read_one_eq σ (σ 24 z0) (σ 25 z0) n0
      have q25 : sa 25 z0 = σ 25 z0 := by rw [f1 25 (by decide)]
      obtain ⟨K1, hK1⟩ : ∃ K1 : Int → Int → Option (Int × St), K1 = fun (x8 : Int) (x9 : Int) => bnd (Row_tell sa x9) fun _ s12 => some (x8, s12) := ⟨_, rfl⟩
      obtain ⟨K2, hK2⟩ : ∃ K2 : St → Int → Int → Option (Int × St), K2 = fun (s4 : St) (x5 : Int) (x6 : Int) => pf s4 32 0 fun s8 => bnd (M_tell s8 x6) fun _ s10 => some (x5, s10) := ⟨_, rfl⟩
      obtain ⟨n2, c2, e, y1, y2, y3, y4, y5, y6, y7, y8, y9⟩ := levelE_loop (K := K1) (lo := P - 1) (hi9 := 2 * P - 1) (d := z1) (u := fun z => τ 1 (256 * z0 + z)) a n0 q25 (fun x p q => by rw [c1 x p q]; exact hP.num ⟨p, q⟩) (by omega) (by omega) (256 - (P - 1)).toNat FU 0 0 (P - 1) (by omega) (by omega) (by omega) (by unfold FU; omega) (Or.inl rfl) (by omega) (by omega) (by omega) (by omega)
      obtain ⟨t2, e2, x1, x2, x3⟩ := levelM_loop (K := K2) (τ := us τ 33 0 0) (N := σ 25 z0) (u := fun z => τ 1 (256 * z0 + z)) a n0 (by rw [us_ne (by decide)]; exact s0) (fun x p q => by rw [us_ne (by decide)]; exact ⟨rfl, (hP.num ⟨p, q⟩).2⟩) hd (by omega) (σ 25 z0).toNat FU (us τ 33 0 0) 0 0 0 (P - 1) (by omega) (by omega) (by unfold FU; omega) (Fr.rf _ _) (by
        by_cases q : 0 < P - 1
        · rw [if_pos q]
        · rw [if_neg q, if_pos (by omega)]; omega) (by omega) (by omega) (by omega) (by omega) (by omega)
      have ee : e2 = e := by
        rw [x3]
        by_cases q : σ 25 z0 < P - 1
        · rw [if_pos q]; omega
        · rw [if_neg q]
          by_cases q2 : σ 25 z0 < 2 * P - 1
          · rw [if_pos q2]; omega
          · rw [if_neg q2]; omega
      rw [ee, ← y6, ← y7] at x1
      obtain ⟨σt, τt, t1, t2', t3, t4, t5, -⟩ := tells1 sa t2 (a := c2) (by omega)
      refine ⟨n2, σt, τt, ?_, ?_, hS0.ask ((f1.mono (by decide)).tr (t4.mono (by decide))) (((fr_sc [33] τ 33 0 (by decide)).mono (by decide)).tr ((x2.mono (by decide)).tr (t5.mono (by decide)))) ((Rws.fr (fr_sc [33] _ _ _ (by decide)) (by decide) (by decide) (by decide) _).tr ((Rws.fr x2 (by decide) (by decide) (by decide) _).tr (Rws.fr t5 (by decide) (by decide) (by decide) _))) t3⟩
      · rw [E_isPlace_y a, bndp_eq, if_neg (by decide), if_neg (by omega), if_pos (by omega), rd_eq (by omega), rd_eq (by omega), e1, bnd_eq, opure_eq, hb.1, osub_eq (by omega), ← hK1, jn_eq]
        refine y1.trans ?_
        rw [hK1]
        show bnd (Row_tell sa c2) _ = _
        rw [t1, bnd_eq]
      · rw [pf_eq, M_isPlace_y a, bndp_eq, if_neg (by decide), M_in_y b, bndp_eq, if_neg (by decide), ← hK2, jn_eq]
        refine x1.trans ?_
        rw [hK2]
        show pf t2 32 0 _ = _
        rw [pf_eq, t2', bnd_eq]
    · refine ⟨-1, σ, us τ 33 0 0, ?_, ?_, hS0.thr⟩
      · by_cases q : z1 < 0
        · simp (disch := omega) only [↓jn_e, ↓ite_y, ↓ite_n, ↓oadd_eq, ↓osub_eq, ↓omul_eq, ↓odiv_eq, ↓orem_eq, ↓rd_eq, ↓wr_eq, ↓gf_e, ↓pf_e, ↓bnd_e, ↓bndp_e, ↓opure_e, ↓oif_t, ↓oif_f, ↓E_isPlace_y, ↓E_isPlace_n, ↓E_isNumber_y, ↓E_isNumber_n, ↓M_isPlace_y, ↓M_isPlace_n, ↓M_isNumber_y, ↓M_isNumber_n, ↓M_in_y, ↓M_in_n, ↓us_ne]
        · simp (disch := omega) only [↓jn_e, ↓ite_y, ↓ite_n, ↓oadd_eq, ↓osub_eq, ↓omul_eq, ↓odiv_eq, ↓orem_eq, ↓rd_eq, ↓wr_eq, ↓gf_e, ↓pf_e, ↓bnd_e, ↓bndp_e, ↓opure_e, ↓oif_t, ↓oif_f, ↓E_isPlace_y, ↓E_isPlace_n, ↓E_isNumber_y, ↓E_isNumber_n, ↓M_isPlace_y, ↓M_isPlace_n, ↓M_isNumber_y, ↓M_isNumber_n, ↓M_in_y, ↓M_in_n, ↓us_ne]
      · simp (disch := omega) only [↓jn_e, ↓ite_y, ↓ite_n, ↓oadd_eq, ↓osub_eq, ↓omul_eq, ↓odiv_eq, ↓orem_eq, ↓rd_eq, ↓wr_eq, ↓gf_e, ↓pf_e, ↓bnd_e, ↓bndp_e, ↓opure_e, ↓oif_t, ↓oif_f, ↓E_isPlace_y, ↓E_isPlace_n, ↓E_isNumber_y, ↓E_isNumber_n, ↓M_isPlace_y, ↓M_isPlace_n, ↓M_isNumber_y, ↓M_isNumber_n, ↓M_in_y, ↓M_in_n, ↓us_ne]
  · refine ⟨-1, σ, us τ 33 0 0, ?_, ?_, hS0.thr⟩
    · simp (disch := omega) only [↓jn_e, ↓ite_y, ↓ite_n, ↓oadd_eq, ↓osub_eq, ↓omul_eq, ↓odiv_eq, ↓orem_eq, ↓rd_eq, ↓wr_eq, ↓gf_e, ↓pf_e, ↓bnd_e, ↓bndp_e, ↓opure_e, ↓oif_t, ↓oif_f, ↓E_isPlace_y, ↓E_isPlace_n, ↓E_isNumber_y, ↓E_isNumber_n, ↓M_isPlace_y, ↓M_isPlace_n, ↓M_isNumber_y, ↓M_isNumber_n, ↓M_in_y, ↓M_in_n, ↓us_ne]
    · simp (disch := omega) only [↓jn_e, ↓ite_y, ↓ite_n, ↓oadd_eq, ↓osub_eq, ↓omul_eq, ↓odiv_eq, ↓orem_eq, ↓rd_eq, ↓wr_eq, ↓gf_e, ↓pf_e, ↓bnd_e, ↓bndp_e, ↓opure_e, ↓oif_t, ↓oif_f, ↓E_isPlace_y, ↓E_isPlace_n, ↓E_isNumber_y, ↓E_isNumber_n, ↓M_isPlace_y, ↓M_isPlace_n, ↓M_isNumber_y, ↓M_isNumber_n, ↓M_in_y, ↓M_in_n, ↓us_ne]

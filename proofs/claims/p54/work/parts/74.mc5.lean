-- P54, 5: SETS, ADDS, FILLS, HEAPS, POP of the reference from its rows to its rows
theorem cn_one {f : Int → Int} {c : Int} : ∀ m : Nat, 0 ≤ c → c < m → f c ≠ 0 → 1 ≤ cn f m := by
  intro m
  induction m with
  | zero => intro h0 h1; omega
  | succ m ih =>
    intro h0 h1 hf
    unfold cn
    have := cn_rng f m
    by_cases e : c = m
    · rw [if_neg (by rw [← e]; exact hf)]; omega
    · have := ih h0 (by omega) hf
      split <;> omega
theorem us1 {t : St} {q v : Int} (h : 1792 ≤ q ∧ q < 2048) : Rws [7] t (us t 1 q v) := ⟨fun p hp => ⟨by have := hp 7 (by decide); exact us_ni (by omega), us_ne (by decide)⟩, fun p _ => by rw [us_f (by decide)]⟩
theorem sets_m {τ : St} {i x v l n : Int} (hk : Ok τ) (hi : 0 ≤ i ∧ i < 6) (hl : 0 ≤ l ∧ l < 6) (hv : -999 ≤ v ∧ v ≤ 999) (h3 : τ 3 i = n) (hx : 0 ≤ x ∧ x < n) (hn : n ≤ 254) :
    ∃ r τ', M_sets τ i x v l = some (r, τ') ∧ Op τ τ' l n (fun y => if y = x then v else τ 1 (256 * i + y)) r ∧ (0 < r ↔ τ 1 (256 * i + x) ≠ v) := by
  have n0 := (hk.2 i hi.1 hi.2).1
  have m0 := hk.1
  obtain ⟨s, hs⟩ : ∃ s, s = us τ 33 0 0 := ⟨_, rfl⟩
  have rs : ∀ L, Rws L τ s := fun L => by rw [hs]; exact us33 τ 0 L
  have s3 : s 3 i = n := by rw [((rs []).n (p := i) List.not_mem_nil).1]; exact h3
  have s30 : s 30 0 = τ 30 0 := by rw [hs, us_ne (by decide)]
  obtain ⟨s1, s2, e1, e2, f2, r2, a6, a7, c6, c7, a34, a30⟩ := open2 (rs _) s30 hi h3 (by omega)
  have hI : M_isIndex s i x = some 1 := isIndexM_y hi (by omega) (by omega)
  have hN : M_number s2 i x = some (τ 1 (256 * i + x)) := by
    rw [M_number_eq (by omega) (by omega), (r2.n (p := i) (by simp; omega)).2 x hx.1 (by omega)]
  by_cases q : τ 1 (256 * i + x) = v
  · obtain ⟨τ', e4, o, -⟩ := close2 (d := 0) hl r2 (by decide) a34 a30 (Cr.rf a7) (by omega) (by omega)
    refine ⟨_, τ', ?_, ⟨⟨o.1.1, fun y y0 yn => ?_⟩, o.2⟩, ?_⟩
    · unfold M_sets
      simp (disch := omega) only [↓jn_e, ↓ite_y, ↓ite_n, ↓oadd_eq, ↓osub_eq, ↓omul_eq, ↓odiv_eq, ↓orem_eq, ↓rd_eq, ↓wr_eq, ↓gf_e, ↓pf_e, ↓bnd_e, ↓bndp_e, ↓opure_e, ↓oif_t, ↓oif_f, ↓E_isPlace_y, ↓E_isPlace_n, ↓E_isNumber_y, ↓E_isNumber_n, ↓M_isPlace_y, ↓M_isPlace_n, ↓M_isNumber_y, ↓M_isNumber_n, ↓M_in_y, ↓M_in_n, ↓us_ne, ← hs, ↓hI, ↓e1, ↓e2, ↓hN, ↓e4]
    · rw [o.1.2 y y0 yn]
      dsimp only
      rw [c7 y y0 yn]
      by_cases e : y = x
      · rw [if_pos e, e, q]
      · rw [if_neg e]
    · constructor
      · intro h; exfalso; omega
      · intro h; exact absurd q h
  · obtain ⟨t1, e5, f5, z5⟩ := clearsNew_ex s2
    obtain ⟨t2, e6, f6, b6, k6⟩ := marks_ex (i := x) (it := 1) (by omega) (Or.inr rfl) t1 (fun y y0 yn => Or.inl (z5 y y0 yn))
    have f56 : Fr [6, 7, 35, 36] s2 t2 := (f5.mono (by decide)).tr f6
    obtain ⟨t3, h3'⟩ : ∃ t3, t3 = us t2 1 (1792 + x) v := ⟨_, rfl⟩
    have f7 : Fr [1] t2 t3 := by rw [h3']; exact (Fr.rf _ _).us (by decide)
    have t37 : t3 3 7 = n := by rw [f7 3 (by decide), f56 3 (by decide)]; exact a7
    have t330 : t3 30 0 = τ 30 0 := by rw [f7 30 (by decide), f56 30 (by decide)]; exact a30
    have c1 : Cr s2 t3 n (fun y => if y = x then v else s2 1 (1792 + y)) 0 := by
      refine ⟨(f56.mono (by decide)).tr (f7.mono (by decide)), (Rws.fr f56 (by decide) (by decide) (by decide) _).tr (by rw [h3']; exact (us1 (by omega)).mono (by decide)), t37, fun y y0 yn => ?_, by omega⟩
      rw [h3']
      show us t2 1 (1792 + x) v 1 (1792 + y) = if y = x then v else s2 1 (1792 + y)
      by_cases e : y = x
      · rw [if_pos e, e, us_eq]
      · rw [if_neg e, us_ni (by omega), f56 1 (by decide)]
    obtain ⟨t4, e8, c2, m8⟩ := renews_cr (s := t3) (n := n) (by omega) t37 (by omega)
    have one : 1 ≤ cn (t3 7) n.toNat := cn_one _ hx.1 (by omega) (by
      have h := (k6 x hx.1 (by omega)).mpr (Or.inr ⟨onW_self (by omega), Or.inl rfl⟩)
      rw [f7 7 (by decide), h]; decide)
    obtain ⟨τ', e4, o, -⟩ := close2 hl r2 (by decide) a34 a30 (c1.tr c2) (by omega) (by omega)
    refine ⟨_, τ', ?_, ⟨⟨o.1.1, fun y y0 yn => ?_⟩, o.2⟩, ?_⟩
    · unfold M_sets
      simp (disch := omega) only [↓jn_e, ↓ite_y, ↓ite_n, ↓oadd_eq, ↓osub_eq, ↓omul_eq, ↓odiv_eq, ↓orem_eq, ↓rd_eq, ↓wr_eq, ↓gf_e, ↓pf_e, ↓bnd_e, ↓bndp_e, ↓opure_e, ↓oif_t, ↓oif_f, ↓E_isPlace_y, ↓E_isPlace_n, ↓E_isNumber_y, ↓E_isNumber_n, ↓M_isPlace_y, ↓M_isPlace_n, ↓M_isNumber_y, ↓M_isNumber_n, ↓M_in_y, ↓M_in_n, ↓us_ne, ← hs, ↓hI, ↓e1, ↓e2, ↓hN, ↓e5, ↓e6, ← h3', ↓e8, ↓e4]
    · rw [o.1.2 y y0 yn]
      dsimp only
      rw [c1.2.2.2.1 y y0 yn]
      dsimp only
      by_cases e : y = x
      · rw [if_pos e, if_pos e]
      · rw [if_neg e, if_neg e, c7 y y0 yn]
    · constructor
      · intro _; exact q
      · intro _; omega
theorem imx {v : Int} : imax (-999) (imin 999 v) = if 999 < v then 999 else if v < -999 then -999 else v := by
  unfold imax imin
  by_cases a : v < 999
  · rw [if_pos a]
    rw [if_neg (show ¬ 999 < v by omega)]
    by_cases b : v < -999
    · rw [if_neg (by omega), if_pos b]
    · rw [if_neg b]
      by_cases c : -999 < v
      · rw [if_pos c]
      · rw [if_neg c]; omega
  · rw [if_neg a, if_pos (by decide)]
    by_cases c : 999 < v
    · rw [if_pos c]
    · rw [if_neg c, if_neg (by omega)]; omega
/-- held within the NUMBERS -/
def hd9 (v : Int) : Int := if 999 < v then 999 else if v < -999 then -999 else v
theorem addsM_loop (K : St → Option (Int × St)) (v N : Int) (hN : N ≤ 254) (hv : -999 ≤ v ∧ v ≤ 999) (v0 : ¬ v = 0) : ∀ (r m : Nat) (s : St) (x : Int), x + r = N → 0 ≤ x → bits01 (s 7) → (∀ y, x ≤ y → y < N → -999 ≤ s 1 (1792 + y) ∧ s 1 (1792 + y) ≤ 999) → r < m →
    ∃ t, M_adds_L56 K N v m s x = K t ∧ Fr [1, 6, 7, 35, 36] s t ∧ Rws [7] s t ∧ ∀ y, 0 ≤ y → y < N → t 1 (1792 + y) = if y < x then s 1 (1792 + y) else hd9 (s 1 (1792 + y) + v) := by
  intro r
  induction r with
  | zero =>
    intro m s x hx x0 hb hr hm
    obtain ⟨m, rfl⟩ : ∃ m', m = m' + 1 := ⟨m - 1, by omega⟩
    unfold M_adds_L56
    refine ⟨s, ?_, Fr.rf _ _, Rws.rf _ _, fun y y0 yn => by rw [if_pos (by omega)]⟩
    simp (disch := omega) only [↓jn_e, ↓ite_y, ↓ite_n, ↓oadd_eq, ↓osub_eq, ↓omul_eq, ↓odiv_eq, ↓orem_eq, ↓rd_eq, ↓wr_eq, ↓gf_e, ↓pf_e, ↓bnd_e, ↓bndp_e, ↓opure_e, ↓oif_t, ↓oif_f, ↓E_isPlace_y, ↓E_isPlace_n, ↓E_isNumber_y, ↓E_isNumber_n, ↓M_isPlace_y, ↓M_isPlace_n, ↓M_isNumber_y, ↓M_isNumber_n, ↓M_in_y, ↓M_in_n, ↓us_ne]
  | succ r ih =>
    intro m s x hx x0 hb hr hm
    obtain ⟨m, rfl⟩ : ∃ m', m = m' + 1 := ⟨m - 1, by omega⟩
    unfold M_adds_L56
    obtain ⟨t1, e1, f1, b1, -⟩ := marks_ex (i := x) (it := 1) (by omega) (Or.inr rfl) s hb
    obtain ⟨w, hw⟩ : ∃ w, w = s 1 (1792 + x) := ⟨_, rfl⟩
    have hwr := hr x (by omega) (by omega)
    rw [← hw] at hwr
    have hn : M_number t1 7 x = some w := by
      rw [M_number_eq (by omega) (by omega), f1 1 (by decide), hw]; rfl
    obtain ⟨z, hz⟩ : ∃ z, z = imax (-999) (imin 999 (w + v)) := ⟨_, rfl⟩
    obtain ⟨t2, ht2⟩ : ∃ t2, t2 = us t1 1 (1792 + x) z := ⟨_, rfl⟩
    have f2 : Fr [1] t1 t2 := by rw [ht2]; exact (Fr.rf _ _).us (by decide)
    have keep : ∀ y, y ≠ x → t2 1 (1792 + y) = s 1 (1792 + y) := fun y hy => by
      rw [ht2, us_ni (by omega), f1 1 (by decide)]
    obtain ⟨u, e3, f3, r3, c3⟩ := ih m t2 (x + 1) (by omega) (by omega) (by rw [f2 7 (by decide)]; exact b1) (fun y y0 yn => by rw [keep y (by omega)]; exact hr y (by omega) yn) (by omega)
    refine ⟨u, ?_, (f1.mono (by decide)).tr ((f2.mono (by decide)).tr f3), (Rws.fr f1 (by decide) (by decide) (by decide) _).tr ((by rw [ht2]; exact us1 (by omega) : Rws [7] t1 t2).tr r3), fun y y0 yn => ?_⟩
    · simp (disch := omega) only [↓jn_e, ↓ite_y, ↓ite_n, ↓oadd_eq, ↓osub_eq, ↓omul_eq, ↓odiv_eq, ↓orem_eq, ↓rd_eq, ↓wr_eq, ↓gf_e, ↓pf_e, ↓bnd_e, ↓bndp_e, ↓opure_e, ↓oif_t, ↓oif_f, ↓E_isPlace_y, ↓E_isPlace_n, ↓E_isNumber_y, ↓E_isNumber_n, ↓M_isPlace_y, ↓M_isPlace_n, ↓M_isNumber_y, ↓M_isNumber_n, ↓M_in_y, ↓M_in_n, ↓us_ne, ↓e1, ↓hn, ← hz, ← ht2]
      exact e3
    · rw [c3 y y0 yn]
      by_cases a : y < x
      · rw [if_pos (by omega), if_pos a, keep y (by omega)]
      · by_cases b : y = x
        · rw [if_pos (by omega), if_neg a, b, ht2, us_eq, hz, imx, ← hw]; rfl
        · rw [if_neg (by omega), if_neg a, keep y b]
theorem adds_m {τ : St} {i x v l n : Int} (hk : Ok τ) (hi : 0 ≤ i ∧ i < 6) (hl : 0 ≤ l ∧ l < 6) (hv : -999 ≤ v ∧ v ≤ 999) (h3 : τ 3 i = n) (hx : 0 ≤ x ∧ x ≤ n) (hn : n ≤ 254) :
    ∃ r τ', M_adds τ i x n v l = some (r, τ') ∧ Op τ τ' l n (fun y => if y < x then τ 1 (256 * i + y) else hd9 (τ 1 (256 * i + y) + v)) r := by
  have n0 := (hk.2 i hi.1 hi.2).1
  have m0 := hk.1
  obtain ⟨s, hs⟩ : ∃ s, s = us τ 33 0 0 := ⟨_, rfl⟩
  have rs : ∀ L, Rws L τ s := fun L => by rw [hs]; exact us33 τ 0 L
  have s3 : s 3 i = n := by rw [((rs []).n (p := i) List.not_mem_nil).1]; exact h3
  have s30 : s 30 0 = τ 30 0 := by rw [hs, us_ne (by decide)]
  obtain ⟨s1, s2, e1, e2, f2, r2, a6, a7, c6, c7, a34, a30⟩ := open2 (rs _) s30 hi h3 (by omega)
  have hI : M_isSpan s i x n = some 1 := isSpanM_y hi (by omega)
  obtain ⟨t1, e5, f5, z5⟩ := clearsNew_ex s2
  have t1r : ∀ y, 0 ≤ y → y < n → t1 1 (1792 + y) = τ 1 (256 * i + y) := fun y y0 yn => by rw [f5 1 (by decide)]; exact c7 y y0 yn
  obtain ⟨K, hK⟩ : ∃ K : St → Option (Int × St), K = fun s => bnd (M_renews s) fun _ s15 => bnd (M_ends s15 l) fun v16 s17 => some (v16, s17) := ⟨_, rfl⟩
  have main : ∃ t, M_adds_L56 K n v FU t1 x = K t ∧ Fr [1, 6, 7, 35, 36] t1 t ∧ Rws [7] t1 t ∧ ∀ y, 0 ≤ y → y < n → t 1 (1792 + y) = if y < x then t1 1 (1792 + y) else hd9 (t1 1 (1792 + y) + v) := by
    by_cases v0 : v = 0
    · refine ⟨t1, ?_, Fr.rf _ _, Rws.rf _ _, fun y y0 yn => ?_⟩
      · rw [show FU = 7999 + 1 from rfl]
        unfold M_adds_L56
        by_cases xn : x < n
        · simp (disch := omega) only [↓jn_e, ↓ite_y, ↓ite_n, ↓oadd_eq, ↓osub_eq, ↓omul_eq, ↓odiv_eq, ↓orem_eq, ↓rd_eq, ↓wr_eq, ↓gf_e, ↓pf_e, ↓bnd_e, ↓bndp_e, ↓opure_e, ↓oif_t, ↓oif_f, ↓E_isPlace_y, ↓E_isPlace_n, ↓E_isNumber_y, ↓E_isNumber_n, ↓M_isPlace_y, ↓M_isPlace_n, ↓M_isNumber_y, ↓M_isNumber_n, ↓M_in_y, ↓M_in_n, ↓us_ne]
        · simp (disch := omega) only [↓jn_e, ↓ite_y, ↓ite_n, ↓oadd_eq, ↓osub_eq, ↓omul_eq, ↓odiv_eq, ↓orem_eq, ↓rd_eq, ↓wr_eq, ↓gf_e, ↓pf_e, ↓bnd_e, ↓bndp_e, ↓opure_e, ↓oif_t, ↓oif_f, ↓E_isPlace_y, ↓E_isPlace_n, ↓E_isNumber_y, ↓E_isNumber_n, ↓M_isPlace_y, ↓M_isPlace_n, ↓M_isNumber_y, ↓M_isNumber_n, ↓M_in_y, ↓M_in_n, ↓us_ne]
      · by_cases a : y < x
        · rw [if_pos a]
        · have h := (hk.2 i hi.1 hi.2).2 y y0 (by omega)
          rw [if_neg a, v0, t1r y y0 yn]
          unfold hd9
          rw [if_neg (by omega), if_neg (by omega)]
          omega
    · exact addsM_loop K v n hn hv v0 (n - x).toNat FU t1 x (by omega) hx.1 (fun y y0 yn => Or.inl (z5 y y0 yn)) (fun y y0 yn => by rw [t1r y (by omega) yn]; exact (hk.2 i hi.1 hi.2).2 y (by omega) (by omega)) (by unfold FU; omega)
  obtain ⟨t, e6, f6, r6, k6⟩ := main
  have t7 : t 3 7 = n := by rw [f6 3 (by decide), f5 3 (by decide)]; exact a7
  have t30 : t 30 0 = τ 30 0 := by rw [f6 30 (by decide), f5 30 (by decide)]; exact a30
  have c1 : Cr s2 t n (fun y => if y < x then τ 1 (256 * i + y) else hd9 (τ 1 (256 * i + y) + v)) 0 := by
    refine ⟨(f5.mono (by decide)).tr (f6.mono (by decide)), (Rws.fr f5 (by decide) (by decide) (by decide) _).tr (r6.mono (by decide)), t7, fun y y0 yn => ?_, by omega⟩
    rw [k6 y y0 yn, t1r y y0 yn]
  obtain ⟨t4, e8, c2, m8⟩ := renews_cr (s := t) (n := n) (by omega) t7 (by omega)
  obtain ⟨τ', e4, o, -⟩ := close2 hl r2 (by decide) a34 a30 (c1.tr c2) (by omega) (by omega)
  refine ⟨_, τ', ?_, ⟨⟨o.1.1, fun y y0 yn => ?_⟩, o.2⟩⟩
  · unfold M_adds
    simp (disch := omega) only [↓jn_e, ↓ite_y, ↓ite_n, ↓oadd_eq, ↓osub_eq, ↓omul_eq, ↓odiv_eq, ↓orem_eq, ↓rd_eq, ↓wr_eq, ↓gf_e, ↓pf_e, ↓bnd_e, ↓bndp_e, ↓opure_e, ↓oif_t, ↓oif_f, ↓E_isPlace_y, ↓E_isPlace_n, ↓E_isNumber_y, ↓E_isNumber_n, ↓M_isPlace_y, ↓M_isPlace_n, ↓M_isNumber_y, ↓M_isNumber_n, ↓M_in_y, ↓M_in_n, ↓us_ne, ← hs, ↓hI, ↓e1, ↓e2, ↓e5, ← hK]
    rw [e6, hK]
    simp (disch := omega) only [↓jn_e, ↓ite_y, ↓ite_n, ↓oadd_eq, ↓osub_eq, ↓omul_eq, ↓odiv_eq, ↓orem_eq, ↓rd_eq, ↓wr_eq, ↓gf_e, ↓pf_e, ↓bnd_e, ↓bndp_e, ↓opure_e, ↓oif_t, ↓oif_f, ↓E_isPlace_y, ↓E_isPlace_n, ↓E_isNumber_y, ↓E_isNumber_n, ↓M_isPlace_y, ↓M_isPlace_n, ↓M_isNumber_y, ↓M_isNumber_n, ↓M_in_y, ↓M_in_n, ↓us_ne, ↓e8, ↓e4]
  · rw [o.1.2 y y0 yn]
    exact c1.2.2.2.1 y y0 yn
-- FILLS
theorem joins_v {s : St} {to v a b l r : Int} (ht : to = 8 ∨ to = 9) (hl : l = 6 ∨ l = 7) (hr : r = 6 ∨ r = 7) (ha : s 3 l = a) (hb : s 3 r = b) (h0 : 0 ≤ b ∧ (a = b ∨ a = b + 1) ∧ a + b + 1 ≤ 255) (cl : ∀ x, 0 ≤ x → x < a → s 1 (256 * l + x) = v) (cr : ∀ x, 0 ≤ x → x < b → s 1 (256 * r + x) = v) (hm : 0 ≤ s 30 0 ∧ s 30 0 ≤ 2100000000) :
    ∃ t, M_joins s to v l r = some (0, t) ∧ Fr [1, 2, 3, 30] s t ∧ Rws [to] s t ∧ t 3 to = a + b + 1 ∧ (∀ x, 0 ≤ x → x < a + b + 1 → t 1 (256 * to + x) = v) ∧ t 30 0 = s 30 0 + 1 := by
  obtain ⟨t1, e1, f1, h1, q1, -, k1⟩ := makes_ex (τ := s) (r := to) (a := 0) (v := v) (by omega) (by omega) (by omega)
  have b1 : t1 3 l = a := by rw [f1 3 (by decide)]; exact ha
  obtain ⟨t2, e2, f2, q2, k2⟩ := M_shares_eq t1 l 0 1 a to 1 2 (by omega) (by omega) (by omega) (by omega) (by omega) (by omega) (by omega) (by omega) (fun k k0 kn => by omega) (fun k k0 kn => by omega)
  have b2 : t2 3 r = b := by rw [f2 3 (by decide), f1 3 (by decide)]; exact hb
  have b2' : t2 3 l = a := by rw [f2 3 (by decide)]; exact b1
  obtain ⟨t3, e3, f3, q3, k3⟩ := M_shares_eq t2 r 0 1 b to 2 2 (by omega) (by omega) (by omega) (by omega) (by omega) (by omega) (by omega) (by omega) (fun k k0 kn => by omega) (fun k k0 kn => by omega)
  have b3 : t3 3 l = a := by rw [f3 3 (by decide)]; exact b2'
  have b3' : t3 3 r = b := by rw [f3 3 (by decide)]; exact b2
  have fa : Fr [1, 2, 30] s t3 := f1.tr ((f2.mono (by decide)).tr (f3.mono (by decide)))
  have all : ∀ q, ¬ (256 * to ≤ q ∧ q < 256 * to + 256) → t3 1 q = s 1 q ∧ t3 2 q = s 2 q := fun q hq => by
    have x3 := k3 q (fun k k0 kn => by omega)
    have x2 := k2 q (fun k k0 kn => by omega)
    have x1 := k1 q (by omega)
    exact ⟨x3.1.trans (x2.1.trans x1.1), x3.2.trans (x2.2.trans x1.2)⟩
  refine ⟨us t3 3 to (a + b + 1), ?_, (fa.mono (by decide)).us (by decide), ⟨fun q hq => ?_, fun p hp => ?_⟩, us_eq _ _ _ _, fun x x0 xn => ?_, ?_⟩
  · unfold M_joins
    simp (disch := omega) only [↓jn_e, ↓ite_y, ↓ite_n, ↓oadd_eq, ↓osub_eq, ↓omul_eq, ↓odiv_eq, ↓orem_eq, ↓rd_eq, ↓wr_eq, ↓gf_e, ↓pf_e, ↓bnd_e, ↓bndp_e, ↓opure_e, ↓oif_t, ↓oif_f, ↓E_isPlace_y, ↓E_isPlace_n, ↓E_isNumber_y, ↓E_isNumber_n, ↓M_isPlace_y, ↓M_isPlace_n, ↓M_isNumber_y, ↓M_isNumber_n, ↓M_in_y, ↓M_in_n, ↓us_ne, ↓e1, ↓b1, ↓e2, ↓b2, ↓e3, ↓b3, ↓b3']
    rw [show 1 + a + b = a + b + 1 by omega]
  · have := all q (hq to (by simp))
    exact ⟨by rw [us_ne (by decide)]; exact this.1, by rw [us_ne (by decide)]; exact this.2⟩
  · rw [us_ni (by simp at hp; exact hp), fa 3 (by decide)]
  · rw [us_ne (by decide)]
    by_cases xz : x = 0
    · subst xz
      rw [(k3 _ (fun k k0 kn => by omega)).1, (k2 _ (fun k k0 kn => by omega)).1]
      exact q1
    · rcases Int.emod_two_eq x with e | e
      · obtain ⟨j, rfl⟩ : ∃ j, x = 2 * j + 2 := ⟨x / 2 - 1, by omega⟩
        have h := (q3 j (by omega) (by omega)).1
        rw [show 256 * to + 2 + 2 * j = 256 * to + (2 * j + 2) by omega, show 256 * r + 0 + 1 * j = 256 * r + j by omega] at h
        rw [h, (k2 _ (fun k k0 kn => by omega)).1, (k1 _ (by omega)).1]
        exact cr j (by omega) (by omega)
      · obtain ⟨j, rfl⟩ : ∃ j, x = 2 * j + 1 := ⟨x / 2, by omega⟩
        have h := (q2 j (by omega) (by omega)).1
        rw [show 256 * to + 1 + 2 * j = 256 * to + (2 * j + 1) by omega, show 256 * l + 0 + 1 * j = 256 * l + j by omega] at h
        rw [(k3 _ (fun k k0 kn => by omega)).1, h, (k1 _ (by omega)).1]
        exact cl j (by omega) (by omega)
  · rw [us_ne (by decide), f3 30 (by decide), f2 30 (by decide), h1]
theorem couple_c : ∀ (d : Nat) (s : St) (n v : Int), n + 1 < p2 d → 0 ≤ n → n ≤ 200 → (0 ≤ s 30 0 ∧ s 30 0 + 2 * d ≤ 2100000000) →
    ∃ t, M_fillsCouple d s n v = some (0, t) ∧ Fr [1, 2, 3, 30] s t ∧ Rws [6, 7, 8, 9] s t ∧ t 3 8 = n ∧ t 3 9 = n + 1 ∧ (∀ x, 0 ≤ x → x < n → t 1 (2048 + x) = v) ∧ (∀ x, 0 ≤ x → x < n + 1 → t 1 (2304 + x) = v) ∧ s 30 0 ≤ t 30 0 ∧ t 30 0 ≤ s 30 0 + 2 * d := by
  intro d
  induction d with
  | zero => intro s n v h h0; unfold p2 at h; exfalso; omega
  | succ d ih =>
    intro s n v hp h0 hn hb
    unfold p2 at hp
    unfold M_fillsCouple
    by_cases n0 : n = 0
    · subst n0
      obtain ⟨s1, h1⟩ : ∃ s1, s1 = us (us s 3 8 0) 3 9 1 := ⟨_, rfl⟩
      have f1 : Fr [3] s s1 := by rw [h1]; exact ((Fr.rf _ _).us (by decide)).us (by decide)
      have b30 : s1 30 0 = s 30 0 := by rw [f1 30 (by decide)]
      obtain ⟨t, e2, f2, h2, q2, -, k2⟩ := makes_ex (τ := s1) (r := 9) (a := 0) (v := v) (by omega) (by omega) (by omega)
      refine ⟨t, ?_, (f1.mono (by decide)).tr (f2.mono (by decide)), ⟨fun q hq => ?_, fun p hp => ?_⟩, ?_, ?_, fun x x0 xn => by exfalso; omega, fun x x0 xn => ?_, by omega, by omega⟩
      · simp (disch := omega) only [↓jn_e, ↓ite_y, ↓ite_n, ↓oadd_eq, ↓osub_eq, ↓omul_eq, ↓odiv_eq, ↓orem_eq, ↓rd_eq, ↓wr_eq, ↓gf_e, ↓pf_e, ↓bnd_e, ↓bndp_e, ↓opure_e, ↓oif_t, ↓oif_f, ↓E_isPlace_y, ↓E_isPlace_n, ↓E_isNumber_y, ↓E_isNumber_n, ↓M_isPlace_y, ↓M_isPlace_n, ↓M_isNumber_y, ↓M_isNumber_n, ↓M_in_y, ↓M_in_n, ↓us_ne, ← h1, ↓e2]
      · have a := hq 9 (by decide)
        have b := k2 q (by omega)
        exact ⟨b.1.trans (by rw [f1 1 (by decide)]), b.2.trans (by rw [f1 2 (by decide)])⟩
      · rw [f2 3 (by decide), h1, us_ni (by simp at hp; omega), us_ni (by simp at hp; omega)]
      · rw [f2 3 (by decide), h1, us_ni (by decide), us_eq]
      · rw [f2 3 (by decide), h1, us_eq]; rfl
      · rw [show x = 0 by omega]; exact q2
    · obtain ⟨h, hh⟩ : ∃ h, h = (n - 1) / 2 := ⟨_, rfl⟩
      obtain ⟨s1, e1, f1, r1, a8, a9, c8, c9, b1, b2⟩ := ih s h v (by omega) (by omega) (by omega) (by omega)
      obtain ⟨s2, e2, f2, r2, a6, c6⟩ := takes_ex s1 8 6 (by omega) (by omega) (by omega)
      rw [a8] at a6 c6
      have d9 := r2.n (p := 9) (by decide)
      obtain ⟨s3, e3, f3, r3, a7, c7⟩ := takes_ex s2 9 7 (by omega) (by omega) (by rw [d9.1]; omega)
      rw [d9.1, a9] at a7 c7
      have d6 := r3.n (p := 6) (by decide)
      have v6 : ∀ x, 0 ≤ x → x < h → s3 1 (256 * 6 + x) = v := fun x x0 xn => by
        rw [d6.2 x x0 (by omega), (c6 x x0 xn).1]; exact c8 x x0 xn
      have v7 : ∀ x, 0 ≤ x → x < h + 1 → s3 1 (256 * 7 + x) = v := fun x x0 xn => by
        rw [(c7 x x0 xn).1, d9.2 x x0 (by omega)]; exact c9 x x0 xn
      have s36 : s3 3 6 = h := by rw [d6.1]; exact a6
      have s330 : s3 30 0 = s1 30 0 := by rw [f3 30 (by decide), f2 30 (by decide)]
      -- the two joins; k: the side that is 6 for an odd n, 7 for an even one
      have fin : ∀ k1 k2 A B : Int, (k1 = 6 ∧ k2 = 7 ∧ n = 2 * h + 1 ∧ A = h ∧ B = h) ∨ (k1 = 7 ∧ k2 = 7 ∧ n = 2 * h + 2 ∧ A = h + 1 ∧ B = h + 1) →
          ∃ s4 t, M_joins s3 8 v k1 6 = some (0, s4) ∧ M_joins s4 9 v 7 k1 = some (0, t) ∧ Fr [1, 2, 3, 30] s3 t ∧ Rws [8, 9] s3 t ∧ t 3 8 = n ∧ t 3 9 = n + 1 ∧ (∀ x, 0 ≤ x → x < n → t 1 (2048 + x) = v) ∧ (∀ x, 0 ≤ x → x < n + 1 → t 1 (2304 + x) = v) ∧ t 30 0 = s3 30 0 + 2 := fun k1 k2 A B hc => by
        have hA : s3 3 k1 = A := by
          rcases hc with ⟨q1, -, -, q2, -⟩ | ⟨q1, -, -, q2, -⟩
          · rw [q1, q2]; exact s36
          · rw [q1, q2]; exact a7
        have cA : ∀ x, 0 ≤ x → x < A → s3 1 (256 * k1 + x) = v := by
          rcases hc with ⟨q1, -, -, q2, -⟩ | ⟨q1, -, -, q2, -⟩
          · rw [q1, q2]; exact v6
          · rw [q1, q2]; exact v7
        obtain ⟨s4, e4, f4, r4, a4, c4, m4⟩ := joins_v (s := s3) (to := 8) (v := v) (a := A) (b := h) (l := k1) (r := 6) (Or.inl rfl) (by omega) (Or.inl rfl) hA s36 (by omega) cA v6 (by omega)
        have u6 := r4.n (p := 6) (by decide)
        have u7 := r4.n (p := 7) (by decide)
        have w6 : ∀ x, 0 ≤ x → x < h → s4 1 (256 * 6 + x) = v := fun x x0 xn => by rw [u6.2 x x0 (by omega)]; exact v6 x x0 xn
        have w7 : ∀ x, 0 ≤ x → x < h + 1 → s4 1 (256 * 7 + x) = v := fun x x0 xn => by rw [u7.2 x x0 (by omega)]; exact v7 x x0 xn
        have s47 : s4 3 7 = h + 1 := by rw [u7.1]; exact a7
        have s46 : s4 3 6 = h := by rw [u6.1]; exact s36
        have hB : s4 3 k1 = B := by
          rcases hc with ⟨q1, -, -, -, q2⟩ | ⟨q1, -, -, -, q2⟩
          · rw [q1, q2]; exact s46
          · rw [q1, q2]; exact s47
        have cB : ∀ x, 0 ≤ x → x < B → s4 1 (256 * k1 + x) = v := by
          rcases hc with ⟨q1, -, -, -, q2⟩ | ⟨q1, -, -, -, q2⟩
          · rw [q1, q2]; exact w6
          · rw [q1, q2]; exact w7
        obtain ⟨t, e5, f5, r5, a5, c5, m5⟩ := joins_v (s := s4) (to := 9) (v := v) (a := h + 1) (b := B) (l := 7) (r := k1) (Or.inr rfl) (Or.inr rfl) (by omega) s47 hB (by omega) w7 cB (by omega)
        have u8 := r5.n (p := 8) (by decide)
        refine ⟨s4, t, e4, e5, f4.tr f5, (r4.mono (by decide)).tr (r5.mono (by decide)), by rw [u8.1, a4]; omega, by rw [a5]; omega, fun x x0 xn => ?_, fun x x0 xn => c5 x x0 (by omega), by omega⟩
        have := u8.2 x x0 (by omega)
        rw [show (2048 + x : Int) = 256 * 8 + x by omega, this]
        exact c4 x x0 (by omega)
      rcases Int.emod_two_eq n with e | e
      · obtain ⟨s4, t, g4, g5, f5, r5, a5, a5', c5, c5', m5⟩ := fin 7 7 (h + 1) (h + 1) (Or.inr ⟨rfl, rfl, by omega, rfl, rfl⟩)
        refine ⟨t, ?_, f1.tr ((f2.mono (by decide)).tr ((f3.mono (by decide)).tr f5)), r1.tr ((r2.mono (by decide)).tr ((r3.mono (by decide)).tr (r5.mono (by decide)))), a5, a5', c5, c5', by omega, by omega⟩
        have hq : (n - 2) / 2 = h := by omega
        simp (disch := omega) only [↓jn_e, ↓ite_y, ↓ite_n, ↓oadd_eq, ↓osub_eq, ↓omul_eq, ↓odiv_eq, ↓orem_eq, ↓rd_eq, ↓wr_eq, ↓gf_e, ↓pf_e, ↓bnd_e, ↓bndp_e, ↓opure_e, ↓oif_t, ↓oif_f, ↓E_isPlace_y, ↓E_isPlace_n, ↓E_isNumber_y, ↓E_isNumber_n, ↓M_isPlace_y, ↓M_isPlace_n, ↓M_isNumber_y, ↓M_isNumber_n, ↓M_in_y, ↓M_in_n, ↓us_ne, ↓hq, ↓e1, ↓e2, ↓e3, ↓g4, ↓g5]
      · obtain ⟨s4, t, g4, g5, f5, r5, a5, a5', c5, c5', m5⟩ := fin 6 7 h h (Or.inl ⟨rfl, rfl, by omega, rfl, rfl⟩)
        refine ⟨t, ?_, f1.tr ((f2.mono (by decide)).tr ((f3.mono (by decide)).tr f5)), r1.tr ((r2.mono (by decide)).tr ((r3.mono (by decide)).tr (r5.mono (by decide)))), a5, a5', c5, c5', by omega, by omega⟩
        simp (disch := omega) only [↓jn_e, ↓ite_y, ↓ite_n, ↓oadd_eq, ↓osub_eq, ↓omul_eq, ↓odiv_eq, ↓orem_eq, ↓rd_eq, ↓wr_eq, ↓gf_e, ↓pf_e, ↓bnd_e, ↓bndp_e, ↓opure_e, ↓oif_t, ↓oif_f, ↓E_isPlace_y, ↓E_isPlace_n, ↓E_isNumber_y, ↓E_isNumber_n, ↓M_isPlace_y, ↓M_isPlace_n, ↓M_isNumber_y, ↓M_isNumber_n, ↓M_in_y, ↓M_in_n, ↓us_ne, ← hh, ↓e1, ↓e2, ↓e3, ↓g4, ↓g5]
theorem fills_m {τ : St} {v l n : Int} (hk : Ok τ) (hl : 0 ≤ l ∧ l < 6) (hv : -999 ≤ v ∧ v ≤ 999) (hn : 0 ≤ n ∧ n ≤ 200) :
    ∃ r τ', M_fills τ n v l = some (r, τ') ∧ Op τ τ' l n (fun _ => v) r := by
  have m0 := hk.1
  obtain ⟨s, hs⟩ : ∃ s, s = us τ 33 0 0 := ⟨_, rfl⟩
  have s30 : s 30 0 = τ 30 0 := by rw [hs, us_ne (by decide)]
  obtain ⟨s1, hs1⟩ : ∃ s1, s1 = us s 34 0 (s 30 0) := ⟨_, rfl⟩
  have e1 : M_begins s = some (0, s1) := by rw [hs1]; rfl
  have f1 : Fr [33, 34] τ s1 := by rw [hs1, hs]; exact ((Fr.rf _ _).us (by decide)).us (by decide)
  have b30 : s1 30 0 = τ 30 0 := by rw [f1 30 (by decide)]
  have b34 : s1 34 0 = τ 30 0 := by rw [hs1, us_eq, s30]
  obtain ⟨t, e2, f2, r2, a8, -, c8, -, x1, x2⟩ := couple_c RD s1 n v (by rw [RD_eq, p2_12]; omega) hn.1 hn.2 (by rw [RD_eq]; omega)
  rw [RD_eq] at x2
  obtain ⟨τ', e3, f3, r3, a3, c3⟩ := takes_ex t 8 l (by omega) (by omega) (by omega)
  rw [a8] at a3 c3
  have t30 : τ' 30 0 = t 30 0 := by rw [f3 30 (by decide)]
  have t34 : τ' 34 0 = τ 30 0 := by rw [f3 34 (by decide), f2 34 (by decide)]; exact b34
  refine ⟨t 30 0 - τ 30 0, τ', ?_, ⟨a3, fun x x0 xn => ?_⟩, fun p p0 p6 pl => ?_, by omega, by omega⟩
  · unfold M_fills
    simp (disch := omega) only [↓jn_e, ↓ite_y, ↓ite_n, ↓oadd_eq, ↓osub_eq, ↓omul_eq, ↓odiv_eq, ↓orem_eq, ↓rd_eq, ↓wr_eq, ↓gf_e, ↓pf_e, ↓bnd_e, ↓bndp_e, ↓opure_e, ↓oif_t, ↓oif_f, ↓E_isPlace_y, ↓E_isPlace_n, ↓E_isNumber_y, ↓E_isNumber_n, ↓M_isPlace_y, ↓M_isPlace_n, ↓M_isNumber_y, ↓M_isNumber_n, ↓M_in_y, ↓M_in_n, ↓us_ne, ← hs, ↓e1, ↓e2, ↓e3, ↓t30, ↓t34]
  · rw [(c3 x x0 xn).1]; exact c8 x x0 xn
  · have a := (Rws.fr f1 (by decide) (by decide) (by decide) []).n (p := p) List.not_mem_nil
    have b := r2.n (p := p) (by simp; omega)
    have c := r3.n (p := p) (by simp; exact pl)
    exact ⟨c.1.trans (b.1.trans a.1), fun x x0 xn => (c.2 x x0 xn).trans ((b.2 x x0 xn).trans (a.2 x x0 xn))⟩

-- P54, 3: calls of the reference from its rows to its rows: what all have alike; the steps on the row that is made
/-- what a call makes of the reference's rows: row l has n numbers f, the others as before; how many nodes are made -/
def Op (τ τ' : St) (l n : Int) (f : Int → Int) (r : Int) : Prop := (τ' 3 l = n ∧ ∀ x, 0 ≤ x → x < n → τ' 1 (256 * l + x) = f x) ∧ (∀ p, 0 ≤ p → p < 6 → p ≠ l → τ' 3 p = τ 3 p ∧ ∀ x, 0 ≤ x → x < 256 → τ' 1 (256 * p + x) = τ 1 (256 * p + x)) ∧ r = τ' 30 0 - τ 30 0 ∧ 0 ≤ r
/-- the reference's rows as the calls find them -/
def Ok (τ : St) : Prop := (0 ≤ τ 30 0 ∧ τ 30 0 ≤ 2097152) ∧ ∀ p, 0 ≤ p → p < 6 → (0 ≤ τ 3 p ∧ τ 3 p ≤ 255) ∧ ∀ x, 0 ≤ x → x < τ 3 p → -999 ≤ τ 1 (256 * p + x) ∧ τ 1 (256 * p + x) ≤ 999
theorem SS.ok {k : Nat} {σ τ : St} (h : SS k σ τ) (hk : k < 512) : Ok τ := by
  obtain ⟨⟨ρ, hW⟩, -, -, -, hm⟩ := h
  have hmc := hm.c hk
  refine ⟨by omega, fun p p0 p1 => ?_⟩
  have hP := hW.2.2 p p0 p1
  have h3 := hP.2.1
  refine ⟨by have := hP.1; omega, fun x x0 xn => (hP.num (x := x) ⟨x0, by omega⟩).2⟩
theorem us33 (τ : St) (v : Int) (l : List Int) : Rws l τ (us τ 33 0 v) := Rws.of (us_f (by decide)) (us_f (by decide)) (us_f (by decide))
theorem Rws.n {L : List Int} {τ s : St} (h : Rws L τ s) {p : Int} (hp : p ∉ L) : s 3 p = τ 3 p ∧ ∀ x, 0 ≤ x → x < 256 → s 1 (256 * p + x) = τ 1 (256 * p + x) :=
  ⟨h.2 p hp, fun x x0 xn => (h.at hp ⟨x0, xn⟩).1⟩
theorem open2 {τ s : St} {i n : Int} (rs : Rws [6, 7] τ s) (s30 : s 30 0 = τ 30 0) (hi : 0 ≤ i ∧ i < 6) (h3 : τ 3 i = n) (hn : 0 ≤ n ∧ n ≤ 255) :
    ∃ s1 s2, M_asks s i = some (0, s1) ∧ M_begins s1 = some (0, s2) ∧ Fr [1, 2, 3, 34] s s2 ∧ Rws [6, 7] τ s2 ∧ s2 3 6 = n ∧ s2 3 7 = n ∧ (∀ x, 0 ≤ x → x < n → s2 1 (1536 + x) = τ 1 (256 * i + x)) ∧ (∀ x, 0 ≤ x → x < n → s2 1 (1792 + x) = τ 1 (256 * i + x)) ∧ s2 34 0 = τ 30 0 ∧ s2 30 0 = τ 30 0 := by
  have hi6 : i ∉ [6, 7] := by simp; omega
  have s3 : s 3 i = n := by rw [(rs.n hi6).1]; exact h3
  obtain ⟨s1, e1, f1, r1, a6, a7, c6, c7⟩ := asks_ex s i hi (by omega)
  rw [s3] at a6 a7 c6 c7
  refine ⟨s1, us s1 34 0 (s1 30 0), e1, rfl, (f1.mono (by decide)).us (by decide), (rs.tr r1).tr (Rws.of (us_f (by decide)) (us_f (by decide)) (us_f (by decide))), ?_, ?_, fun x x0 xn => ?_, fun x x0 xn => ?_, ?_, ?_⟩
  · rw [us_ne (by decide)]; exact a6
  · rw [us_ne (by decide)]; exact a7
  · rw [us_ne (by decide), ← (rs.n hi6).2 x x0 (by omega)]; exact (c6 x x0 xn).1
  · rw [us_ne (by decide), ← (rs.n hi6).2 x x0 (by omega)]; exact (c7 x x0 xn).1
  · rw [us_eq, f1 30 (by decide), s30]
  · rw [us_ne (by decide), f1 30 (by decide), s30]
/-- the row that is made has gone on -/
def FC : List Nat := [1, 2, 3, 6, 7, 30, 35, 36, 42]
def Cr (s t : St) (m : Int) (f : Int → Int) (d : Int) : Prop := Fr FC s t ∧ Rws [6, 7] s t ∧ t 3 7 = m ∧ (∀ x, 0 ≤ x → x < m → t 1 (1792 + x) = f x) ∧ s 30 0 ≤ t 30 0 ∧ t 30 0 ≤ s 30 0 + d
theorem Cr.rf {s : St} {m : Int} (h : s 3 7 = m) : Cr s s m (fun x => s 1 (1792 + x)) 0 := ⟨Fr.rf _ _, Rws.rf _ _, h, fun _ _ _ => rfl, by omega⟩
theorem Cr.tr {s t u : St} {m m' d d' : Int} {f f' : Int → Int} (h : Cr s t m f d) (k : Cr t u m' f' d') : Cr s u m' f' (d + d') :=
  ⟨h.1.tr k.1, h.2.1.tr k.2.1, k.2.2.1, k.2.2.2.1, by have := h.2.2.2.2; have := k.2.2.2.2; omega⟩
theorem Cr.is {s t : St} {m d d' : Int} {f f' : Int → Int} (h : Cr s t m f d) (hd : d ≤ d') (he : ∀ x, 0 ≤ x → x < m → f x = f' x) : Cr s t m f' d' :=
  ⟨h.1, h.2.1, h.2.2.1, fun x x0 xn => (h.2.2.2.1 x x0 xn).trans (he x x0 xn), by have := h.2.2.2.2; omega⟩
theorem close2 {τ s2 t : St} {l m d : Int} {f : Int → Int} (hl : 0 ≤ l ∧ l < 6) {L : List Int} (r2 : Rws L τ s2) (hL : ∀ p ∈ L, 6 ≤ p) (h34 : s2 34 0 = τ 30 0) (h30 : s2 30 0 = τ 30 0) (hC : Cr s2 t m f d) (hm : 0 ≤ m ∧ m ≤ 255) (hb : 0 ≤ τ 30 0 ∧ τ 30 0 + d ≤ 2147483000) :
    ∃ τ', M_ends t l = some (t 30 0 - τ 30 0, τ') ∧ Op τ τ' l m f (t 30 0 - τ 30 0) ∧ Fr [1, 2, 3] t τ' := by
  obtain ⟨c1, c2, c3, c4, c5⟩ := hC
  obtain ⟨τ', e1, f1, r1, a1, q1⟩ := takes_ex t 7 l (by omega) (by omega) (by omega)
  rw [c3] at a1 q1
  have t34 : τ' 34 0 = τ 30 0 := by rw [f1 34 (by decide), c1 34 (by decide)]; exact h34
  have t30 : τ' 30 0 = t 30 0 := by rw [f1 30 (by decide)]
  refine ⟨τ', ?_, ⟨⟨a1, fun x x0 xn => ?_⟩, fun p p0 p6 pl => ?_, by omega, by omega⟩, f1⟩
  · unfold M_ends
    simp (disch := omega) only [↓jn_e, ↓ite_y, ↓ite_n, ↓oadd_eq, ↓osub_eq, ↓omul_eq, ↓odiv_eq, ↓orem_eq, ↓rd_eq, ↓wr_eq, ↓gf_e, ↓pf_e, ↓bnd_e, ↓bndp_e, ↓opure_e, ↓oif_t, ↓oif_f, ↓E_isPlace_y, ↓E_isPlace_n, ↓E_isNumber_y, ↓E_isNumber_n, ↓M_isPlace_y, ↓M_isPlace_n, ↓M_isNumber_y, ↓M_isNumber_n, ↓M_in_y, ↓M_in_n, ↓us_ne, ↓e1, ↓t34, ↓t30]
  · rw [(q1 x x0 xn).1]; exact c4 x x0 xn
  · have a := r2.n (p := p) (fun q => by have := hL p q; omega)
    have b := c2.n (p := p) (by simp; omega)
    have c := r1.n (p := p) (by simp; exact pl)
    exact ⟨c.1.trans (b.1.trans a.1), fun x x0 xn => (c.2 x x0 xn).trans ((b.2 x x0 xn).trans (a.2 x x0 xn))⟩
theorem V01 (n : Int) (h : n ≤ 256) : Vok 0 1 n := fun k a b => by omega
theorem vw701 (x : Int) : vw 7 0 1 x = 1792 + x := by unfold vw; omega
theorem vw601 (x : Int) : vw 6 0 1 x = 1536 + x := by unfold vw; omega
theorem us37 (t : St) (v : Int) : Rws [7] t (us t 3 7 v) := ⟨fun q _ => ⟨us_ne (by decide), us_ne (by decide)⟩, fun p hp => us_ni (by simp at hp; exact hp)⟩
/-- the numbers of row 7 are made, its size set -/
theorem Cr.sz {s t : St} {m n d : Int} {f : Int → Int} (h1 : Keep7 s t 0 1 m) (hm : m ≤ 256) (h2 : Fr [1, 2, 30, 42] s t) (h3 : s 30 0 ≤ t 30 0 ∧ t 30 0 ≤ s 30 0 + d) (h4 : ∀ x, 0 ≤ x → x < n → t 1 (1792 + x) = f x) : Cr s (us t 3 7 n) n f d := by
  refine ⟨(h2.mono (by decide)).us (by decide), ((h1.rws hm (h2 3 (by decide))).mono (by decide)).tr ((us37 t n).mono (by decide)), us_eq _ _ _ _, fun x x0 xn => ?_, ?_⟩
  · rw [us_ne (by decide)]; exact h4 x x0 xn
  · rw [us_ne (by decide)]; exact h3
theorem fronts_cr {s : St} {n v : Int} (hn : 0 ≤ n ∧ n ≤ 254) (h6 : s 3 6 = n) (hb : 0 ≤ s 30 0 ∧ s 30 0 ≤ 2100000000) : ∃ t, M_fronts RD s 0 1 n 0 1 v = some (0, t) ∧ t 3 6 = n ∧ Cr s (us t 3 7 (n + 1)) (n + 1) (fun x => if x = 0 then v else s 1 (1536 + (x - 1))) 12 := by
  obtain ⟨t, g1, g2, g3, g4, g5, g6⟩ := fronts_c RD s v n 0 1 0 1 (by rw [RD_eq]; omega) (by rw [RD_eq, p2_12]; omega) (by omega) (by omega) (by omega) (by omega) (V01 _ (by omega)) (V01 _ (by omega))
  rw [RD_eq] at g4
  refine ⟨t, g1, by rw [g3 3 (by decide)]; exact h6, Cr.sz g2 (by omega) (g3.mono (by decide)) (by omega) (fun x x0 xn => ?_)⟩
  by_cases x1 : x = 0
  · rw [if_pos x1, x1, ← vw701]; exact g5
  · rw [if_neg x1]
    have := g6 (x - 1) (by omega) (by omega)
    rw [show x - 1 + 1 = x by omega, vw701, vw601] at this
    exact this
theorem goesFirst_cr {s : St} {n : Int} (hn : 1 ≤ n ∧ n ≤ 255) (h7 : s 3 7 = n) (hb : 0 ≤ s 30 0 ∧ s 30 0 ≤ 2100000000) : ∃ t, M_goesFirst s = some (0, t) ∧ Cr s t (n - 1) (fun x => s 1 (1792 + (x + 1))) 12 := by
  obtain ⟨s1, e1, f1, r1, a1, c1⟩ := takes_ex s 7 6 (by omega) (by omega) (by omega)
  rw [h7] at a1 c1
  have b30 : s1 30 0 = s 30 0 := by rw [f1 30 (by decide)]
  obtain ⟨t, g1, g2, g3, g4, g6⟩ := firsts_c RD s1 n 0 1 0 1 (by rw [RD_eq]; omega) (by rw [RD_eq, p2_12]; omega) (by omega) (by omega) (by omega) (by omega) (by omega) (V01 _ (by omega)) (V01 _ (by omega))
  rw [RD_eq] at g4
  have t7 : t 3 7 = n := by rw [g3 3 (by decide), (r1.n (p := 7) (by decide)).1]; exact h7
  have c : Cr s1 (us t 3 7 (n - 1)) (n - 1) (fun x => s 1 (1792 + (x + 1))) 12 := Cr.sz g2 (by omega) (g3.mono (by decide)) (by omega) (fun x x0 xn => by
    have := g6 x x0 xn
    rw [vw701, vw601] at this
    rw [this]
    exact (c1 (x + 1) (by omega) (by omega)).1)
  refine ⟨us t 3 7 (n - 1), ?_, (f1.mono (by decide)).tr c.1, (r1.mono (by decide)).tr c.2.1, c.2.2.1, c.2.2.2.1, by have := c.2.2.2.2; omega⟩
  unfold M_goesFirst
  simp (disch := omega) only [↓jn_e, ↓ite_y, ↓ite_n, ↓oadd_eq, ↓osub_eq, ↓omul_eq, ↓odiv_eq, ↓orem_eq, ↓rd_eq, ↓wr_eq, ↓gf_e, ↓pf_e, ↓bnd_e, ↓bndp_e, ↓opure_e, ↓oif_t, ↓oif_f, ↓E_isPlace_y, ↓E_isPlace_n, ↓E_isNumber_y, ↓E_isNumber_n, ↓M_isPlace_y, ↓M_isPlace_n, ↓M_isNumber_y, ↓M_isNumber_n, ↓M_in_y, ↓M_in_n, ↓us_ne, ↓e1, ↓a1, ↓g1, ↓t7]
theorem goesPush_cr {s : St} {n v : Int} (hn : 0 ≤ n ∧ n ≤ 254) (h7 : s 3 7 = n) (hb : 0 ≤ s 30 0 ∧ s 30 0 ≤ 2100000000) : ∃ t, M_goesPush s v = some (0, t) ∧ Cr s t (n + 1) (psh 12 (fun x => s 1 (1792 + x)) n v) 12 := by
  obtain ⟨s1, e1, f1, r1, a1, c1⟩ := takes_ex s 7 6 (by omega) (by omega) (by omega)
  rw [h7] at a1 c1
  have b30 : s1 30 0 = s 30 0 := by rw [f1 30 (by decide)]
  obtain ⟨t, g1, g2, g3, g4, g6⟩ := pushes_c RD s1 v n 0 1 0 1 (by rw [RD_eq]; omega) (by rw [RD_eq, p2_12]; omega) (by omega) (by omega) (by omega) (by omega) (V01 _ (by omega)) (V01 _ (by omega))
  rw [RD_eq] at g4 g6
  have t7 : t 3 7 = n := by rw [g3 3 (by decide), (r1.n (p := 7) (by decide)).1]; exact h7
  have c : Cr s1 (us t 3 7 (n + 1)) (n + 1) (psh 12 (fun x => s 1 (1792 + x)) n v) 12 := Cr.sz g2 (by omega) (g3.mono (by decide)) (by omega) (fun x x0 xn => by
    have := g6 x x0 (by omega)
    rw [vw701] at this
    rw [this]
    refine psh_ext 12 _ _ v (fun y y0 yn => ?_) hn.1 x x0 (by omega)
    show s1 1 (vw 6 0 1 y) = s 1 (1792 + y)
    rw [vw601]
    exact (c1 y y0 yn).1)
  refine ⟨us t 3 7 (n + 1), ?_, (f1.mono (by decide)).tr c.1, (r1.mono (by decide)).tr c.2.1, c.2.2.1, c.2.2.2.1, by have := c.2.2.2.2; omega⟩
  unfold M_goesPush
  simp (disch := omega) only [↓jn_e, ↓ite_y, ↓ite_n, ↓oadd_eq, ↓osub_eq, ↓omul_eq, ↓odiv_eq, ↓orem_eq, ↓rd_eq, ↓wr_eq, ↓gf_e, ↓pf_e, ↓bnd_e, ↓bndp_e, ↓opure_e, ↓oif_t, ↓oif_f, ↓E_isPlace_y, ↓E_isPlace_n, ↓E_isNumber_y, ↓E_isNumber_n, ↓M_isPlace_y, ↓M_isPlace_n, ↓M_isNumber_y, ↓M_isNumber_n, ↓M_in_y, ↓M_in_n, ↓us_ne, ↓e1, ↓a1, ↓g1, ↓t7]
theorem backs_cr {s : St} {n v : Int} (hn : 0 ≤ n ∧ n ≤ 254) (h7 : s 3 7 = n) (hb : 0 ≤ s 30 0 ∧ s 30 0 ≤ 2100000000) : ∃ t, M_backs s v = some (0, t) ∧ Cr s t (n + 1) (fun x => if x = n then v else s 1 (1792 + x)) 8 := by
  obtain ⟨t, g1, g2, g3, g4, g5, g6, -, -, g7⟩ := backs_ex (τ := s) (n := n) (v := v) hn h7 (by omega)
  have dn := dp_7 (i := n) (by omega)
  refine ⟨t, g1, g2.mono (by decide), g3.mono (by decide), g4, fun x x0 xn => ?_, by omega⟩
  show t 1 (1792 + x) = if x = n then v else s 1 (1792 + x)
  by_cases x1 : x = n
  · rw [if_pos x1, x1]; exact g6
  · rw [if_neg x1]
    exact g5 x x0 (by omega)
theorem goesLast_cr {s : St} {n : Int} (hn : 1 ≤ n ∧ n ≤ 255) (h7 : s 3 7 = n) (hb : 0 ≤ s 30 0 ∧ s 30 0 ≤ 2100000000) : ∃ t, M_goesLast s = some (0, t) ∧ Cr s t (n - 1) (fun x => s 1 (1792 + x)) 8 := by
  obtain ⟨t, g1, g2, g3, g4, g5, -, -, g7⟩ := goesLast_ex (τ := s) (n := n) hn h7 (by omega)
  have dn := dp_7 (i := n - 1) (by omega)
  exact ⟨t, g1, g2.mono (by decide), g3.mono (by decide), g4, fun x x0 xn => g5 x x0 xn, by omega⟩
theorem renews_cr {s : St} {n : Int} (hn : 0 ≤ n ∧ n ≤ 255) (h7 : s 3 7 = n) (hb : 0 ≤ s 30 0 ∧ s 30 0 ≤ 2100000000) : ∃ t, M_renews s = some (0, t) ∧ Cr s t n (fun x => s 1 (1792 + x)) 255 ∧ t 30 0 = s 30 0 + cn (s 7) n.toNat := by
  obtain ⟨t, g1, g2, g3, g4, -, -, g7⟩ := renews_ex hn s h7 (by omega)
  have dn := cn_rng (s 7) n.toNat
  exact ⟨t, g1, ⟨g2.mono (by decide), g4.mono (by decide), by rw [g2 3 (by decide)]; exact h7, fun x x0 xn => by rw [g3], by omega⟩, g7⟩
-- loops
theorem keepsM_loop (K : St → Option (Int × St)) (N : Int) (hN : 0 ≤ N) : ∀ (r m : Nat) (s : St), s 3 7 = N + r → N + r ≤ 255 → r < m → (0 ≤ s 30 0 ∧ s 30 0 + 8 * r ≤ 2100000000) →
    ∃ t, M_keeps_L46 K N m s = K t ∧ Cr s t N (fun x => s 1 (1792 + x)) (8 * r) := by
  intro r
  induction r with
  | zero =>
    intro m s h7 hn hm hb
    obtain ⟨m, rfl⟩ : ∃ m', m = m' + 1 := ⟨m - 1, by omega⟩
    unfold M_keeps_L46
    refine ⟨s, ?_, (Cr.rf (by omega)).is (by omega) (fun _ _ _ => rfl)⟩
    simp (disch := omega) only [↓jn_e, ↓ite_y, ↓ite_n, ↓oadd_eq, ↓osub_eq, ↓omul_eq, ↓odiv_eq, ↓orem_eq, ↓rd_eq, ↓wr_eq, ↓gf_e, ↓pf_e, ↓bnd_e, ↓bndp_e, ↓opure_e, ↓oif_t, ↓oif_f, ↓E_isPlace_y, ↓E_isPlace_n, ↓E_isNumber_y, ↓E_isNumber_n, ↓M_isPlace_y, ↓M_isPlace_n, ↓M_isNumber_y, ↓M_isNumber_n, ↓M_in_y, ↓M_in_n, ↓us_ne, ↓h7]
  | succ r ih =>
    intro m s h7 hn hm hb
    obtain ⟨m, rfl⟩ : ∃ m', m = m' + 1 := ⟨m - 1, by omega⟩
    unfold M_keeps_L46
    obtain ⟨t, e1, c1⟩ := goesLast_cr (s := s) (n := N + ((r + 1 : Nat) : Int)) (by omega) h7 (by omega)
    have c5 := c1.2.2.2.2
    obtain ⟨u, e2, c2⟩ := ih m t (by rw [c1.2.2.1]; omega) (by omega) (by omega) (by omega)
    refine ⟨u, ?_, (c1.tr c2).is (by omega) (fun x x0 xn => c1.2.2.2.1 x x0 (by omega))⟩
    simp (disch := omega) only [↓jn_e, ↓ite_y, ↓ite_n, ↓oadd_eq, ↓osub_eq, ↓omul_eq, ↓odiv_eq, ↓orem_eq, ↓rd_eq, ↓wr_eq, ↓gf_e, ↓pf_e, ↓bnd_e, ↓bndp_e, ↓opure_e, ↓oif_t, ↓oif_f, ↓E_isPlace_y, ↓E_isPlace_n, ↓E_isNumber_y, ↓E_isNumber_n, ↓M_isPlace_y, ↓M_isPlace_n, ↓M_isNumber_y, ↓M_isNumber_n, ↓M_in_y, ↓M_in_n, ↓us_ne, ↓h7, ↓e1]
    exact e2
theorem skipsM_loop (K : St → Option (Int × St)) (N n : Int) (hn : n ≤ 255) : ∀ (r m : Nat) (s : St) (x : Int), x + r = N → 0 ≤ x → N ≤ n → s 3 7 = n - x → r < m → (0 ≤ s 30 0 ∧ s 30 0 + 12 * r ≤ 2100000000) →
    ∃ t, M_skips_L49 K N m s x = K t ∧ Cr s t (n - N) (fun y => s 1 (1792 + (y + (N - x)))) (12 * r) := by
  intro r
  induction r with
  | zero =>
    intro m s x hx x0 hNn h7 hm hb
    obtain ⟨m, rfl⟩ : ∃ m', m = m' + 1 := ⟨m - 1, by omega⟩
    unfold M_skips_L49
    refine ⟨s, ?_, (Cr.rf (by omega)).is (by omega) (fun y _ _ => by rw [show y + (N - x) = y by omega])⟩
    simp (disch := omega) only [↓jn_e, ↓ite_y, ↓ite_n, ↓oadd_eq, ↓osub_eq, ↓omul_eq, ↓odiv_eq, ↓orem_eq, ↓rd_eq, ↓wr_eq, ↓gf_e, ↓pf_e, ↓bnd_e, ↓bndp_e, ↓opure_e, ↓oif_t, ↓oif_f, ↓E_isPlace_y, ↓E_isPlace_n, ↓E_isNumber_y, ↓E_isNumber_n, ↓M_isPlace_y, ↓M_isPlace_n, ↓M_isNumber_y, ↓M_isNumber_n, ↓M_in_y, ↓M_in_n, ↓us_ne]
  | succ r ih =>
    intro m s x hx x0 hNn h7 hm hb
    obtain ⟨m, rfl⟩ : ∃ m', m = m' + 1 := ⟨m - 1, by omega⟩
    unfold M_skips_L49
    obtain ⟨t, e1, c1⟩ := goesFirst_cr (s := s) (n := n - x) (by omega) h7 (by omega)
    have c5 := c1.2.2.2.2
    obtain ⟨u, e2, c2⟩ := ih m t (x + 1) (by omega) (by omega) hNn (by rw [c1.2.2.1]; omega) (by omega) (by omega)
    refine ⟨u, ?_, (c1.tr c2).is (by omega) (fun y y0 yn => ?_)⟩
    · simp (disch := omega) only [↓jn_e, ↓ite_y, ↓ite_n, ↓oadd_eq, ↓osub_eq, ↓omul_eq, ↓odiv_eq, ↓orem_eq, ↓rd_eq, ↓wr_eq, ↓gf_e, ↓pf_e, ↓bnd_e, ↓bndp_e, ↓opure_e, ↓oif_t, ↓oif_f, ↓E_isPlace_y, ↓E_isPlace_n, ↓E_isNumber_y, ↓E_isNumber_n, ↓M_isPlace_y, ↓M_isPlace_n, ↓M_isNumber_y, ↓M_isNumber_n, ↓M_in_y, ↓M_in_n, ↓us_ne, ↓e1]
      exact e2
    · rw [c1.2.2.2.1 _ (by omega) (by omega)]
      dsimp only
      rw [show y + (N - (x + 1)) + 1 = y + (N - x) by omega]
theorem appendsM_loop (K : St → Option (Int × St)) (u : Int → Int) (n0 N : Int) (hN : 0 ≤ n0 ∧ 0 ≤ N ∧ n0 + N ≤ 255) : ∀ (r m : Nat) (s : St) (x : Int), x + r = N → 0 ≤ x → s 3 7 = n0 + x → s 3 8 = N → (∀ y, 0 ≤ y → y < N → s 1 (2048 + y) = u y) → r < m → (0 ≤ s 30 0 ∧ s 30 0 + 8 * r ≤ 2100000000) →
    ∃ t, M_appends_L69 K m s x = K t ∧ Cr s t (n0 + N) (fun y => if y < n0 + x then s 1 (1792 + y) else u (y - n0)) (8 * r) := by
  intro r
  induction r with
  | zero =>
    intro m s x hx x0 h7 h8 hu hm hb
    obtain ⟨m, rfl⟩ : ∃ m', m = m' + 1 := ⟨m - 1, by omega⟩
    unfold M_appends_L69
    refine ⟨s, ?_, (Cr.rf (by omega)).is (by omega) (fun y _ _ => by rw [if_pos (by omega)])⟩
    simp (disch := omega) only [↓jn_e, ↓ite_y, ↓ite_n, ↓oadd_eq, ↓osub_eq, ↓omul_eq, ↓odiv_eq, ↓orem_eq, ↓rd_eq, ↓wr_eq, ↓gf_e, ↓pf_e, ↓bnd_e, ↓bndp_e, ↓opure_e, ↓oif_t, ↓oif_f, ↓E_isPlace_y, ↓E_isPlace_n, ↓E_isNumber_y, ↓E_isNumber_n, ↓M_isPlace_y, ↓M_isPlace_n, ↓M_isNumber_y, ↓M_isNumber_n, ↓M_in_y, ↓M_in_n, ↓us_ne, ↓h8]
  | succ r ih =>
    intro m s x hx x0 h7 h8 hu hm hb
    obtain ⟨m, rfl⟩ : ∃ m', m = m' + 1 := ⟨m - 1, by omega⟩
    unfold M_appends_L69
    obtain ⟨t, e1, c1⟩ := backs_cr (s := s) (n := n0 + x) (v := u x) (by omega) h7 (by omega)
    have c5 := c1.2.2.2.2
    have t8 := c1.2.1.n (p := 8) (by decide)
    obtain ⟨w, e2, c2⟩ := ih m t (x + 1) (by omega) (by omega) (by rw [c1.2.2.1]; omega) (by rw [t8.1]; exact h8) (fun y y0 yn => (t8.2 y y0 (by omega)).trans (hu y y0 yn)) (by omega) (by omega)
    have hnum : M_number s 8 x = some (u x) := by
      rw [M_number_eq (by omega) (by omega), ← hu x x0 (by omega)]; rfl
    refine ⟨w, ?_, (c1.tr c2).is (by omega) (fun y y0 yn => ?_)⟩
    · simp (disch := omega) only [↓jn_e, ↓ite_y, ↓ite_n, ↓oadd_eq, ↓osub_eq, ↓omul_eq, ↓odiv_eq, ↓orem_eq, ↓rd_eq, ↓wr_eq, ↓gf_e, ↓pf_e, ↓bnd_e, ↓bndp_e, ↓opure_e, ↓oif_t, ↓oif_f, ↓E_isPlace_y, ↓E_isPlace_n, ↓E_isNumber_y, ↓E_isNumber_n, ↓M_isPlace_y, ↓M_isPlace_n, ↓M_isNumber_y, ↓M_isNumber_n, ↓M_in_y, ↓M_in_n, ↓us_ne, ↓h8, ↓hnum, ↓e1]
      exact e2
    · by_cases a : y < n0 + x
      · rw [if_pos (by omega), c1.2.2.2.1 _ y0 (by omega)]
        dsimp only
        rw [if_neg (show ¬ y = n0 + x by omega), if_pos a]
      · by_cases b : y = n0 + x
        · rw [if_pos (by omega), c1.2.2.2.1 _ y0 (by omega)]
          dsimp only
          rw [if_pos b, if_neg a, b, show n0 + x - n0 = x by omega]
        · rw [if_neg (by omega), if_neg a]
theorem turnedM_loop (K : St → Option (Int × St)) (N n : Int) (hN : 0 ≤ N ∧ N ≤ 255) (hn : 1 ≤ n ∧ n ≤ 255) : ∀ (r m : Nat) (s : St) (x : Int), x + r = N → 0 ≤ x → s 3 7 = n → r < m → (0 ≤ s 30 0 ∧ s 30 0 + 20 * r ≤ 2100000000) →
    ∃ t, M_turned_L57 K N m s x = K t ∧ Cr s t n (fun y => s 1 (1792 + (y + (N - x)) % n)) (20 * r) := by
  intro r
  induction r with
  | zero =>
    intro m s x hx x0 h7 hm hb
    obtain ⟨m, rfl⟩ : ∃ m', m = m' + 1 := ⟨m - 1, by omega⟩
    unfold M_turned_L57
    refine ⟨s, ?_, (Cr.rf h7).is (by omega) (fun y y0 yn => by rw [show y + (N - x) = y by omega, Int.emod_eq_of_lt y0 yn])⟩
    simp (disch := omega) only [↓jn_e, ↓ite_y, ↓ite_n, ↓oadd_eq, ↓osub_eq, ↓omul_eq, ↓odiv_eq, ↓orem_eq, ↓rd_eq, ↓wr_eq, ↓gf_e, ↓pf_e, ↓bnd_e, ↓bndp_e, ↓opure_e, ↓oif_t, ↓oif_f, ↓E_isPlace_y, ↓E_isPlace_n, ↓E_isNumber_y, ↓E_isNumber_n, ↓M_isPlace_y, ↓M_isPlace_n, ↓M_isNumber_y, ↓M_isNumber_n, ↓M_in_y, ↓M_in_n, ↓us_ne]
  | succ r ih =>
    intro m s x hx x0 h7 hm hb
    obtain ⟨m, rfl⟩ : ∃ m', m = m' + 1 := ⟨m - 1, by omega⟩
    unfold M_turned_L57
    obtain ⟨t, e1, c1⟩ := goesFirst_cr (s := s) (n := n) (by omega) h7 (by omega)
    have c5 := c1.2.2.2.2
    obtain ⟨v, hv⟩ : ∃ v, v = s 1 1792 := ⟨_, rfl⟩
    have hnum : M_number s 7 0 = some v := by
      rw [M_number_eq (by omega) (by omega), hv]; rfl
    obtain ⟨t2, e2, c2⟩ := backs_cr (s := t) (n := n - 1) (v := v) (by omega) c1.2.2.1 (by omega)
    have d5 := c2.2.2.2.2
    rw [show n - 1 + 1 = n by omega] at c2
    obtain ⟨w, e3, c3⟩ := ih m t2 (x + 1) (by omega) (by omega) c2.2.2.1 (by omega) (by omega)
    refine ⟨w, ?_, ((c1.tr c2).tr c3).is (by omega) (fun y y0 yn => ?_)⟩
    · simp (disch := omega) only [↓jn_e, ↓ite_y, ↓ite_n, ↓oadd_eq, ↓osub_eq, ↓omul_eq, ↓odiv_eq, ↓orem_eq, ↓rd_eq, ↓wr_eq, ↓gf_e, ↓pf_e, ↓bnd_e, ↓bndp_e, ↓opure_e, ↓oif_t, ↓oif_f, ↓E_isPlace_y, ↓E_isPlace_n, ↓E_isNumber_y, ↓E_isNumber_n, ↓M_isPlace_y, ↓M_isPlace_n, ↓M_isNumber_y, ↓M_isNumber_n, ↓M_in_y, ↓M_in_n, ↓us_ne, ↓hnum, ↓e1, ↓e2]
      exact e3
    · obtain ⟨q, hq⟩ : ∃ q, q = (y + (N - (x + 1))) % n := ⟨_, rfl⟩
      have q0 := Int.emod_nonneg (y + (N - (x + 1))) (show n ≠ 0 by omega)
      have q1 := Int.emod_lt_of_pos (y + (N - (x + 1))) (show 0 < n by omega)
      rw [← hq] at q0 q1 ⊢
      have e : (y + (N - x)) % n = (q + 1) % n := by
        rw [hq, show y + (N - x) = y + (N - (x + 1)) + 1 by omega, Int.emod_add_emod]
      rw [e, c2.2.2.2.1 q q0 (by omega)]
      dsimp only
      by_cases b : q = n - 1
      · rw [if_pos b, b, show n - 1 + 1 = n by omega, Int.emod_self, hv]
        rfl
      · rw [if_neg b, c1.2.2.2.1 q q0 (by omega)]
        dsimp only
        rw [Int.emod_eq_of_lt (by omega) (by omega)]

-- MATH 32: mirrors, differs
def mir (x : Int) : Int := (M_mirrored x).getD 0
theorem mir_f : ∀ x : Fin 511, M_mirrored (x.val : Int) = some (mir (x.val : Int)) := by decide +kernel
theorem mir_g : ∀ w : Fin 255, mir ((w.val : Int) + st (w.val : Int)) = mir (w.val : Int) + 2 * st (mir (w.val : Int)) ∧ mir ((w.val : Int) + 2 * st (w.val : Int)) = mir (w.val : Int) + 1 * st (mir (w.val : Int)) ∧ mir (mir (w.val : Int)) = (w.val : Int) := by decide +kernel
theorem mir_h : ∀ w : Fin 511, 0 ≤ mir (w.val : Int) ∧ (mir (w.val : Int) < 1 ↔ (w.val : Int) < 1) ∧ (mir (w.val : Int) < 3 ↔ (w.val : Int) < 3) ∧ (mir (w.val : Int) < 7 ↔ (w.val : Int) < 7) ∧ (mir (w.val : Int) < 15 ↔ (w.val : Int) < 15) ∧ (mir (w.val : Int) < 31 ↔ (w.val : Int) < 31) ∧ (mir (w.val : Int) < 63 ↔ (w.val : Int) < 63) ∧ (mir (w.val : Int) < 127 ↔ (w.val : Int) < 127) ∧ (mir (w.val : Int) < 255 ↔ (w.val : Int) < 255) := by decide +kernel
def full (n : Int) : Prop := n = 0 ∨ n = 1 ∨ n = 3 ∨ n = 7 ∨ n = 15 ∨ n = 31 ∨ n = 63 ∨ n = 127 ∨ n = 255
theorem band_full_f : ∀ n : Fin 256, band (n.val : Int) ((n.val : Int) + 1) = 0 → ((n.val : Int) = 0 ∨ (n.val : Int) = 1 ∨ (n.val : Int) = 3 ∨ (n.val : Int) = 7 ∨ (n.val : Int) = 15 ∨ (n.val : Int) = 31 ∨ (n.val : Int) = 63 ∨ (n.val : Int) = 127 ∨ (n.val : Int) = 255) := by decide +kernel
theorem band_full {n : Int} (h : 0 ≤ n ∧ n ≤ 255) (e : band n (n + 1) = 0) : full n := by
  obtain ⟨x, hx⟩ := fin_int (i := n) (n := 256) (by omega)
  have := band_full_f x
  rw [hx] at this; exact this e
theorem mir_eq {x : Int} (h : 0 ≤ x ∧ x < 511) : M_mirrored x = some (mir x) := by
  obtain ⟨w, hw⟩ := fin_int (n := 511) h
  have := mir_f w
  rw [hw] at this; exact this
theorem mir_st {x : Int} (h : 0 ≤ x ∧ x < 255) : mir (x + st x) = mir x + 2 * st (mir x) ∧ mir (x + 2 * st x) = mir x + 1 * st (mir x) ∧ mir (mir x) = x := by
  obtain ⟨w, hw⟩ := fin_int (n := 255) h
  have := mir_g w
  rw [hw] at this; exact this
theorem mir_lt {x n : Int} (h : 0 ≤ x ∧ x < 511) (hn : full n) (h1 : 1 ≤ n) : 0 ≤ mir x ∧ (mir x < n ↔ x < n) := by
  obtain ⟨w, hw⟩ := fin_int (n := 511) h
  have t := mir_h w
  rw [hw] at t
  refine ⟨t.1, ?_⟩
  unfold full at hn
  rcases hn with e | e | e | e | e | e | e | e | e
  · omega
  · rw [e]; exact t.2.1
  · rw [e]; exact t.2.2.1
  · rw [e]; exact t.2.2.2.1
  · rw [e]; exact t.2.2.2.2.1
  · rw [e]; exact t.2.2.2.2.2.1
  · rw [e]; exact t.2.2.2.2.2.2.1
  · rw [e]; exact t.2.2.2.2.2.2.2.1
  · rw [e]; exact t.2.2.2.2.2.2.2.2
theorem mirrored_loopE {K : St → Option (Int × St)} {n : Int} {u : Int → Int} (hn : 0 ≤ n ∧ n ≤ 255) {σ : St} (hu : ∀ x, 0 ≤ x → x < n → used σ (σ 12 x) ∧ nu σ (σ 12 x) = u x) (hfr : 256 ≤ σ 31 0) (hm : 0 ≤ σ 32 0 ∧ σ 32 0 + 300 ≤ 2147483000) : ∀ (r m : Nat) (s : St) (x : Int), x + 1 = r → x < n → r < m → LB (fun _ => 1) u 2 1 n σ x s →
    ∃ s2, Pool_mirrored_L10 K n m s x = K s2 ∧ LB (fun _ => 1) u 2 1 n σ (-1) s2 := by
  intro r
  induction r with
  | zero =>
    intro m s x h1 h2 h3 hL
    cases m with
    | zero => omega
    | succ m =>
    unfold Pool_mirrored_L10
    rw [if_pos (by omega)]
    have e : x = -1 := by omega
    exact ⟨s, rfl, e ▸ hL⟩
  | succ r ih =>
    intro m s x h1 h2 h3 hL
    cases m with
    | zero => omega
    | succ m =>
    have h12 := hL.2.2.2.2.2.1 x (by omega) h2 (Or.inl (Int.le_refl x))
    have hux := hu x (by omega) h2
    have hnx : nu s (σ 12 x) = u x := by rw [nu_ext hux.1 hL.2.1]; exact hux.2
    obtain ⟨y, s1, e1, hL1⟩ := hL.step (by omega) hn.2 (Or.inr rfl) (Or.inl rfl) (by decide) hfr hm rfl rfl
    obtain ⟨s2, e2, hL2⟩ := ih m _ (x - 1) (by omega) (by omega) (by omega) hL1
    refine ⟨s2, ?_, hL2⟩
    unfold Pool_mirrored_L10
    have e3 : x + -1 = x - 1 := by omega
    rw [if_neg (by omega), rd_eq (by omega), h12, Pool_numberOf_eq, bndp_eq, hnx, below_eq (Or.inr rfl) (by omega) hn.2, bndp_eq, below_eq (Or.inl rfl) (by omega) hn.2, bndp_eq, e1, bnd_eq, wr_eq (by omega), oadd_eq (by omega), e3]
    exact e2
theorem op_mirror {ρ : Int → Int → Prop} {σ τ : St} {y n : Int} (hC : Cx ρ σ τ 400) (hfu : full n) (hT : TW σ y n) (hn : 0 ≤ n ∧ n ≤ 255) (h7 : τ 3 7 = n) (hrow : ∀ x, 0 ≤ x → x < n → nu σ (sl σ y (mir x)) = τ 1 (256 * 7 + x) ∧ -999 ≤ τ 1 (256 * 7 + x) ∧ τ 1 (256 * 7 + x) ≤ 999) :
    ∃ y' σ' τ' ρ', Pool_mirrored σ y n = some (y', σ') ∧ M_built τ = some (0, τ') ∧ Sx ρ σ τ ρ' σ' τ' 255 ∧ RI ρ' σ' τ' y' n 7 ∧ Rws [7] τ τ' := by
  obtain ⟨hB, hA, hf, hs, hm⟩ := hC
  obtain ⟨τ', c1, c2, c3, c4, c5, c6⟩ := built_ex hn τ h7 ⟨hm.1, by omega⟩
  obtain ⟨σa, ea, fa, -, ga⟩ := spread_eq σ y n hn
  have ua := used_fr fa (by decide) (by decide)
  have e31 : σa 31 = σ 31 := fa 31 (by decide)
  have e32 : σa 32 = σ 32 := fa 32 (by decide)
  have hAa := hA.es (fa 10 (by decide)) (fa 30 (by decide)) (fa 31 (by decide))
  obtain ⟨s, e1, hL⟩ := mirrored_loopE (K := fun (s4 : St) => bndp (Pool_rootOf s4 n) fun v6 => some (v6, s4)) (u := fun x => nu σ (sl σ y x)) (σ := σa) hn (fun x x0 xn => by
    rw [ga x x0 xn, nu_of (fa 7 (by decide))]
    exact ⟨(ua _).mpr (hT.1 x x0 xn), rfl⟩) (by rw [e31]; omega) (by rw [e32]; omega) n.toNat FU σa (n - 1) (by omega) (by omega) (by unfold FU; omega) (LB.start hAa hn.1)
  have hL' := hL
  obtain ⟨l1, l2, l3, l4, l5, l6, l7, l8⟩ := hL'
  have ca : cn (fun _ => (1 : Int)) n.toNat = n := by rw [cn_all _ (fun _ _ _ => by decide)]; omega
  have c0 : cn (fun _ => (1 : Int)) (-1 + 1 : Int).toNat = 0 := rfl
  rw [ca, c0, e32] at l5
  rw [e31, e32] at l4
  have hE : Ext σ s := fun p hp => by
    have := l2 p ((ua p).mpr hp)
    rw [fa 7 (by decide), fa 8 (by decide), fa 9 (by decide)] at this
    exact this
  have hF : Fr FE σ s := (fa.mono (by decide)).tr (l3.mono (by decide))
  have hcnt : Cnt σ τ s τ' 255 := by unfold Cnt; omega
  have eP : Pool_mirrored σ y n = (fun (s4 : St) => bndp (Pool_rootOf s4 n) fun v6 => some (v6, s4)) s := by
    unfold Pool_mirrored
    rw [ea, bnd_eq, osub_eq (by omega), jn_eq]
    exact e1
  by_cases h0 : n = 0
  · subst h0
    obtain ⟨ρ', hX, hR⟩ := join_ex (W := fun _ => True) (t := 0) hB hm.1 l1 hE hF (c2.mono (by decide)) hcnt hn (TW.zero s) (by rw [c2 3 (by decide)]; exact h7) ⟨fun x x0 xn => by omega, fun x y x0 xy yn => by omega⟩ c5 (fun x x0 xn => by omega) (fun x x0 xn => by omega)
    refine ⟨0, s, τ', ρ', ?_, c1, hX, hR, c4⟩
    rw [eP]
    show bndp (Pool_rootOf s 0) _ = _
    unfold Pool_rootOf
    rw [if_neg (by omega), bndp_eq]
  · have q1 : ¬ ((1 : Int) = 0) := by decide
    have hml : ∀ x, 0 ≤ x → x < 511 → 0 ≤ mir x ∧ (mir x < n ↔ x < n) := fun x x0 xn => mir_lt ⟨x0, xn⟩ hfu (by omega)
    have hd := hL.done (g := mir) (t := 0) (by omega) (Or.inr (fun _ _ _ => by decide)) (fun _ _ _ _ => by decide) (by decide +kernel) (fun w w0 w1 => ⟨(mir_st ⟨w0, w1⟩).1, (mir_st ⟨w0, w1⟩).2.1⟩) (fun w w0 w1 => hml w w0 w1) (fun z _ _ q => absurd q (by decide)) (Or.inr (fun _ _ _ => by decide))
    have hmi : ∀ x y, 0 ≤ x → x < y → y < n → mir x ≠ mir y := fun x y x0 xy yn e => by
      have a := (mir_st (x := x) (by omega)).2.2
      have b := (mir_st (x := y) (by omega)).2.2
      rw [e, b] at a
      omega
    have hEN : EN (fun _ => True) σ s (s 12 0) n := ⟨fun x x0 xn _ => by
      have w := hml x x0 (by omega)
      rw [hd.2 x x0 xn]
      exact fun hu => (l7 (mir x) (by omega) (w.2.mpr xn) q1).2.1 ((ua _).mpr hu), fun x y x0 xy yn _ _ => by
      have w1 := hml x x0 (by omega)
      have w2 := hml y (by omega) (by omega)
      rw [hd.2 x x0 (by omega), hd.2 y (by omega) yn]
      have hne := hmi x y x0 xy yn
      rcases Int.lt_or_gt_of_ne hne with w | w
      · exact l8 _ _ (by omega) w (w2.2.mpr yn) q1 q1
      · exact fun e => l8 _ _ (by omega) w (w1.2.mpr (by omega)) q1 q1 e.symm⟩
    have hnum : ∀ x, 0 ≤ x → x < n → nu s (sl s (s 12 0) x) = τ' 1 (256 * 7 + x) ∧ -999 ≤ τ' 1 (256 * 7 + x) ∧ τ' 1 (256 * 7 + x) ≤ 999 := fun x x0 xn => by
      have wm := hml x x0 (by omega)
      have w := l7 (mir x) (by omega) (wm.2.mpr xn) q1
      rw [hd.2 x x0 xn, nu_used w.1, w.2.2.1, c3]
      exact hrow x x0 xn
    obtain ⟨ρ', hX, hR⟩ := join_ex (W := fun _ => True) hB hm.1 l1 hE hF (c2.mono (by decide)) hcnt hn hd.1 (by rw [c2 3 (by decide)]; exact h7) hEN c5 hnum (fun x _ _ q => absurd trivial q)
    refine ⟨s 12 0, s, τ', ρ', ?_, c1, hX, hR, c4⟩
    rw [eP]
    show bndp (Pool_rootOf s n) _ = _
    unfold Pool_rootOf
    rw [if_pos (by omega), rd_eq (by omega), bndp_eq]
theorem mirM_loop {K : St → Option (Int × St)} {n : Int} (hfu : full n) (hn : 0 ≤ n ∧ n ≤ 255) (τ : St) (h7 : τ 3 7 = n) : ∀ (r m : Nat) (s : St) (x : Int), x + r = n → 0 ≤ x → r < m → Fr [1] τ s → (∀ q, ¬ (256 * 7 ≤ q ∧ q < 256 * 7 + n) → s 1 q = τ 1 q) → (∀ z, 0 ≤ z → z < x → s 1 (256 * 7 + mir z) = τ 1 (256 * 6 + z)) →
      ∃ s2, M_mirrors_L49 K m s x = K s2 ∧ Fr [1] τ s2 ∧ (∀ q, ¬ (256 * 7 ≤ q ∧ q < 256 * 7 + n) → s2 1 q = τ 1 q) ∧ (∀ z, 0 ≤ z → z < n → s2 1 (256 * 7 + mir z) = τ 1 (256 * 6 + z)) := by
  intro r
  induction r with
  | zero =>
    intro m s x h1 h0 h2 hF hq hz
    cases m with
    | zero => omega
    | succ m =>
    have e : x = n := by omega
    subst e
    unfold M_mirrors_L49
    rw [rd_eq (by omega), hF 3 (by decide), h7, if_neg (by omega)]
    exact ⟨s, rfl, hF, hq, hz⟩
  | succ r ih =>
    intro m s x h1 h0 h2 hF hq hz
    cases m with
    | zero => omega
    | succ m =>
    have w := mir_lt (x := x) (n := n) (by omega) hfu (by omega)
    have w2 := w.2.mpr (by omega)
    have nM : M_number s 6 x = some (τ 1 (256 * 6 + x)) := by rw [M_number_eq (by omega) (by omega), hq _ (by omega)]
    obtain ⟨s2, x1, x2⟩ := ih m (us s 1 (1792 + mir x) (τ 1 (256 * 6 + x))) (x + 1) (by omega) (by omega) (by omega) (hF.us (by decide)) (fun q w => by
      rw [us_ni (by omega)]; exact hq q (by omega)) (fun z z0 zn => by
      by_cases e : z = x
      · rw [e]; exact us_eq _ _ _ _
      · have a := (mir_st (x := x) (by omega)).2.2
        have b := (mir_st (x := z) (by omega)).2.2
        have hne : mir z ≠ mir x := fun e2 => by rw [e2, a] at b; omega
        rw [us_ni (by omega)]; exact hz z z0 (by omega))
    refine ⟨s2, ?_, x2⟩
    unfold M_mirrors_L49
    rw [rd_eq (by omega), hF 3 (by decide), h7, if_pos (by omega), mir_eq (by omega), bndp_eq, oadd_eq (by omega), nM, bndp_eq, wr_eq (by omega), oadd_eq (by omega)]
    exact x1
theorem call_mirrors : HS_29 SS := by
  intro k σ τ z0 z1 hk hS i0 i1
  have hS0 := hS
  obtain ⟨⟨ρ, hW⟩, hT, hr, hn, hm⟩ := hS
  have hmc := hm.c hk
  unfold E_mirrors M_mirrors
  by_cases a : 0 ≤ z0 ∧ z0 < 6
  · have hP := hW.2.2 z0 a.1 a.2
    have s0 := hP.2.1
    have n0 := hP.1
    by_cases c : 0 ≤ z1 ∧ z1 < 6
    · by_cases d : band (σ 25 z0) (σ 25 z0 + 1) = 0
      · have hfu := band_full n0 d
        obtain ⟨σ1, ρ1, e1, hW1, hf, f1⟩ := begin_ex (hW.sc (f := 33) (v := 0) (by decide))
        have h32 : σ1 32 0 = σ 32 0 := by rw [f1 32 (by decide)]
        have h25 : σ1 25 = σ 25 := f1 25 (by decide)
        obtain ⟨τa, d1, g1, r1, t6, t7, q6, q7⟩ := asks_ex (us τ 33 0 0) z0 a (by rw [us_ne (by decide)]; omega)
        rw [us_ne (by decide), s0] at t6 t7 q6 q7
        obtain ⟨τb, d2, g2, r2, q2⟩ := mirM_loop (K := fun (s10 : St) => bnd (M_builds s10 z1) fun v12 s13 => some (v12, s13)) hfu n0 τa t7 (σ 25 z0).toNat FU τa 0 (by omega) (by omega) (by unfold FU; omega) (Fr.rf _ _) (fun _ _ => rfl) (fun z p q => by omega)
        have rb : Rws [7] τa τb := ⟨fun q hq => ⟨r2 q (by have := hq 7 (by decide); omega), by rw [g2 2 (by decide)]⟩, fun p _ => by rw [g2 3 (by decide)]⟩
        have rab : Rws [6, 7] (us τ 33 0 0) τb := r1.tr (rb.mono (by decide))
        have gab : Fr [1, 2, 3] (us τ 33 0 0) τb := g1.tr (g2.mono (by decide))
        have b30 : τb 30 0 = τ 30 0 := by rw [gab 30 (by decide), us_ne (by decide)]
        have hWb : Wd ρ1 σ1 τb := hW1.mv (m := []) (Fr.rf _ _) (by decide) rab (by decide) (by rw [gab 30 (by decide)])
        have hC : Cx ρ1 σ1 τb 400 := ⟨hWb.1, hWb.2.1, by omega, by omega, by omega⟩
        have hP1 := hW1.2.2 z0 a.1 a.2
        rw [h25] at hP1
        have hb7 : τb 3 7 = σ 25 z0 := by rw [g2 3 (by decide)]; exact t7
        obtain ⟨y, σ3, τ3, ρ3, e4, e5, hX, hI, r3⟩ := op_mirror hC hfu hP1.2.2.1 n0 hb7 (fun x x0 xn => by
          have w := mir_lt (x := x) (n := σ 25 z0) (by omega) hfu (by omega)
          have w2 := w.2.mpr xn
          have m2 := (mir_st (x := x) (by omega)).2.2
          have q3 := q2 (mir x) w.1 w2
          rw [m2] at q3
          rw [q3, (q6 (mir x) w.1 w2).1]
          exact hP1.num ⟨w.1, w2⟩)
        obtain ⟨σ4, τ4, e7, e8, hW4, f4, g4, r4, s4⟩ := keep_ends hWb hX r3 (by decide) (w := 7) (by omega) hI c
        have hcn := hX.cnt
        have x1 : σ4 32 0 = σ3 32 0 := by rw [f4 32 (by decide)]
        have x2 : τ4 30 0 = τ3 30 0 := by rw [g4 30 (by decide)]
        have q3 : σ3 25 z0 = σ 25 z0 := by rw [hX.2.2.2.2.2.1 25 (by decide), h25]
        have q1 : σ1 25 z0 = σ 25 z0 := by rw [h25]
        rw [← q3] at e7
        rw [← q1] at e4
        have eb : M_builds τb z1 = some (σ 25 z0, τ4) := by
          unfold M_builds
          rw [e5, bnd_eq, e8, bnd_eq, rd_eq (by omega), s4]
        refine ⟨σ 25 z0, σ4, τ4, ?_, ?_, hS0.fin hW4 ((f1.mono (by decide)).tr ((hX.2.2.2.2.2.1.mono (by decide)).tr (f4.mono (by decide)))) (((fr_sc [33] τ 33 0 (by decide)).mono (by decide)).tr ((gab.mono (by decide)).tr ((hX.2.2.2.2.2.2.1.mono (by decide)).tr (g4.mono (by decide))))) (by omega) (by omega)⟩
        · simp (disch := omega) only [↓jn_e, ↓ite_y, ↓ite_n, ↓oadd_eq, ↓osub_eq, ↓omul_eq, ↓odiv_eq, ↓orem_eq, ↓rd_eq, ↓wr_eq, ↓gf_e, ↓pf_e, ↓bnd_e, ↓bndp_e, ↓opure_e, ↓oif_t, ↓oif_f, ↓E_isPlace_y, ↓E_isPlace_n, ↓E_isNumber_y, ↓E_isNumber_n, ↓M_isPlace_y, ↓M_isPlace_n, ↓M_isNumber_y, ↓M_isNumber_n, ↓M_in_y, ↓M_in_n, ↓us_ne, ↓e1, ↓e4, ↓e7]
          rw [q3]
        · rw [pf_eq, M_isPlace_y a, bndp_eq, if_neg (by decide), M_isPlace_y c, bndp_eq, if_neg (by decide), rd_eq (by omega), rd_eq (by omega), us_ne (by decide), s0, oadd_eq (by omega), opure_eq, if_pos d, d1, bnd_eq, jn_eq]
          refine d2.trans ?_
          simp (disch := omega) only [↓jn_e, ↓ite_y, ↓ite_n, ↓oadd_eq, ↓osub_eq, ↓omul_eq, ↓odiv_eq, ↓orem_eq, ↓rd_eq, ↓wr_eq, ↓gf_e, ↓pf_e, ↓bnd_e, ↓bndp_e, ↓opure_e, ↓oif_t, ↓oif_f, ↓E_isPlace_y, ↓E_isPlace_n, ↓E_isNumber_y, ↓E_isNumber_n, ↓M_isPlace_y, ↓M_isPlace_n, ↓M_isNumber_y, ↓M_isNumber_n, ↓M_in_y, ↓M_in_n, ↓us_ne, ↓eb]
      · refine ⟨-2, σ, us τ 33 0 0, ?_, ?_, hS0.thr⟩
        · simp (disch := omega) only [↓jn_e, ↓ite_y, ↓ite_n, ↓oadd_eq, ↓osub_eq, ↓omul_eq, ↓odiv_eq, ↓orem_eq, ↓rd_eq, ↓wr_eq, ↓gf_e, ↓pf_e, ↓bnd_e, ↓bndp_e, ↓opure_e, ↓oif_t, ↓oif_f, ↓E_isPlace_y, ↓E_isPlace_n, ↓E_isNumber_y, ↓E_isNumber_n, ↓M_isPlace_y, ↓M_isPlace_n, ↓M_isNumber_y, ↓M_isNumber_n, ↓M_in_y, ↓M_in_n, ↓us_ne]
        · simp (disch := omega) only [↓jn_e, ↓ite_y, ↓ite_n, ↓oadd_eq, ↓osub_eq, ↓omul_eq, ↓odiv_eq, ↓orem_eq, ↓rd_eq, ↓wr_eq, ↓gf_e, ↓pf_e, ↓bnd_e, ↓bndp_e, ↓opure_e, ↓oif_t, ↓oif_f, ↓E_isPlace_y, ↓E_isPlace_n, ↓E_isNumber_y, ↓E_isNumber_n, ↓M_isPlace_y, ↓M_isPlace_n, ↓M_isNumber_y, ↓M_isNumber_n, ↓M_in_y, ↓M_in_n, ↓us_ne, s0]
    · refine ⟨-1, σ, us τ 33 0 0, ?_, ?_, hS0.thr⟩
      · simp (disch := omega) only [↓jn_e, ↓ite_y, ↓ite_n, ↓oadd_eq, ↓osub_eq, ↓omul_eq, ↓odiv_eq, ↓orem_eq, ↓rd_eq, ↓wr_eq, ↓gf_e, ↓pf_e, ↓bnd_e, ↓bndp_e, ↓opure_e, ↓oif_t, ↓oif_f, ↓E_isPlace_y, ↓E_isPlace_n, ↓E_isNumber_y, ↓E_isNumber_n, ↓M_isPlace_y, ↓M_isPlace_n, ↓M_isNumber_y, ↓M_isNumber_n, ↓M_in_y, ↓M_in_n, ↓us_ne]
      · simp (disch := omega) only [↓jn_e, ↓ite_y, ↓ite_n, ↓oadd_eq, ↓osub_eq, ↓omul_eq, ↓odiv_eq, ↓orem_eq, ↓rd_eq, ↓wr_eq, ↓gf_e, ↓pf_e, ↓bnd_e, ↓bndp_e, ↓opure_e, ↓oif_t, ↓oif_f, ↓E_isPlace_y, ↓E_isPlace_n, ↓E_isNumber_y, ↓E_isNumber_n, ↓M_isPlace_y, ↓M_isPlace_n, ↓M_isNumber_y, ↓M_isNumber_n, ↓M_in_y, ↓M_in_n, ↓us_ne]
  · refine ⟨-1, σ, us τ 33 0 0, ?_, ?_, hS0.thr⟩
    · simp (disch := omega) only [↓jn_e, ↓ite_y, ↓ite_n, ↓oadd_eq, ↓osub_eq, ↓omul_eq, ↓odiv_eq, ↓orem_eq, ↓rd_eq, ↓wr_eq, ↓gf_e, ↓pf_e, ↓bnd_e, ↓bndp_e, ↓opure_e, ↓oif_t, ↓oif_f, ↓E_isPlace_y, ↓E_isPlace_n, ↓E_isNumber_y, ↓E_isNumber_n, ↓M_isPlace_y, ↓M_isPlace_n, ↓M_isNumber_y, ↓M_isNumber_n, ↓M_in_y, ↓M_in_n, ↓us_ne]
    · simp (disch := omega) only [↓jn_e, ↓ite_y, ↓ite_n, ↓oadd_eq, ↓osub_eq, ↓omul_eq, ↓odiv_eq, ↓orem_eq, ↓rd_eq, ↓wr_eq, ↓gf_e, ↓pf_e, ↓bnd_e, ↓bndp_e, ↓opure_e, ↓oif_t, ↓oif_f, ↓E_isPlace_y, ↓E_isPlace_n, ↓E_isNumber_y, ↓E_isNumber_n, ↓M_isPlace_y, ↓M_isPlace_n, ↓M_isNumber_y, ↓M_isNumber_n, ↓M_in_y, ↓M_in_n, ↓us_ne]
theorem differs_loop {K : St → Int → Option (Int × St)} {i j n : Int} (hn : 0 ≤ n ∧ n ≤ 255) (hi : 0 ≤ i ∧ i < 6) (hj : 0 ≤ j ∧ j < 6) (τ : St) (h3 : τ 3 i = n) : ∀ (r m : Nat) (s : St) (c x : Int), x + r = n → 0 ≤ x → r < m → Fr [6, 7, 35, 36] τ s → bits01 (s 7) → c = cn (fun y => τ 1 (256 * i + y) - τ 1 (256 * j + y)) x.toNat → (∀ z, 0 ≤ z → z < 256 → (s 7 z = 1 ↔ ∃ y, 0 ≤ y ∧ y < x ∧ τ 1 (256 * i + y) ≠ τ 1 (256 * j + y) ∧ onW y z)) →
    ∃ s2, M_differs_L48 K i j m s c x = K s2 (cn (fun y => τ 1 (256 * i + y) - τ 1 (256 * j + y)) n.toNat) ∧ Fr [6, 7, 35, 36] τ s2 ∧ bits01 (s2 7) ∧ (∀ z, 0 ≤ z → z < 256 → (s2 7 z = 1 ↔ ∃ y, 0 ≤ y ∧ y < n ∧ τ 1 (256 * i + y) ≠ τ 1 (256 * j + y) ∧ onW y z)) := by
  intro r
  induction r with
  | zero =>
    intro m s c x h1 h0 h2 hF hE hc hz
    cases m with
    | zero => omega
    | succ m =>
    have e : x = n := by omega
    subst e
    unfold M_differs_L48
    rw [rd_eq (by omega), hF 3 (by decide), h3, if_neg (by omega), hc]
    exact ⟨s, rfl, hF, hE, hz⟩
  | succ r ih =>
    intro m s c x h1 h0 h2 hF hE hc hz
    cases m with
    | zero => omega
    | succ m =>
    have e1 : s 1 = τ 1 := hF 1 (by decide)
    have e3 : s 3 i = n := by rw [hF 3 (by decide)]; exact h3
    have ni : M_number s i x = some (τ 1 (256 * i + x)) := by rw [M_number_eq (by omega) (by omega), e1]
    have nj : M_number s j x = some (τ 1 (256 * j + x)) := by rw [M_number_eq (by omega) (by omega), e1]
    have cs := cn_step (fun y => τ 1 (256 * i + y) - τ 1 (256 * j + y)) h0
    have cr := cn_rng (fun y => τ 1 (256 * i + y) - τ 1 (256 * j + y)) x.toNat
    by_cases q : τ 1 (256 * i + x) = τ 1 (256 * j + x)
    · rw [if_pos (by omega)] at cs
      obtain ⟨s2, x1, x2⟩ := ih m s c (x + 1) (by omega) (by omega) (by omega) hF hE (by omega) (fun z z0 zn => by
        rw [hz z z0 zn]
        exact ⟨fun ⟨y, y0, y1, y2, y3⟩ => ⟨y, y0, by omega, y2, y3⟩, fun ⟨y, y0, y1, y2, y3⟩ => ⟨y, y0, by
          have : y ≠ x := fun e => y2 (by rw [e]; exact q)
          omega, y2, y3⟩⟩)
      refine ⟨s2, ?_, x2⟩
      conv => lhs; unfold M_differs_L48
      simp (disch := omega) only [↓jn_e, ↓ite_y, ↓ite_n, ↓oadd_eq, ↓osub_eq, ↓omul_eq, ↓odiv_eq, ↓orem_eq, ↓rd_eq, ↓wr_eq, ↓gf_e, ↓pf_e, ↓bnd_e, ↓bndp_e, ↓opure_e, ↓oif_t, ↓oif_f, ↓E_isPlace_y, ↓E_isPlace_n, ↓E_isNumber_y, ↓E_isNumber_n, ↓M_isPlace_y, ↓M_isPlace_n, ↓M_isNumber_y, ↓M_isNumber_n, ↓M_in_y, ↓M_in_n, ↓us_ne, e3, ↓ni, ↓nj]
      exact x1
    · rw [if_neg (by omega)] at cs
      obtain ⟨s1, e9, f1, b1, z1⟩ := marks_ex (i := x) (it := 1) (by omega) (Or.inr rfl) s hE
      obtain ⟨s2, x1, x2⟩ := ih m s1 (c + 1) (x + 1) (by omega) (by omega) (by omega) (hF.tr f1) b1 (by omega) (fun z z0 zn => by
        rw [z1 z z0 zn, hz z z0 zn]
        constructor
        · rintro (⟨y, y0, y1, y2, y3⟩ | w)
          · exact ⟨y, y0, by omega, y2, y3⟩
          · exact ⟨x, h0, by omega, q, w.1⟩
        · rintro ⟨y, y0, y1, y2, y3⟩
          by_cases e : y = x
          · right; rw [e] at y3; exact ⟨y3, Or.inl rfl⟩
          · exact Or.inl ⟨y, y0, by omega, y2, y3⟩)
      refine ⟨s2, ?_, x2⟩
      conv => lhs; unfold M_differs_L48
      simp (disch := omega) only [↓jn_e, ↓ite_y, ↓ite_n, ↓oadd_eq, ↓osub_eq, ↓omul_eq, ↓odiv_eq, ↓orem_eq, ↓rd_eq, ↓wr_eq, ↓gf_e, ↓pf_e, ↓bnd_e, ↓bndp_e, ↓opure_e, ↓oif_t, ↓oif_f, ↓E_isPlace_y, ↓E_isPlace_n, ↓E_isNumber_y, ↓E_isNumber_n, ↓M_isPlace_y, ↓M_isPlace_n, ↓M_isNumber_y, ↓M_isNumber_n, ↓M_in_y, ↓M_in_n, ↓us_ne, e3, ↓ni, ↓nj, ↓e9]
      exact x1
theorem markedMany_loop (τ : St) : ∀ (r m : Nat) (c x : Int), x + r = 256 → 0 ≤ x → r < m → c = cn (τ 7) x.toNat → M_markedMany_L4 τ m c x = some (cn (τ 7) 256) := by
  intro r
  induction r with
  | zero =>
    intro m c x h1 h0 h2 hc
    cases m with
    | zero => omega
    | succ m =>
    have e : x = 256 := by omega
    subst e
    unfold M_markedMany_L4
    rw [if_pos (by omega), hc]
    rfl
  | succ r ih =>
    intro m c x h1 h0 h2 hc
    cases m with
    | zero => omega
    | succ m =>
    have cs := cn_step (τ 7) h0
    have cr := cn_rng (τ 7) x.toNat
    unfold M_markedMany_L4
    rw [if_neg (by omega), rd_eq (by omega)]
    by_cases q : τ 7 x = 0
    · rw [if_pos q] at cs
      rw [oif_t q (by omega), oadd_eq (by omega), oadd_eq (by omega)]
      exact ih m _ (x + 1) (by omega) (by omega) (by omega) (by omega)
    · rw [if_neg q] at cs
      rw [oif_f q (by omega), oadd_eq (by omega), oadd_eq (by omega)]
      exact ih m _ (x + 1) (by omega) (by omega) (by omega) (by omega)
theorem markedMany_eq (τ : St) : M_markedMany τ = some (cn (τ 7) 256) :=
  markedMany_loop τ 256 FU 0 0 (by omega) (by omega) (by unfold FU; omega) rfl
/-- as many are marked on both sides -/
theorem marked_alike {σ τ : St} {P : Int → Prop} (hE : Eb σ) (h1 : ∀ x, 0 ≤ x → x < 255 → (σ 23 x = 1 ↔ P x)) (hb : bits01 (τ 7)) (h2 : ∀ x, 0 ≤ x → x < 256 → (τ 7 x = 1 ↔ P x)) (hP : ¬ P 255) : cn (τ 7) 256 = σ 44 0 := by
  have z : τ 7 255 = 0 := by
    rcases hb 255 (by omega) (by omega) with w | w
    · exact w
    · exact absurd ((h2 255 (by omega) (by omega)).mp w) hP
  have e1 : cn (τ 7) (255 + 1) = cn (τ 7) 255 := cn_cut (f := τ 7) (m := 255) 1 (fun x a b => by
    have : x = 255 := by omega
    rw [this]; exact z)
  rw [hE.2.2]
  refine e1.trans (cn_ext 255 (fun x a b => ?_))
  have c1 := h1 x a (by omega)
  have c2 := h2 x a (by omega)
  have d1 := hE.1 x a (by omega)
  have d2 := hb x a (by omega)
  constructor
  · intro w
    rcases d1 with d1 | d1
    · exact d1
    · have := c2.mpr (c1.mp d1); omega
  · intro w
    rcases d2 with d2 | d2
    · exact d2
    · have := c1.mpr (c2.mp d2); omega
theorem call_differs : HS_41 SS := by
  intro k σ τ z0 z1 hk hS i0 i1
  have hS0 := hS
  obtain ⟨⟨ρ, hW⟩, hT, hr, hn, hm⟩ := hS
  unfold E_differs M_differs
  by_cases a : 0 ≤ z0 ∧ z0 < 6
  · have hP := hW.2.2 z0 a.1 a.2
    have s0 := hP.2.1
    have n0 := hP.1
    by_cases b : 0 ≤ z1 ∧ z1 < 6
    · have hQ := hW.2.2 z1 b.1 b.2
      have s1 := hQ.2.1
      have n1 := hQ.1
      by_cases c : σ 25 z0 = σ 25 z1
      · obtain ⟨s5, e5, f5, c5, d5⟩ := readBoth_ex (σ := σ) a b n0 n1
        have q25 : s5 25 z0 = σ 25 z0 := by rw [f5 25 (by decide)]
        obtain ⟨s7, e7, f7, b7, m7⟩ := markUnlike_ex (n := s5 25 z0) (by omega) s5
        rw [q25] at m7
        obtain ⟨τa, ea, fa, za⟩ := clearsNew_ex (us τ 33 0 0)
        have ta3 : τa 3 z0 = σ 25 z0 := by rw [fa 3 (by decide), us_ne (by decide)]; exact s0
        have ta1 : τa 1 = τ 1 := by rw [fa 1 (by decide)]; exact us_f (by decide)
        have cE : cn (fun y => s5 26 y - s5 27 y) (s5 25 z0).toNat = cn (fun y => τa 1 (256 * z0 + y) - τa 1 (256 * z1 + y)) (σ 25 z0).toNat := by
          rw [q25]
          refine cn_ext _ (fun x p q => ?_)
          have x1 := (hP.num (x := x) ⟨p, by omega⟩).1
          have x2 := (hQ.num (x := x) ⟨p, by omega⟩).1
          rw [c5 x p (by omega), d5 x p (by omega), x1, x2, ta1]
        obtain ⟨τb, d1, g1, b1, m1⟩ := differs_loop (K := fun (s8 : St) (x9 : Int) => pf s8 32 0 fun s11 => bnd (M_tell s11 x9) fun _ s13 => bndp (M_markedMany s13) fun v14 => some (v14, s13)) n0 a b τa ta3 (σ 25 z0).toNat FU τa 0 0 (by omega) (by omega) (by unfold FU; omega) (Fr.rf _ _) (fun x p q => Or.inl (za x p q)) rfl (fun z p q => ⟨fun w => by rw [za z p q] at w; omega, fun ⟨y, y0, y1, _⟩ => by omega⟩)
        have cr := cn_rng (fun y => s5 26 y - s5 27 y) (s5 25 z0).toNat
        obtain ⟨σt, τt, t1, t2, t3, t4, t5, -⟩ := tells1 s7 τb (a := cn (fun y => s5 26 y - s5 27 y) (s5 25 z0).toNat) (by omega)
        have hal : cn (τb 7) 256 = s7 44 0 := marked_alike (P := fun z => ∃ y, 0 ≤ y ∧ y < σ 25 z0 ∧ s5 26 y ≠ s5 27 y ∧ onW y z) b7 m7 b1 (fun x p q => by
          rw [m1 x p q]
          constructor
          · rintro ⟨y, y0, y1, y2, y3⟩
            refine ⟨y, y0, y1, ?_, y3⟩
            rw [c5 y y0 y1, d5 y y0 (by omega), (hP.num ⟨y0, y1⟩).1, (hQ.num ⟨y0, by omega⟩).1]
            rw [ta1] at y2; exact y2
          · rintro ⟨y, y0, y1, y2, y3⟩
            refine ⟨y, y0, y1, ?_, y3⟩
            rw [c5 y y0 y1, d5 y y0 (by omega), (hP.num ⟨y0, y1⟩).1, (hQ.num ⟨y0, by omega⟩).1] at y2
            rw [ta1]; exact y2) (fun ⟨y, y0, y1, _, y3⟩ => by
          have := onW_rng (i := y) (by omega) y3
          omega)
        have eM := markedMany_eq τt
        have e77 : τt 7 = τb 7 := t5 7 (by decide)
        have e44 : σt 44 0 = s7 44 0 := by rw [t4 44 (by decide)]
        rw [e77, hal] at eM
        rw [← cE] at d1
        refine ⟨s7 44 0, σt, τt, ?_, ?_, hS0.ask ((f5.mono (by decide)).tr ((f7.mono (by decide)).tr (t4.mono (by decide)))) (((fr_sc [33] τ 33 0 (by decide)).mono (by decide)).tr ((fa.mono (by decide)).tr ((g1.mono (by decide)).tr (t5.mono (by decide))))) ((Rws.fr (fr_sc [33] _ _ _ (by decide)) (by decide) (by decide) (by decide) _).tr ((Rws.fr fa (by decide) (by decide) (by decide) _).tr ((Rws.fr g1 (by decide) (by decide) (by decide) _).tr (Rws.fr t5 (by decide) (by decide) (by decide) _)))) t3⟩
        · simp (disch := omega) only [↓jn_e, ↓ite_y, ↓ite_n, ↓oadd_eq, ↓osub_eq, ↓omul_eq, ↓odiv_eq, ↓orem_eq, ↓rd_eq, ↓wr_eq, ↓gf_e, ↓pf_e, ↓bnd_e, ↓bndp_e, ↓opure_e, ↓oif_t, ↓oif_f, ↓E_isPlace_y, ↓E_isPlace_n, ↓E_isNumber_y, ↓E_isNumber_n, ↓M_isPlace_y, ↓M_isPlace_n, ↓M_isNumber_y, ↓M_isNumber_n, ↓M_in_y, ↓M_in_n, ↓us_ne, ↓e5, ↓e7, ↓t1]
          rw [e44]
        · rw [pf_eq, M_isPlace_y a, bndp_eq, if_neg (by decide), M_isPlace_y b, bndp_eq, if_neg (by decide), rd_eq (by omega), rd_eq (by omega), us_ne (by decide), us_ne (by decide), s0, s1, if_pos c, ea, bnd_eq, jn_eq]
          refine d1.trans ?_
          simp (disch := omega) only [↓jn_e, ↓ite_y, ↓ite_n, ↓oadd_eq, ↓osub_eq, ↓omul_eq, ↓odiv_eq, ↓orem_eq, ↓rd_eq, ↓wr_eq, ↓gf_e, ↓pf_e, ↓bnd_e, ↓bndp_e, ↓opure_e, ↓oif_t, ↓oif_f, ↓E_isPlace_y, ↓E_isPlace_n, ↓E_isNumber_y, ↓E_isNumber_n, ↓M_isPlace_y, ↓M_isPlace_n, ↓M_isNumber_y, ↓M_isNumber_n, ↓M_in_y, ↓M_in_n, ↓us_ne, ↓t2, ↓eM]
      · refine ⟨-2, σ, us τ 33 0 0, ?_, ?_, hS0.thr⟩
        · simp (disch := omega) only [↓jn_e, ↓ite_y, ↓ite_n, ↓oadd_eq, ↓osub_eq, ↓omul_eq, ↓odiv_eq, ↓orem_eq, ↓rd_eq, ↓wr_eq, ↓gf_e, ↓pf_e, ↓bnd_e, ↓bndp_e, ↓opure_e, ↓oif_t, ↓oif_f, ↓E_isPlace_y, ↓E_isPlace_n, ↓E_isNumber_y, ↓E_isNumber_n, ↓M_isPlace_y, ↓M_isPlace_n, ↓M_isNumber_y, ↓M_isNumber_n, ↓M_in_y, ↓M_in_n, ↓us_ne]
        · simp (disch := omega) only [↓jn_e, ↓ite_y, ↓ite_n, ↓oadd_eq, ↓osub_eq, ↓omul_eq, ↓odiv_eq, ↓orem_eq, ↓rd_eq, ↓wr_eq, ↓gf_e, ↓pf_e, ↓bnd_e, ↓bndp_e, ↓opure_e, ↓oif_t, ↓oif_f, ↓E_isPlace_y, ↓E_isPlace_n, ↓E_isNumber_y, ↓E_isNumber_n, ↓M_isPlace_y, ↓M_isPlace_n, ↓M_isNumber_y, ↓M_isNumber_n, ↓M_in_y, ↓M_in_n, ↓us_ne]
    · refine ⟨-1, σ, us τ 33 0 0, ?_, ?_, hS0.thr⟩
      · simp (disch := omega) only [↓jn_e, ↓ite_y, ↓ite_n, ↓oadd_eq, ↓osub_eq, ↓omul_eq, ↓odiv_eq, ↓orem_eq, ↓rd_eq, ↓wr_eq, ↓gf_e, ↓pf_e, ↓bnd_e, ↓bndp_e, ↓opure_e, ↓oif_t, ↓oif_f, ↓E_isPlace_y, ↓E_isPlace_n, ↓E_isNumber_y, ↓E_isNumber_n, ↓M_isPlace_y, ↓M_isPlace_n, ↓M_isNumber_y, ↓M_isNumber_n, ↓M_in_y, ↓M_in_n, ↓us_ne]
      · simp (disch := omega) only [↓jn_e, ↓ite_y, ↓ite_n, ↓oadd_eq, ↓osub_eq, ↓omul_eq, ↓odiv_eq, ↓orem_eq, ↓rd_eq, ↓wr_eq, ↓gf_e, ↓pf_e, ↓bnd_e, ↓bndp_e, ↓opure_e, ↓oif_t, ↓oif_f, ↓E_isPlace_y, ↓E_isPlace_n, ↓E_isNumber_y, ↓E_isNumber_n, ↓M_isPlace_y, ↓M_isPlace_n, ↓M_isNumber_y, ↓M_isNumber_n, ↓M_in_y, ↓M_in_n, ↓us_ne]
  · refine ⟨-1, σ, us τ 33 0 0, ?_, ?_, hS0.thr⟩
    · simp (disch := omega) only [↓jn_e, ↓ite_y, ↓ite_n, ↓oadd_eq, ↓osub_eq, ↓omul_eq, ↓odiv_eq, ↓orem_eq, ↓rd_eq, ↓wr_eq, ↓gf_e, ↓pf_e, ↓bnd_e, ↓bndp_e, ↓opure_e, ↓oif_t, ↓oif_f, ↓E_isPlace_y, ↓E_isPlace_n, ↓E_isNumber_y, ↓E_isNumber_n, ↓M_isPlace_y, ↓M_isPlace_n, ↓M_isNumber_y, ↓M_isNumber_n, ↓M_in_y, ↓M_in_n, ↓us_ne]
    · simp (disch := omega) only [↓jn_e, ↓ite_y, ↓ite_n, ↓oadd_eq, ↓osub_eq, ↓omul_eq, ↓odiv_eq, ↓orem_eq, ↓rd_eq, ↓wr_eq, ↓gf_e, ↓pf_e, ↓bnd_e, ↓bndp_e, ↓opure_e, ↓oif_t, ↓oif_f, ↓E_isPlace_y, ↓E_isPlace_n, ↓E_isNumber_y, ↓E_isNumber_n, ↓M_isPlace_y, ↓M_isPlace_n, ↓M_isNumber_y, ↓M_isNumber_n, ↓M_in_y, ↓M_in_n, ↓us_ne]

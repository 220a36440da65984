-- MATH 17: sides, roots, pop
theorem isEven_y {a b : Int} (h : a = b ∨ a = b + 1) (hb : 0 ≤ b ∧ b ≤ 255) : Shape_isEven a b = some 1 := by
  unfold Shape_isEven
  by_cases e : a = b
  · simp (disch := omega) only [↓jn_e, ↓ite_y, ↓ite_n, ↓oadd_eq, ↓osub_eq, ↓omul_eq, ↓odiv_eq, ↓orem_eq, ↓rd_eq, ↓wr_eq, ↓gf_e, ↓pf_e, ↓bnd_e, ↓bndp_e, ↓opure_e, ↓oif_t, ↓oif_f, ↓E_isPlace_y, ↓E_isPlace_n, ↓E_isNumber_y, ↓E_isNumber_n, ↓M_isPlace_y, ↓M_isPlace_n, ↓M_isNumber_y, ↓M_isNumber_n, ↓M_in_y, ↓M_in_n, ↓us_ne]
  · simp (disch := omega) only [↓jn_e, ↓ite_y, ↓ite_n, ↓oadd_eq, ↓osub_eq, ↓omul_eq, ↓odiv_eq, ↓orem_eq, ↓rd_eq, ↓wr_eq, ↓gf_e, ↓pf_e, ↓bnd_e, ↓bndp_e, ↓opure_e, ↓oif_t, ↓oif_f, ↓E_isPlace_y, ↓E_isPlace_n, ↓E_isNumber_y, ↓E_isNumber_n, ↓M_isPlace_y, ↓M_isPlace_n, ↓M_isNumber_y, ↓M_isNumber_n, ↓M_in_y, ↓M_in_n, ↓us_ne]
theorem isEven_n {a b : Int} (h : ¬ (a = b ∨ a = b + 1)) (hb : 0 ≤ b ∧ b ≤ 255) : Shape_isEven a b = some 0 := by
  unfold Shape_isEven
  simp (disch := omega) only [↓jn_e, ↓ite_y, ↓ite_n, ↓oadd_eq, ↓osub_eq, ↓omul_eq, ↓odiv_eq, ↓orem_eq, ↓rd_eq, ↓wr_eq, ↓gf_e, ↓pf_e, ↓bnd_e, ↓bndp_e, ↓opure_e, ↓oif_t, ↓oif_f, ↓E_isPlace_y, ↓E_isPlace_n, ↓E_isNumber_y, ↓E_isNumber_n, ↓M_isPlace_y, ↓M_isPlace_n, ↓M_isNumber_y, ↓M_isNumber_n, ↓M_in_y, ↓M_in_n, ↓us_ne]
theorem joins_ex {ρ : Int → Int → Prop} {σ τ : St} {tl nl tr nr v l r to : Int} (hC : Cx ρ σ τ 1) (hl : RI ρ σ τ tl nl l) (hr : RI ρ σ τ tr nr r) (hsz : nl = nr ∨ nl = nr + 1) (hm : nl + nr + 1 ≤ 256) (ht : 0 ≤ to ∧ to ≤ 9) (hl9 : 0 ≤ l ∧ l ≤ 9) (hr9 : 0 ≤ r ∧ r ≤ 9) (hlt : l ≠ to) (hrt : r ≠ to) (hv : -999 ≤ v ∧ v ≤ 999) :
    ∃ y σ' τ' ρ', Pool_make σ v tl tr = some (y, σ') ∧ M_joins τ to v l r = some (0, τ') ∧ Sx ρ σ τ ρ' σ' τ' 1 ∧ (nl + nr + 1 ≤ 255 → RI ρ' σ' τ' y (1 + nl + nr) to) ∧ Rws [to] τ τ' := by
  obtain ⟨hB, hA, hf, hs, hmm⟩ := hC
  have nl0 := hl.1
  have nr0 := hr.1
  have sl0 := hl.2.1
  have sr0 := hr.2.1
  obtain ⟨τ1, e0, f1, h31, h1v, h1n, h1q⟩ := makes_ex (τ := τ) (r := to) (a := 0) (v := v) ht (by omega) (by omega)
  obtain ⟨τ2, e2, f2, c2, k2⟩ := M_shares_eq τ1 l 0 1 nl to 1 2 hl9 ht hlt (by omega) (by omega) (by omega) (by omega) (by omega) (fun k a b => by omega) (fun k a b => by omega)
  obtain ⟨τ3, e3, f3, c3, k3⟩ := M_shares_eq τ2 r 0 1 nr to 2 2 hr9 ht hrt (by omega) (by omega) (by omega) (by omega) (by omega) (fun k a b => by omega) (fun k a b => by omega)
  obtain ⟨y, σ1, e1, hM⟩ := make_eq σ v tl tr hA (by omega) (by omega)
  have fa : Fr [1, 2, 30] τ τ3 := f1.tr ((f2.mono (by decide)).tr (f3.mono (by decide)))
  have h3t : ∀ p, τ3 3 p = τ 3 p := fun p => by rw [fa 3 (by decide)]
  have h1t : ∀ p, τ1 3 p = τ 3 p := fun p => by rw [f1 3 (by decide)]
  have h2t : ∀ p, τ2 3 p = τ 3 p := fun p => by rw [f2 3 (by decide), f1 3 (by decide)]
  have q1l := h1t l
  have q2r := h2t r
  have q3l := h3t l
  have q3r := h3t r
  -- rows l, r as before
  have rl : ∀ x, 0 ≤ x → x < nl → τ1 1 (256 * l + x) = τ 1 (256 * l + x) ∧ τ1 2 (256 * l + x) = τ 2 (256 * l + x) := fun x x0 xn => h1q _ (by omega)
  have rr : ∀ x, 0 ≤ x → x < nr → τ2 1 (256 * r + x) = τ 1 (256 * r + x) ∧ τ2 2 (256 * r + x) = τ 2 (256 * r + x) := fun x x0 xn => by
    have a := k2 (256 * r + x) (fun k k0 kn => by omega)
    have b := h1q (256 * r + x) (by omega)
    exact ⟨a.1.trans b.1, a.2.trans b.2⟩
  have k30 := k3 (256 * to + 0) (fun k k0 kn => by omega)
  have k20 := k2 (256 * to + 0) (fun k k0 kn => by omega)
  obtain ⟨ρ2, q1, q2, q3⟩ := fin_node (g := vw to 0 1) (τ2 := τ3) hB (Sx.rf (hB.mono (τ' := τ1) (by omega)) hA (((f2.tr f3).mono (by decide)) : Fr FM τ1 τ3) (by rw [f3 30 (by decide), f2 30 (by decide)])) h31 (by omega) (f1.mono (by decide)) hM hl.2.2.1 hr.2.2.1 (by omega) hsz hv
    (by rw [vw1, k30.1, k20.1, h1v]) (by rw [vw1, k30.2, k20.2, h1n, h31])
    (fun x x0 xn => by
      have c := hl.2.2.2 x x0 xn
      have d := c2 x x0 xn
      have e := k3 (256 * to + 1 + 2 * x) (fun k k0 kn => by omega)
      have f := rl x x0 xn
      have i1 : vw to 0 1 (2 * x + 1) = 256 * to + 1 + 2 * x := by rw [vw1]; omega
      have i2 : 256 * l + 0 + 1 * x = 256 * l + x := by omega
      rw [i2] at d
      rw [vw1] at c
      dsimp only
      rw [i1, e.1, e.2, d.1, d.2, f.1, f.2]
      exact c)
    (fun x x0 xn => by
      have c := hr.2.2.2 x x0 xn
      have d := c3 x x0 xn
      have f := rr x x0 xn
      have i1 : vw to 0 1 (2 * x + 2) = 256 * to + 2 + 2 * x := by rw [vw1]; omega
      have i2 : 256 * r + 0 + 1 * x = 256 * r + x := by omega
      rw [i2] at d
      rw [vw1] at c
      dsimp only
      rw [i1, d.1, d.2, f.1, f.2]
      exact c)
  have en : nl + nr + 1 = 1 + nl + nr := by omega
  rw [en] at q2 q3
  have f4 : Fr FM τ3 (us τ3 3 to (1 + nl + nr)) := (Fr.rf _ _).us (by decide)
  refine ⟨y, σ1, us τ3 3 to (1 + nl + nr), ρ2, e1, ?_, (q1.post f4 (us_ne (by decide))).le (by omega), fun hle => ⟨by omega, us_eq _ _ _ _, q2, ?_⟩, ⟨fun q hq => ?_, fun p hp => ?_⟩⟩
  · unfold M_joins
    rw [e0, bnd_eq, rd_eq (by omega), q1l, sl0, e2, bnd_eq, rd_eq (by omega), q2r, sr0, e3, bnd_eq, rd_eq (by omega), q3l, sl0, oadd_eq (by omega), rd_eq (by omega), q3r, sr0, oadd_eq (by omega), wr_eq (by omega)]
  · exact Co.stp (g := vw to 0 1) q3 q2 (by omega) (fun _ _ q => q) (Ext.rf σ1) (fun x x0 xn => ⟨us_ne (by decide), us_ne (by decide)⟩)
  · rw [us_ne (by decide), us_ne (by decide)]
    have hq0 := hq to (List.mem_singleton.mpr rfl)
    have a := k3 q (fun k k0 kn => by omega)
    have b := k2 q (fun k k0 kn => by omega)
    have c := h1q q (by omega)
    exact ⟨a.1.trans (b.1.trans c.1), a.2.trans (b.2.trans c.2)⟩
  · rw [us_ni (fun e => hp (by rw [e]; exact List.mem_singleton.mpr rfl)), h3t]
theorem call_roots : HS_7 SS := by
  intro k σ τ z0 z1 z2 z3 hk hS i0 i1 i2 i3
  have hS0 := hS
  obtain ⟨⟨ρ, hW⟩, hT, hr, hn, hm⟩ := hS
  have hmc := hm.c hk
  unfold E_roots M_roots
  by_cases b : -999 ≤ z0 ∧ z0 ≤ 999
  · by_cases a : 0 ≤ z1 ∧ z1 < 6
    · have s0 := (hW.2.2 z1 a.1 a.2).2.1
      have n0 := (hW.2.2 z1 a.1 a.2).1
      by_cases a2 : 0 ≤ z2 ∧ z2 < 6
      · have s2 := (hW.2.2 z2 a2.1 a2.2).2.1
        have n2 := (hW.2.2 z2 a2.1 a2.2).1
        by_cases c : 0 ≤ z3 ∧ z3 < 6
        · by_cases d : σ 25 z1 = σ 25 z2 ∨ σ 25 z1 = σ 25 z2 + 1
          · have v1 := isEven_y d n2
            by_cases g : σ 25 z1 + σ 25 z2 + 1 ≤ 255
            · obtain ⟨σ1, ρ1, e1, hW1, hf, f1⟩ := begin_ex (hW.sc (f := 33) (v := 0) (by decide))
              have h32 : σ1 32 0 = σ 32 0 := by rw [f1 32 (by decide)]
              have h25 : σ1 25 = σ 25 := f1 25 (by decide)
              have hP1 := hW1.2.2 z1 a.1 a.2
              have hP2 := hW1.2.2 z2 a2.1 a2.2
              rw [h25] at hP1 hP2
              have hC : Cx ρ1 σ1 (us τ 33 0 0) 1 := ⟨hW1.1, hW1.2.1, by omega, by omega, by rw [us_ne (by decide)]; omega⟩
              obtain ⟨y, σ3, τ3, ρ3, e4, e5, hX, hI, r3⟩ := joins_ex (to := 7) hC hP1 hP2 d (by omega) (by omega) (by omega) (by omega) (by omega) (by omega) b
              obtain ⟨σ4, τ4, e7, e8, hW4, f4, g4, r4, s4⟩ := keep_ends hW1 hX r3 (by decide) (w := 7) (by omega) (hI (by omega)) c
              have hcn := hX.cnt
              have x1 : σ4 32 0 = σ3 32 0 := by rw [f4 32 (by decide)]
              have x2 : τ4 30 0 = τ3 30 0 := by rw [g4 30 (by decide)]
              have x3 : us τ 33 0 0 30 0 = τ 30 0 := us_ne (by decide)
              refine ⟨1 + σ 25 z1 + σ 25 z2, σ4, τ4, ?_, ?_, hS0.fin hW4 ((f1.mono (by decide)).tr ((hX.2.2.2.2.2.1.mono (by decide)).tr (f4.mono (by decide)))) (((fr_sc [33] τ 33 0 (by decide)).mono (by decide)).tr ((hX.2.2.2.2.2.2.1.mono (by decide)).tr (g4.mono (by decide)))) (by omega) (by omega)⟩
              · simp (disch := omega) only [↓jn_e, ↓ite_y, ↓ite_n, ↓oadd_eq, ↓osub_eq, ↓omul_eq, ↓odiv_eq, ↓orem_eq, ↓rd_eq, ↓wr_eq, ↓gf_e, ↓pf_e, ↓bnd_e, ↓bndp_e, ↓opure_e, ↓oif_t, ↓oif_f, ↓E_isPlace_y, ↓E_isPlace_n, ↓E_isNumber_y, ↓E_isNumber_n, ↓M_isPlace_y, ↓M_isPlace_n, ↓M_isNumber_y, ↓M_isNumber_n, ↓M_in_y, ↓M_in_n, ↓us_ne, ↓v1, ↓e1, ↓e4, ↓e7]
              · by_cases q : σ 25 z1 = σ 25 z2
                · simp (disch := omega) only [↓jn_e, ↓ite_y, ↓ite_n, ↓oadd_eq, ↓osub_eq, ↓omul_eq, ↓odiv_eq, ↓orem_eq, ↓rd_eq, ↓wr_eq, ↓gf_e, ↓pf_e, ↓bnd_e, ↓bndp_e, ↓opure_e, ↓oif_t, ↓oif_f, ↓E_isPlace_y, ↓E_isPlace_n, ↓E_isNumber_y, ↓E_isNumber_n, ↓M_isPlace_y, ↓M_isPlace_n, ↓M_isNumber_y, ↓M_isNumber_n, ↓M_in_y, ↓M_in_n, ↓us_ne, ↓e5, ↓e8, s4]
                · simp (disch := omega) only [↓jn_e, ↓ite_y, ↓ite_n, ↓oadd_eq, ↓osub_eq, ↓omul_eq, ↓odiv_eq, ↓orem_eq, ↓rd_eq, ↓wr_eq, ↓gf_e, ↓pf_e, ↓bnd_e, ↓bndp_e, ↓opure_e, ↓oif_t, ↓oif_f, ↓E_isPlace_y, ↓E_isPlace_n, ↓E_isNumber_y, ↓E_isNumber_n, ↓M_isPlace_y, ↓M_isPlace_n, ↓M_isNumber_y, ↓M_isNumber_n, ↓M_in_y, ↓M_in_n, ↓us_ne, ↓e5, ↓e8, s4]
            · refine ⟨-3, σ, us τ 33 0 0, ?_, ?_, hS0.thr⟩
              · simp (disch := omega) only [↓jn_e, ↓ite_y, ↓ite_n, ↓oadd_eq, ↓osub_eq, ↓omul_eq, ↓odiv_eq, ↓orem_eq, ↓rd_eq, ↓wr_eq, ↓gf_e, ↓pf_e, ↓bnd_e, ↓bndp_e, ↓opure_e, ↓oif_t, ↓oif_f, ↓E_isPlace_y, ↓E_isPlace_n, ↓E_isNumber_y, ↓E_isNumber_n, ↓M_isPlace_y, ↓M_isPlace_n, ↓M_isNumber_y, ↓M_isNumber_n, ↓M_in_y, ↓M_in_n, ↓us_ne, ↓v1]
              · by_cases q : σ 25 z1 = σ 25 z2
                · simp (disch := omega) only [↓jn_e, ↓ite_y, ↓ite_n, ↓oadd_eq, ↓osub_eq, ↓omul_eq, ↓odiv_eq, ↓orem_eq, ↓rd_eq, ↓wr_eq, ↓gf_e, ↓pf_e, ↓bnd_e, ↓bndp_e, ↓opure_e, ↓oif_t, ↓oif_f, ↓E_isPlace_y, ↓E_isPlace_n, ↓E_isNumber_y, ↓E_isNumber_n, ↓M_isPlace_y, ↓M_isPlace_n, ↓M_isNumber_y, ↓M_isNumber_n, ↓M_in_y, ↓M_in_n, ↓us_ne]
                · simp (disch := omega) only [↓jn_e, ↓ite_y, ↓ite_n, ↓oadd_eq, ↓osub_eq, ↓omul_eq, ↓odiv_eq, ↓orem_eq, ↓rd_eq, ↓wr_eq, ↓gf_e, ↓pf_e, ↓bnd_e, ↓bndp_e, ↓opure_e, ↓oif_t, ↓oif_f, ↓E_isPlace_y, ↓E_isPlace_n, ↓E_isNumber_y, ↓E_isNumber_n, ↓M_isPlace_y, ↓M_isPlace_n, ↓M_isNumber_y, ↓M_isNumber_n, ↓M_in_y, ↓M_in_n, ↓us_ne]
          · have v1 := isEven_n d n2
            refine ⟨-2, σ, us τ 33 0 0, ?_, ?_, hS0.thr⟩
            · simp (disch := omega) only [↓jn_e, ↓ite_y, ↓ite_n, ↓oadd_eq, ↓osub_eq, ↓omul_eq, ↓odiv_eq, ↓orem_eq, ↓rd_eq, ↓wr_eq, ↓gf_e, ↓pf_e, ↓bnd_e, ↓bndp_e, ↓opure_e, ↓oif_t, ↓oif_f, ↓E_isPlace_y, ↓E_isPlace_n, ↓E_isNumber_y, ↓E_isNumber_n, ↓M_isPlace_y, ↓M_isPlace_n, ↓M_isNumber_y, ↓M_isNumber_n, ↓M_in_y, ↓M_in_n, ↓us_ne, ↓v1]
            · simp (disch := omega) only [↓jn_e, ↓ite_y, ↓ite_n, ↓oadd_eq, ↓osub_eq, ↓omul_eq, ↓odiv_eq, ↓orem_eq, ↓rd_eq, ↓wr_eq, ↓gf_e, ↓pf_e, ↓bnd_e, ↓bndp_e, ↓opure_e, ↓oif_t, ↓oif_f, ↓E_isPlace_y, ↓E_isPlace_n, ↓E_isNumber_y, ↓E_isNumber_n, ↓M_isPlace_y, ↓M_isPlace_n, ↓M_isNumber_y, ↓M_isNumber_n, ↓M_in_y, ↓M_in_n, ↓us_ne]
        · refine ⟨-1, σ, us τ 33 0 0, ?_, ?_, hS0.thr⟩
          · simp (disch := omega) only [↓jn_e, ↓ite_y, ↓ite_n, ↓oadd_eq, ↓osub_eq, ↓omul_eq, ↓odiv_eq, ↓orem_eq, ↓rd_eq, ↓wr_eq, ↓gf_e, ↓pf_e, ↓bnd_e, ↓bndp_e, ↓opure_e, ↓oif_t, ↓oif_f, ↓E_isPlace_y, ↓E_isPlace_n, ↓E_isNumber_y, ↓E_isNumber_n, ↓M_isPlace_y, ↓M_isPlace_n, ↓M_isNumber_y, ↓M_isNumber_n, ↓M_in_y, ↓M_in_n, ↓us_ne]
          · simp (disch := omega) only [↓jn_e, ↓ite_y, ↓ite_n, ↓oadd_eq, ↓osub_eq, ↓omul_eq, ↓odiv_eq, ↓orem_eq, ↓rd_eq, ↓wr_eq, ↓gf_e, ↓pf_e, ↓bnd_e, ↓bndp_e, ↓opure_e, ↓oif_t, ↓oif_f, ↓E_isPlace_y, ↓E_isPlace_n, ↓E_isNumber_y, ↓E_isNumber_n, ↓M_isPlace_y, ↓M_isPlace_n, ↓M_isNumber_y, ↓M_isNumber_n, ↓M_in_y, ↓M_in_n, ↓us_ne]
      · refine ⟨-1, σ, us τ 33 0 0, ?_, ?_, hS0.thr⟩
        · simp (disch := omega) only [↓jn_e, ↓ite_y, ↓ite_n, ↓oadd_eq, ↓osub_eq, ↓omul_eq, ↓odiv_eq, ↓orem_eq, ↓rd_eq, ↓wr_eq, ↓gf_e, ↓pf_e, ↓bnd_e, ↓bndp_e, ↓opure_e, ↓oif_t, ↓oif_f, ↓E_isPlace_y, ↓E_isPlace_n, ↓E_isNumber_y, ↓E_isNumber_n, ↓M_isPlace_y, ↓M_isPlace_n, ↓M_isNumber_y, ↓M_isNumber_n, ↓M_in_y, ↓M_in_n, ↓us_ne]
        · simp (disch := omega) only [↓jn_e, ↓ite_y, ↓ite_n, ↓oadd_eq, ↓osub_eq, ↓omul_eq, ↓odiv_eq, ↓orem_eq, ↓rd_eq, ↓wr_eq, ↓gf_e, ↓pf_e, ↓bnd_e, ↓bndp_e, ↓opure_e, ↓oif_t, ↓oif_f, ↓E_isPlace_y, ↓E_isPlace_n, ↓E_isNumber_y, ↓E_isNumber_n, ↓M_isPlace_y, ↓M_isPlace_n, ↓M_isNumber_y, ↓M_isNumber_n, ↓M_in_y, ↓M_in_n, ↓us_ne]
    · refine ⟨-1, σ, us τ 33 0 0, ?_, ?_, hS0.thr⟩
      · simp (disch := omega) only [↓jn_e, ↓ite_y, ↓ite_n, ↓oadd_eq, ↓osub_eq, ↓omul_eq, ↓odiv_eq, ↓orem_eq, ↓rd_eq, ↓wr_eq, ↓gf_e, ↓pf_e, ↓bnd_e, ↓bndp_e, ↓opure_e, ↓oif_t, ↓oif_f, ↓E_isPlace_y, ↓E_isPlace_n, ↓E_isNumber_y, ↓E_isNumber_n, ↓M_isPlace_y, ↓M_isPlace_n, ↓M_isNumber_y, ↓M_isNumber_n, ↓M_in_y, ↓M_in_n, ↓us_ne]
      · simp (disch := omega) only [↓jn_e, ↓ite_y, ↓ite_n, ↓oadd_eq, ↓osub_eq, ↓omul_eq, ↓odiv_eq, ↓orem_eq, ↓rd_eq, ↓wr_eq, ↓gf_e, ↓pf_e, ↓bnd_e, ↓bndp_e, ↓opure_e, ↓oif_t, ↓oif_f, ↓E_isPlace_y, ↓E_isPlace_n, ↓E_isNumber_y, ↓E_isNumber_n, ↓M_isPlace_y, ↓M_isPlace_n, ↓M_isNumber_y, ↓M_isNumber_n, ↓M_in_y, ↓M_in_n, ↓us_ne]
  · refine ⟨-1, σ, us τ 33 0 0, ?_, ?_, hS0.thr⟩
    · simp (disch := omega) only [↓jn_e, ↓ite_y, ↓ite_n, ↓oadd_eq, ↓osub_eq, ↓omul_eq, ↓odiv_eq, ↓orem_eq, ↓rd_eq, ↓wr_eq, ↓gf_e, ↓pf_e, ↓bnd_e, ↓bndp_e, ↓opure_e, ↓oif_t, ↓oif_f, ↓E_isPlace_y, ↓E_isPlace_n, ↓E_isNumber_y, ↓E_isNumber_n, ↓M_isPlace_y, ↓M_isPlace_n, ↓M_isNumber_y, ↓M_isNumber_n, ↓M_in_y, ↓M_in_n, ↓us_ne]
    · simp (disch := omega) only [↓jn_e, ↓ite_y, ↓ite_n, ↓oadd_eq, ↓osub_eq, ↓omul_eq, ↓odiv_eq, ↓orem_eq, ↓rd_eq, ↓wr_eq, ↓gf_e, ↓pf_e, ↓bnd_e, ↓bndp_e, ↓opure_e, ↓oif_t, ↓oif_f, ↓E_isPlace_y, ↓E_isPlace_n, ↓E_isNumber_y, ↓E_isNumber_n, ↓M_isPlace_y, ↓M_isPlace_n, ↓M_isNumber_y, ↓M_isNumber_n, ↓M_in_y, ↓M_in_n, ↓us_ne]
theorem rsE_0 : Shape_rightSize 0 = some 0 := by unfold Shape_rightSize; exact if_pos (by omega)
theorem rsM_0 : M_rightSize 0 = some 0 := by unfold M_rightSize; exact if_neg (by omega)
theorem sides_main {k : Nat} {ρ : Int → Int → Prop} {σ τ : St} {z0 z1 z2 m : Int} (hk : k < 512) (hS0 : SS k σ τ) (hW : Wd ρ σ τ) (a : 0 ≤ z0 ∧ z0 < 6) (c : 0 ≤ z2 ∧ z2 < 6) (h1 : (z1 = 0 ∧ m = σ 25 z0 / 2) ∨ (z1 = 1 ∧ m = (σ 25 z0 - 1) / 2)) (hm : 1 ≤ m) (hn : 1 ≤ σ 25 z0) {y : Int} (hy : y = if z1 = 0 then lf σ (σ 24 z0) else rt σ (σ 24 z0)) :
    ∃ σ4 τ1 τ2 τ4, E_keep σ z2 y m = some (m, σ4) ∧ M_asks (us τ 33 0 0) z0 = some (0, τ1) ∧ M_shares (us τ1 3 7 m) 6 (1 + z1) 2 m 7 0 1 = some (0, τ2) ∧ M_takes τ2 7 z2 = some (0, τ4) ∧ τ4 3 z2 = m ∧ SS (k + 1) σ4 τ4 := by
  have hP := hW.2.2 z0 a.1 a.2
  have s0 := hP.2.1
  have n0 := hP.1
  have hmb := hS0.2.2.2.2
  unfold Mb at hmb
  obtain ⟨τ1, d1, g1, r1, s6, s7, c6, c7⟩ := asks_ex (us τ 33 0 0) z0 a (by rw [us_ne (by decide)]; omega)
  rw [us_ne (by decide)] at s6 s7 c6 c7
  obtain ⟨τ2, d2, g2, c2, k2⟩ := M_shares_eq (us τ1 3 7 m) 6 (1 + z1) 2 m 7 0 1 (by omega) (by omega) (by omega) (by omega) (by omega) (by omega) (by omega) (by omega) (fun k k0 kn => by omega) (fun k k0 kn => by omega)
  have hW0 := hW.sc (f := 33) (v := 0) (by decide)
  have ga : Fr [1, 2, 3] (us τ 33 0 0) τ2 := g1.tr (((Fr.rf _ τ1).us (by decide)).tr (g2.mono (by decide)))
  have ra : Rws [6, 7] (us τ 33 0 0) τ2 := by
    refine r1.tr ⟨fun q hq => ?_, fun p hp => ?_⟩
    · have b := k2 q (fun k k0 kn => by have := hq 7 (by decide); omega)
      rw [us_ne (by decide), us_ne (by decide)] at b
      exact b
    · rw [g2 3 (by decide), us_ni (fun e => hp (by rw [e]; decide))]
  have hX := Sx.rf hW0.1 hW0.2.1 (ga.mono (by decide) : Fr FM _ τ2) (by rw [ga 30 (by decide)])
  have row : ∀ x, 0 ≤ x → x < m → τ2 1 (256 * 7 + x) = τ 1 (256 * z0 + (1 + z1 + 2 * x)) ∧ τ2 2 (256 * 7 + x) = τ 2 (256 * z0 + (1 + z1 + 2 * x)) := fun x x0 xn => by
    have p := c2 x x0 xn
    have q := c6 (1 + z1 + 2 * x) (by omega) (by omega)
    have i1 : 256 * 7 + 0 + 1 * x = 256 * 7 + x := by omega
    have i2 : 256 * 6 + (1 + z1) + 2 * x = 256 * 6 + (1 + z1 + 2 * x) := by omega
    rw [i1, i2, us_ne (by decide), us_ne (by decide), q.1, q.2, us_ne (by decide), us_ne (by decide)] at p
    exact p
  have hI : RI ρ σ τ2 y m 7 := by
    refine ⟨by omega, by rw [g2 3 (by decide), us_eq], ?_, fun x x0 xn => ?_⟩
    · rcases h1 with ⟨e1, e2⟩ | ⟨e1, e2⟩
      · rw [hy, if_pos e1, e2]; exact hP.2.2.1.lf (by omega)
      · rw [hy, if_neg (by omega), e2]; exact hP.2.2.1.rt hn
    · rw [vw1, (row x x0 xn).1, (row x x0 xn).2]
      rcases h1 with ⟨e1, e2⟩ | ⟨e1, e2⟩
      · have cc := hP.2.2.2 (2 * x + 1) (by omega) (by omega)
        rw [sl_odd _ _ x0 rfl, vw1] at cc
        rw [hy, if_pos e1, e1]
        have i : 1 + 0 + 2 * x = 2 * x + 1 := by omega
        rw [i]; exact cc
      · have cc := hP.2.2.2 (2 * x + 2) (by omega) (by omega)
        rw [sl_even _ _ x0 rfl, vw1] at cc
        rw [hy, if_neg (by omega), e1]
        have i : 1 + 1 + 2 * x = 2 * x + 2 := by omega
        rw [i]; exact cc
  obtain ⟨σ4, τ4, e7, e8, hW4, f4, g4, r4, s4⟩ := keep_ends hW0 hX ra (by decide) (w := 7) (by omega) hI c
  have x1 : σ4 32 0 = σ 32 0 := by rw [f4 32 (by decide)]
  have x2 : τ4 30 0 = τ 30 0 := by rw [g4 30 (by decide), ga 30 (by decide), us_ne (by decide)]
  exact ⟨σ4, τ1, τ2, τ4, e7, d1, d2, e8, s4, hS0.fin hW4 (f4.mono (by decide)) (((fr_sc [33] τ 33 0 (by decide)).mono (by decide)).tr ((ga.mono (by decide)).tr (g4.mono (by decide)))) (by omega) (by omega)⟩
theorem call_sides : HS_6 SS := by
  intro k σ τ z0 z1 z2 hk hS i0 i1 i2
  have hS0 := hS
  obtain ⟨⟨ρ, hW⟩, hT, hr, hn, hm⟩ := hS
  have hmc := hm.c hk
  unfold E_sides M_sides
  by_cases a : 0 ≤ z0 ∧ z0 < 6
  · have s0 := (hW.2.2 z0 a.1 a.2).2.1
    have n0 := (hW.2.2 z0 a.1 a.2).1
    by_cases c : 0 ≤ z2 ∧ z2 < 6
    · by_cases b : z1 = 0
      · subst b
        have l1 := E_leftSize_eq (n := σ 25 z0) n0.1
        have l2 := M_leftSize_eq (n := τ 3 z0) (by omega)
        rw [s0] at l2
        by_cases d : σ 25 z0 / 2 = 0
        · refine ⟨-2, σ, us τ 33 0 0, ?_, ?_, hS0.thr⟩
          · simp (disch := omega) only [↓jn_e, ↓ite_y, ↓ite_n, ↓oadd_eq, ↓osub_eq, ↓omul_eq, ↓odiv_eq, ↓orem_eq, ↓rd_eq, ↓wr_eq, ↓gf_e, ↓pf_e, ↓bnd_e, ↓bndp_e, ↓opure_e, ↓oif_t, ↓oif_f, ↓E_isPlace_y, ↓E_isPlace_n, ↓E_isNumber_y, ↓E_isNumber_n, ↓M_isPlace_y, ↓M_isPlace_n, ↓M_isNumber_y, ↓M_isNumber_n, ↓M_in_y, ↓M_in_n, ↓us_ne, ↓l1]
          · simp (disch := omega) only [↓jn_e, ↓ite_y, ↓ite_n, ↓oadd_eq, ↓osub_eq, ↓omul_eq, ↓odiv_eq, ↓orem_eq, ↓rd_eq, ↓wr_eq, ↓gf_e, ↓pf_e, ↓bnd_e, ↓bndp_e, ↓opure_e, ↓oif_t, ↓oif_f, ↓E_isPlace_y, ↓E_isPlace_n, ↓E_isNumber_y, ↓E_isNumber_n, ↓M_isPlace_y, ↓M_isPlace_n, ↓M_isNumber_y, ↓M_isNumber_n, ↓M_in_y, ↓M_in_n, ↓us_ne, ↓l2, s0]
        · obtain ⟨σ4, τ1, τ2, τ4, e7, d1, d2, e8, s4, hS4⟩ := sides_main (z1 := 0) hk hS0 hW a c (Or.inl ⟨rfl, rfl⟩) (by omega) (by omega) (if_pos rfl).symm
          refine ⟨σ 25 z0 / 2, σ4, τ4, ?_, ?_, hS4⟩
          · simp (disch := omega) only [↓jn_e, ↓ite_y, ↓ite_n, ↓oadd_eq, ↓osub_eq, ↓omul_eq, ↓odiv_eq, ↓orem_eq, ↓rd_eq, ↓wr_eq, ↓gf_e, ↓pf_e, ↓bnd_e, ↓bndp_e, ↓opure_e, ↓oif_t, ↓oif_f, ↓E_isPlace_y, ↓E_isPlace_n, ↓E_isNumber_y, ↓E_isNumber_n, ↓M_isPlace_y, ↓M_isPlace_n, ↓M_isNumber_y, ↓M_isNumber_n, ↓M_in_y, ↓M_in_n, ↓us_ne, ↓l1, ↓Pool_leftOf_eq, ↓e7]
          · have e9 : us τ1 3 7 (σ 25 z0 / 2) 3 7 = σ 25 z0 / 2 := us_eq _ _ _ _
            simp (disch := omega) only [↓jn_e, ↓ite_y, ↓ite_n, ↓oadd_eq, ↓osub_eq, ↓omul_eq, ↓odiv_eq, ↓orem_eq, ↓rd_eq, ↓wr_eq, ↓gf_e, ↓pf_e, ↓bnd_e, ↓bndp_e, ↓opure_e, ↓oif_t, ↓oif_f, ↓E_isPlace_y, ↓E_isPlace_n, ↓E_isNumber_y, ↓E_isNumber_n, ↓M_isPlace_y, ↓M_isPlace_n, ↓M_isNumber_y, ↓M_isNumber_n, ↓M_in_y, ↓M_in_n, ↓us_ne, ↓l2, s0, ↓d1, e9, ↓d2, ↓e8, s4]
      · by_cases b1 : z1 = 1
        · subst b1
          by_cases d0 : σ 25 z0 = 0
          · refine ⟨-2, σ, us τ 33 0 0, ?_, ?_, hS0.thr⟩
            · simp (disch := omega) only [↓jn_e, ↓ite_y, ↓ite_n, ↓oadd_eq, ↓osub_eq, ↓omul_eq, ↓odiv_eq, ↓orem_eq, ↓rd_eq, ↓wr_eq, ↓gf_e, ↓pf_e, ↓bnd_e, ↓bndp_e, ↓opure_e, ↓oif_t, ↓oif_f, ↓E_isPlace_y, ↓E_isPlace_n, ↓E_isNumber_y, ↓E_isNumber_n, ↓M_isPlace_y, ↓M_isPlace_n, ↓M_isNumber_y, ↓M_isNumber_n, ↓M_in_y, ↓M_in_n, ↓us_ne, d0, ↓rsE_0]
            · simp (disch := omega) only [↓jn_e, ↓ite_y, ↓ite_n, ↓oadd_eq, ↓osub_eq, ↓omul_eq, ↓odiv_eq, ↓orem_eq, ↓rd_eq, ↓wr_eq, ↓gf_e, ↓pf_e, ↓bnd_e, ↓bndp_e, ↓opure_e, ↓oif_t, ↓oif_f, ↓E_isPlace_y, ↓E_isPlace_n, ↓E_isNumber_y, ↓E_isNumber_n, ↓M_isPlace_y, ↓M_isPlace_n, ↓M_isNumber_y, ↓M_isNumber_n, ↓M_in_y, ↓M_in_n, ↓us_ne, s0, d0, ↓rsM_0]
          · have l1 := E_rightSize_eq (n := σ 25 z0) (by omega)
            have l2 := M_rightSize_eq (n := σ 25 z0) (by omega)
            by_cases d : (σ 25 z0 - 1) / 2 = 0
            · refine ⟨-2, σ, us τ 33 0 0, ?_, ?_, hS0.thr⟩
              · simp (disch := omega) only [↓jn_e, ↓ite_y, ↓ite_n, ↓oadd_eq, ↓osub_eq, ↓omul_eq, ↓odiv_eq, ↓orem_eq, ↓rd_eq, ↓wr_eq, ↓gf_e, ↓pf_e, ↓bnd_e, ↓bndp_e, ↓opure_e, ↓oif_t, ↓oif_f, ↓E_isPlace_y, ↓E_isPlace_n, ↓E_isNumber_y, ↓E_isNumber_n, ↓M_isPlace_y, ↓M_isPlace_n, ↓M_isNumber_y, ↓M_isNumber_n, ↓M_in_y, ↓M_in_n, ↓us_ne, ↓l1]
              · simp (disch := omega) only [↓jn_e, ↓ite_y, ↓ite_n, ↓oadd_eq, ↓osub_eq, ↓omul_eq, ↓odiv_eq, ↓orem_eq, ↓rd_eq, ↓wr_eq, ↓gf_e, ↓pf_e, ↓bnd_e, ↓bndp_e, ↓opure_e, ↓oif_t, ↓oif_f, ↓E_isPlace_y, ↓E_isPlace_n, ↓E_isNumber_y, ↓E_isNumber_n, ↓M_isPlace_y, ↓M_isPlace_n, ↓M_isNumber_y, ↓M_isNumber_n, ↓M_in_y, ↓M_in_n, ↓us_ne, ↓l2, s0]
            · obtain ⟨σ4, τ1, τ2, τ4, e7, d1, d2, e8, s4, hS4⟩ := sides_main (z1 := 1) hk hS0 hW a c (Or.inr ⟨rfl, rfl⟩) (by omega) (by omega) (if_neg (by omega)).symm
              refine ⟨(σ 25 z0 - 1) / 2, σ4, τ4, ?_, ?_, hS4⟩
              · simp (disch := omega) only [↓jn_e, ↓ite_y, ↓ite_n, ↓oadd_eq, ↓osub_eq, ↓omul_eq, ↓odiv_eq, ↓orem_eq, ↓rd_eq, ↓wr_eq, ↓gf_e, ↓pf_e, ↓bnd_e, ↓bndp_e, ↓opure_e, ↓oif_t, ↓oif_f, ↓E_isPlace_y, ↓E_isPlace_n, ↓E_isNumber_y, ↓E_isNumber_n, ↓M_isPlace_y, ↓M_isPlace_n, ↓M_isNumber_y, ↓M_isNumber_n, ↓M_in_y, ↓M_in_n, ↓us_ne, ↓l1, ↓Pool_rightOf_eq, ↓e7]
              · have e9 : us τ1 3 7 ((σ 25 z0 - 1) / 2) 3 7 = (σ 25 z0 - 1) / 2 := us_eq _ _ _ _
                simp (disch := omega) only [↓jn_e, ↓ite_y, ↓ite_n, ↓oadd_eq, ↓osub_eq, ↓omul_eq, ↓odiv_eq, ↓orem_eq, ↓rd_eq, ↓wr_eq, ↓gf_e, ↓pf_e, ↓bnd_e, ↓bndp_e, ↓opure_e, ↓oif_t, ↓oif_f, ↓E_isPlace_y, ↓E_isPlace_n, ↓E_isNumber_y, ↓E_isNumber_n, ↓M_isPlace_y, ↓M_isPlace_n, ↓M_isNumber_y, ↓M_isNumber_n, ↓M_in_y, ↓M_in_n, ↓us_ne, ↓l2, s0, ↓d1, e9, ↓d2, ↓e8, s4]
        · refine ⟨-1, σ, us τ 33 0 0, ?_, ?_, hS0.thr⟩
          · by_cases q : z1 < 0
            · simp (disch := omega) only [↓jn_e, ↓ite_y, ↓ite_n, ↓oadd_eq, ↓osub_eq, ↓omul_eq, ↓odiv_eq, ↓orem_eq, ↓rd_eq, ↓wr_eq, ↓gf_e, ↓pf_e, ↓bnd_e, ↓bndp_e, ↓opure_e, ↓oif_t, ↓oif_f, ↓E_isPlace_y, ↓E_isPlace_n, ↓E_isNumber_y, ↓E_isNumber_n, ↓M_isPlace_y, ↓M_isPlace_n, ↓M_isNumber_y, ↓M_isNumber_n, ↓M_in_y, ↓M_in_n, ↓us_ne]
            · simp (disch := omega) only [↓jn_e, ↓ite_y, ↓ite_n, ↓oadd_eq, ↓osub_eq, ↓omul_eq, ↓odiv_eq, ↓orem_eq, ↓rd_eq, ↓wr_eq, ↓gf_e, ↓pf_e, ↓bnd_e, ↓bndp_e, ↓opure_e, ↓oif_t, ↓oif_f, ↓E_isPlace_y, ↓E_isPlace_n, ↓E_isNumber_y, ↓E_isNumber_n, ↓M_isPlace_y, ↓M_isPlace_n, ↓M_isNumber_y, ↓M_isNumber_n, ↓M_in_y, ↓M_in_n, ↓us_ne]
          · simp (disch := omega) only [↓jn_e, ↓ite_y, ↓ite_n, ↓oadd_eq, ↓osub_eq, ↓omul_eq, ↓odiv_eq, ↓orem_eq, ↓rd_eq, ↓wr_eq, ↓gf_e, ↓pf_e, ↓bnd_e, ↓bndp_e, ↓opure_e, ↓oif_t, ↓oif_f, ↓E_isPlace_y, ↓E_isPlace_n, ↓E_isNumber_y, ↓E_isNumber_n, ↓M_isPlace_y, ↓M_isPlace_n, ↓M_isNumber_y, ↓M_isNumber_n, ↓M_in_y, ↓M_in_n, ↓us_ne]
    · refine ⟨-1, σ, us τ 33 0 0, ?_, ?_, hS0.thr⟩
      · simp (disch := omega) only [↓jn_e, ↓ite_y, ↓ite_n, ↓oadd_eq, ↓osub_eq, ↓omul_eq, ↓odiv_eq, ↓orem_eq, ↓rd_eq, ↓wr_eq, ↓gf_e, ↓pf_e, ↓bnd_e, ↓bndp_e, ↓opure_e, ↓oif_t, ↓oif_f, ↓E_isPlace_y, ↓E_isPlace_n, ↓E_isNumber_y, ↓E_isNumber_n, ↓M_isPlace_y, ↓M_isPlace_n, ↓M_isNumber_y, ↓M_isNumber_n, ↓M_in_y, ↓M_in_n, ↓us_ne]
      · simp (disch := omega) only [↓jn_e, ↓ite_y, ↓ite_n, ↓oadd_eq, ↓osub_eq, ↓omul_eq, ↓odiv_eq, ↓orem_eq, ↓rd_eq, ↓wr_eq, ↓gf_e, ↓pf_e, ↓bnd_e, ↓bndp_e, ↓opure_e, ↓oif_t, ↓oif_f, ↓E_isPlace_y, ↓E_isPlace_n, ↓E_isNumber_y, ↓E_isNumber_n, ↓M_isPlace_y, ↓M_isPlace_n, ↓M_isNumber_y, ↓M_isNumber_n, ↓M_in_y, ↓M_in_n, ↓us_ne]
  · refine ⟨-1, σ, us τ 33 0 0, ?_, ?_, hS0.thr⟩
    · simp (disch := omega) only [↓jn_e, ↓ite_y, ↓ite_n, ↓oadd_eq, ↓osub_eq, ↓omul_eq, ↓odiv_eq, ↓orem_eq, ↓rd_eq, ↓wr_eq, ↓gf_e, ↓pf_e, ↓bnd_e, ↓bndp_e, ↓opure_e, ↓oif_t, ↓oif_f, ↓E_isPlace_y, ↓E_isPlace_n, ↓E_isNumber_y, ↓E_isNumber_n, ↓M_isPlace_y, ↓M_isPlace_n, ↓M_isNumber_y, ↓M_isNumber_n, ↓M_in_y, ↓M_in_n, ↓us_ne]
    · simp (disch := omega) only [↓jn_e, ↓ite_y, ↓ite_n, ↓oadd_eq, ↓osub_eq, ↓omul_eq, ↓odiv_eq, ↓orem_eq, ↓rd_eq, ↓wr_eq, ↓gf_e, ↓pf_e, ↓bnd_e, ↓bndp_e, ↓opure_e, ↓oif_t, ↓oif_f, ↓E_isPlace_y, ↓E_isPlace_n, ↓E_isNumber_y, ↓E_isNumber_n, ↓M_isPlace_y, ↓M_isPlace_n, ↓M_isNumber_y, ↓M_isNumber_n, ↓M_in_y, ↓M_in_n, ↓us_ne]

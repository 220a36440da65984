-- MATH 24: pop
theorem fz_rng {ρ : Int → Int → Prop} {σ τ : St} : ∀ (d : Nat) (t n : Int) (g : Int → Int), 1 ≤ n → n < p2 d → TW σ t n → Co ρ σ τ t g n → -999 ≤ nu σ (fz σ d t n) ∧ nu σ (fz σ d t n) ≤ 999 := by
  intro d
  induction d with
  | zero => intro t n g h1 h2; unfold p2 at h2; omega
  | succ d ih =>
    intro t n g h1 h2 hT hC
    unfold p2 at h2
    unfold fz
    by_cases hn : n ≤ 1
    · rw [if_pos hn]
      have c := hC 0 (by omega) (by omega)
      rw [sl_0 _ _ (Int.le_refl 0)] at c
      rw [c.2.1]; exact c.2.2
    · rw [if_neg hn]
      exact ih (lf σ t) (n / 2) (fun x => g (2 * x + 1)) (by omega) (by omega) (hT.lf (by omega)) (fun x x0 xn => by
        have c := hC (2 * x + 1) (by omega) (by omega)
        rw [sl_odd σ t x0 rfl] at c
        exact c)
theorem op_pop {ρ : Int → Int → Prop} {σ τ : St} {y n : Int} (hC : Cx ρ σ τ 30) (hI : RI ρ σ τ y n 6) (hn : 2 ≤ n) (h7 : τ 3 7 = n - 1) :
    ∃ y' σ' τa τb τc ρ', Pool_popped σ y n = some (y', σ') ∧ M_shares τ 6 2 2 ((n - 1) / 2) 7 1 2 = some (0, τa) ∧ τa 3 6 = n ∧ M_lifts RD τa 1 2 (n / 2) 2 2 = some (0, τb) ∧ M_sifts τb (τb 42 0) = some (0, τc) ∧ Sx ρ σ τ ρ' σ' τc 30 ∧ RI ρ' σ' τc y' (n - 1) 7 ∧ Rws [7] τ τc := by
  obtain ⟨hB, hA, hf, hs, hm⟩ := hC
  obtain ⟨n0, s6, hT, hCo⟩ := hI
  have hut := hT.root (by omega)
  have hTl := hT.lf (by omega)
  have hTr := hT.rt (by omega)
  obtain ⟨τa, e1, f1, c1, k1⟩ := M_shares_eq τ 6 2 2 ((n - 1) / 2) 7 1 2 (by omega) (by omega) (by omega) (by omega) (by omega) (by omega) (by omega) (by omega) (fun k a b => by omega) (fun k a b => by omega)
  have a30 : τa 30 0 = τ 30 0 := by rw [f1 30 (by decide)]
  have a36 : τa 3 6 = n := by rw [f1 3 (by decide)]; exact s6
  have a37 : τa 3 7 = n - 1 := by rw [f1 3 (by decide)]; exact h7
  have hCl : Co ρ σ τa (lf σ y) (vw 6 1 2) (n / 2) := fun x x0 xn => by
    have c := hCo (2 * x + 1) (by omega) (by omega)
    have k := k1 (256 * 6 + (2 * x + 1)) (fun k a b => by omega)
    have i1 : vw 6 1 2 x = 256 * 6 + (2 * x + 1) := by unfold vw; omega
    rw [sl_odd σ y x0 rfl, vw1] at c
    rw [i1, k.1, k.2]; exact c
  obtain ⟨w, σb, τb, ρb, g1, g2, g3, g4, g5, g6, g7, g8⟩ := lift_step 12 σ τa ρ (lf σ y) (n / 2) 1 2 2 2 (hB.mono (by omega)) hA (by omega) (by omega) (by omega) (by rw [p2_12]; omega) (by omega) hTl (by omega) (by omega) (by omega) (by omega) (fun k a b => by omega) (fun k a b => by omega) hCl
  have efz : fz σ 12 (lf σ y) (n / 2) = fz σ 8 (lf σ y) (n / 2) := fz_irr σ 12 8 _ _ (by rw [p2_12]; omega) (by rw [p2_8]; omega)
  have hwr := fz_rng 8 (lf σ y) (n / 2) (vw 6 1 2) (by omega) (by rw [p2_8]; omega) hTl hCl
  rw [efz] at g8
  have g3' := g3
  obtain ⟨s1, s2, s3, s4, s5, s6', s7, s8⟩ := g3'
  unfold Cnt at s8
  have ert : rt σb y = rt σ y := by rw [rt_used (s5 y hut).1, rt_used hut]; exact (s5 y hut).2.2.2
  have hCr : Co ρb σb τb (rt σ y) (vw 7 1 2) ((n - 1) / 2) := by
    refine Co.stp (g := fun x => vw 6 0 1 (2 * x + 2)) (σ := σ) (τ := τ) (ρ := ρ) (fun x x0 xn => ?_) hTr (by omega) s1 s5 (fun x x0 xn => ?_)
    · have c := hCo (2 * x + 2) (by omega) (by omega)
      rw [sl_even σ y x0 rfl] at c
      exact c
    · have q1 := g6 (vw 7 1 2 x) (fun j j0 jn => by unfold vw; omega)
      have q2 := c1 x x0 xn
      have i1 : vw 7 1 2 x = 256 * 7 + 1 + 2 * x := by unfold vw; omega
      have i2 : vw 6 0 1 (2 * x + 2) = 256 * 6 + 2 + 2 * x := by unfold vw; omega
      rw [q1.1, q1.2, i1, i2]; exact q2
  have e8 : ((8 : Nat) : Int) = 8 := rfl
  have hsz : (n - 1) / 2 = (n - 1) / 2 := rfl
  have hs2 : (n - 1 - 1) / 2 = n / 2 - 1 := by omega
  obtain ⟨y', σ', τc, ρ', t1, t2, t3, t4, t5, t6, t7⟩ := sift_step 8 12 FU σb τb ρb (nu σ (fz σ 8 (lf σ y) (n / 2))) (rt σ y) w (n - 1) 0 1 (by omega) (by omega) (by unfold FU; omega) s3 s4 (by omega) (by omega) (by omega) (by rw [p2_8]; omega) (by omega) (hTr.ext s5 (by omega)) (by rw [hs2]; exact g4) (by omega) (by omega) (Vok01 _ (by omega)) hCr (by rw [hs2]; exact g5) hwr
  have far : Pool_farLeft σ (lf σ y) = some (nu σ (fz σ 8 (lf σ y) (n / 2))) := by
    unfold Pool_farLeft
    rw [jn_eq, farLeft_loop _ σ 8 FU (lf σ y) (n / 2) 0 (by rw [p2_8]; omega) (by omega) hTl (by omega) (by omega) (by unfold FU; omega)]
    simp only [Pool_numberOf_eq, bndp_eq]
  have fab : Fr FM τ τa := f1.mono (by decide)
  have hs7 : τc 3 7 = n - 1 := by rw [t7 3 (by decide), g7 3 (by decide)]; exact a37
  refine ⟨y', σ', τa, τb, τc, ρ', ?_, e1, a36, g2, ?_, ?_, ⟨by omega, hs7, t4, t5⟩, ?_⟩
  · unfold Pool_popped
    have el := E_leftSize_eq (n := n) (by omega)
    simp (disch := omega) only [↓jn_e, ↓ite_y, ↓ite_n, ↓oadd_eq, ↓osub_eq, ↓omul_eq, ↓odiv_eq, ↓orem_eq, ↓rd_eq, ↓wr_eq, ↓gf_e, ↓pf_e, ↓bnd_e, ↓bndp_e, ↓opure_e, ↓oif_t, ↓oif_f, ↓E_isPlace_y, ↓E_isPlace_n, ↓E_isNumber_y, ↓E_isNumber_n, ↓M_isPlace_y, ↓M_isPlace_n, ↓M_isNumber_y, ↓M_isNumber_n, ↓M_in_y, ↓M_in_n, ↓us_ne, ↓Pool_leftOf_eq, ↓far, ↓el, RD_eq, ↓g1, ↓Pool_rightOf_eq, ert]
    rw [e8] at t1
    rw [t1, bnd_eq]
  · unfold M_sifts
    rw [rd_eq (by omega), show τb 3 7 = n - 1 by rw [g7 3 (by decide)]; exact a37, g8]
    exact t2
  · exact ((g3.pre hB hA fab a30).tr t3).le (by omega)
  · refine ⟨fun q hq => ?_, fun p hp => by rw [t7 3 (by decide), g7 3 (by decide), f1 3 (by decide)]⟩
    have h0 := hq 7 (by decide)
    have q1 := t6 q (fun k a b => by unfold vw; omega)
    have q2 := g6 q (fun k a b => by unfold vw; omega)
    have q3 := k1 q (fun k a b => by omega)
    exact ⟨q1.1.trans (q2.1.trans q3.1), q1.2.trans (q2.2.trans q3.2)⟩
theorem call_pop : HS_32 SS := by
  intro k σ τ z0 z1 hk hS i0 i1
  have hS0 := hS
  obtain ⟨⟨ρ, hW⟩, hT, hr, hn, hm⟩ := hS
  have hmc := hm.c hk
  unfold E_pop M_pop
  by_cases a : 0 ≤ z0 ∧ z0 < 6
  · have hP := hW.2.2 z0 a.1 a.2
    have s0 := hP.2.1
    have n0 := hP.1
    by_cases c : 0 ≤ z1 ∧ z1 < 6
    · by_cases d : σ 25 z0 = 0
      · refine ⟨-2, σ, us τ 33 0 0, ?_, ?_, hS0.thr⟩
        · simp (disch := omega) only [↓jn_e, ↓ite_y, ↓ite_n, ↓oadd_eq, ↓osub_eq, ↓omul_eq, ↓odiv_eq, ↓orem_eq, ↓rd_eq, ↓wr_eq, ↓gf_e, ↓pf_e, ↓bnd_e, ↓bndp_e, ↓opure_e, ↓oif_t, ↓oif_f, ↓E_isPlace_y, ↓E_isPlace_n, ↓E_isNumber_y, ↓E_isNumber_n, ↓M_isPlace_y, ↓M_isPlace_n, ↓M_isNumber_y, ↓M_isNumber_n, ↓M_in_y, ↓M_in_n, ↓us_ne]
        · simp (disch := omega) only [↓jn_e, ↓ite_y, ↓ite_n, ↓oadd_eq, ↓osub_eq, ↓omul_eq, ↓odiv_eq, ↓orem_eq, ↓rd_eq, ↓wr_eq, ↓gf_e, ↓pf_e, ↓bnd_e, ↓bndp_e, ↓opure_e, ↓oif_t, ↓oif_f, ↓E_isPlace_y, ↓E_isPlace_n, ↓E_isNumber_y, ↓E_isNumber_n, ↓M_isPlace_y, ↓M_isPlace_n, ↓M_isNumber_y, ↓M_isNumber_n, ↓M_in_y, ↓M_in_n, ↓us_ne]
      · have hv := hP.num (x := 0) (by omega)
        rw [sl_0 _ _ (Int.le_refl 0)] at hv
        obtain ⟨v, hv0⟩ : ∃ v, v = τ 1 (256 * z0 + 0) := ⟨_, rfl⟩
        rw [← hv0] at hv
        have n1 : Pool_numberOf σ (σ 24 z0) = some v := by rw [Pool_numberOf_eq, hv.1]
        have n2 : M_number (us (us τ 33 0 0) 32 0 0) z0 0 = some v := by rw [M_number_eq (by omega) (by omega), us_ne (by decide), us_ne (by decide), hv0]
        obtain ⟨σt, τt, t1, t2, t3, t4, t5, -⟩ := tells1 σ (us τ 33 0 0) (a := v) (by omega)
        have hWt : Wd ρ σt τt := hW.mv t4 (by decide) (Rws.fr (((fr_sc [5, 32, 33] τ 33 0 (by decide))).tr (t5.mono (by decide))) (by decide) (by decide) (by decide) []) (by decide) (by rw [t5 30 (by decide), us_ne (by decide)])
        have u1 : σt 32 0 = σ 32 0 := by rw [t4 32 (by decide)]
        have u2 : τt 30 0 = τ 30 0 := by rw [t5 30 (by decide), us_ne (by decide)]
        obtain ⟨σ1, ρ1, τ1, τ2, e1, e2, e3, hW1, hC, h6, h7, f1, g1, r1, m1, m2⟩ := open_ex hWt (by omega) a
        have q2 : σ1 25 z0 = σ 25 z0 := by rw [f1 25 (by decide), t4 25 (by decide)]
        rw [q2] at h6 h7
        have x6 := h6.2.1
        obtain ⟨τ3, hτ3⟩ : ∃ τ3, τ3 = us τ2 3 7 (σ 25 z0 - 1) := ⟨_, rfl⟩
        have f3 : Fr [3] τ2 τ3 := by rw [hτ3]; exact (Fr.rf _ _).us (by decide)
        have r3 : Rws [7] τ2 τ3 := by rw [hτ3]; exact ⟨fun q _ => ⟨us_ne (by decide), us_ne (by decide)⟩, fun p hp => us_ni (by simp at hp; exact hp)⟩
        have s7 : τ3 3 7 = σ 25 z0 - 1 := by rw [hτ3, us_eq]
        have s6 : τ3 3 6 = σ 25 z0 := by rw [r3.2 6 (by decide)]; exact x6
        have t30 : τ3 30 0 = τ2 30 0 := by rw [f3 30 (by decide)]
        have hC3 := hC.mv t30
        have h63 := h6.rw r3 (by decide)
        have fE0 : ∀ σ4 (f4 : Fr AE σ1 σ4), Fr (13 :: 34 :: AE) σ σ4 := fun σ4 f4 => (t4.mono (by decide)).tr ((f1.mono (by decide)).tr (f4.mono (by decide)))
        have fM0 : ∀ τ4 (g4 : Fr AM τ3 τ4), Fr (5 :: 32 :: AM) τ τ4 := fun τ4 g4 => ((fr_sc [33] τ 33 0 (by decide)).mono (by decide)).tr ((t5.mono (by decide)).tr ((g1.mono (by decide)).tr ((f3.mono (by decide)).tr (g4.mono (by decide)))))
        have hr0 : ∀ σ4 τ4 (f4 : Fr AE σ1 σ4) (g4 : Fr AM τ3 τ4), Rw σ4 τ4 := fun σ4 τ4 f4 g4 => t3.fr (((f1.mono (by decide)).tr f4) : Fr AE σt σ4) (((g1.mono (by decide)).tr ((f3.mono (by decide)).tr g4)) : Fr AM τt τ4) (by decide) (by decide)
        by_cases d1 : σ 25 z0 = 1
        · have hX := Sx.rf hW1.1 hW1.2.1 (f3.mono (by decide) : Fr FM τ2 τ3) t30
          have hI : RI ρ1 σ1 τ3 0 (σ 25 z0 - 1) 7 := ⟨by omega, s7, by rw [d1]; exact TW.zero _, fun x x0 xn => by omega⟩
          obtain ⟨σ4, τ4, e7, e8, hW4, f4, g4, k1, k2, k3⟩ := close_ex hW1 hX (by omega) r3 (by decide) hI c ⟨by rw [f1 32 (by decide)], m1, m2⟩ (by omega)
          have e4 : Pool_popped σ1 (σ1 24 z0) (σ 25 z0) = some (0, σ1) := by unfold Pool_popped; exact if_neg (by omega)
          refine ⟨σ4 32 0 - σt 32 0, σ4, τ4, ?_, ?_, hS0.finr hW4 (fE0 _ (f4.mono (by decide))) (fM0 _ (g4.mono (by decide))) (hr0 _ _ (f4.mono (by decide)) (g4.mono (by decide))) k1 ⟨by omega, by omega⟩⟩
          · simp (disch := omega) only [↓jn_e, ↓ite_y, ↓ite_n, ↓oadd_eq, ↓osub_eq, ↓omul_eq, ↓odiv_eq, ↓orem_eq, ↓rd_eq, ↓wr_eq, ↓gf_e, ↓pf_e, ↓bnd_e, ↓bndp_e, ↓opure_e, ↓oif_t, ↓oif_f, ↓E_isPlace_y, ↓E_isPlace_n, ↓E_isNumber_y, ↓E_isNumber_n, ↓M_isPlace_y, ↓M_isPlace_n, ↓M_isNumber_y, ↓M_isNumber_n, ↓M_in_y, ↓M_in_n, ↓us_ne, ↓n1, ↓t1, ↓e1, ↓e4, ↓e7]
          · simp (disch := omega) only [↓jn_e, ↓ite_y, ↓ite_n, ↓oadd_eq, ↓osub_eq, ↓omul_eq, ↓odiv_eq, ↓orem_eq, ↓rd_eq, ↓wr_eq, ↓gf_e, ↓pf_e, ↓bnd_e, ↓bndp_e, ↓opure_e, ↓oif_t, ↓oif_f, ↓E_isPlace_y, ↓E_isPlace_n, ↓E_isNumber_y, ↓E_isNumber_n, ↓M_isPlace_y, ↓M_isPlace_n, ↓M_isNumber_y, ↓M_isNumber_n, ↓M_in_y, ↓M_in_n, ↓us_ne, ↓n2, ↓t2, ↓e2, ↓e3, x6, ← hτ3, s7]
            simp (disch := omega) only [↓jn_e, ↓ite_y, ↓ite_n, ↓oadd_eq, ↓osub_eq, ↓omul_eq, ↓odiv_eq, ↓orem_eq, ↓rd_eq, ↓wr_eq, ↓gf_e, ↓pf_e, ↓bnd_e, ↓bndp_e, ↓opure_e, ↓oif_t, ↓oif_f, ↓E_isPlace_y, ↓E_isPlace_n, ↓E_isNumber_y, ↓E_isNumber_n, ↓M_isPlace_y, ↓M_isPlace_n, ↓M_isNumber_y, ↓M_isNumber_n, ↓M_in_y, ↓M_in_n, ↓us_ne, ↓e8]
        · obtain ⟨y, σ3, τa, τb, τc, ρ3, e4, e5, a36, e6, e6b, hX, hI, r4⟩ := op_pop (hC3.le (e := 30) (by omega)) h63 (by omega) s7
          have hX' := hX.pre (τ := τ2) hW1.1 hW1.2.1 (f3.mono (by decide)) t30
          obtain ⟨σ4, τ4, e7, e8, hW4, f4, g4, k1, k2, k3⟩ := close_ex hW1 hX' (by omega) (r3.tr r4) (by decide) hI c ⟨by rw [f1 32 (by decide)], m1, m2⟩ (by omega)
          have l1 := M_rightSize_eq (n := σ 25 z0) (by omega)
          have l2 := M_leftSize_eq (n := σ 25 z0) (by omega)
          refine ⟨σ4 32 0 - σt 32 0, σ4, τ4, ?_, ?_, hS0.finr hW4 (fE0 _ ((hX.2.2.2.2.2.1.mono (by decide)).tr (f4.mono (by decide)))) (fM0 _ ((hX.2.2.2.2.2.2.1.mono (by decide)).tr (g4.mono (by decide)))) (hr0 _ _ ((hX.2.2.2.2.2.1.mono (by decide)).tr (f4.mono (by decide))) ((hX.2.2.2.2.2.2.1.mono (by decide)).tr (g4.mono (by decide)))) k1 ⟨by omega, by omega⟩⟩
          · simp (disch := omega) only [↓jn_e, ↓ite_y, ↓ite_n, ↓oadd_eq, ↓osub_eq, ↓omul_eq, ↓odiv_eq, ↓orem_eq, ↓rd_eq, ↓wr_eq, ↓gf_e, ↓pf_e, ↓bnd_e, ↓bndp_e, ↓opure_e, ↓oif_t, ↓oif_f, ↓E_isPlace_y, ↓E_isPlace_n, ↓E_isNumber_y, ↓E_isNumber_n, ↓M_isPlace_y, ↓M_isPlace_n, ↓M_isNumber_y, ↓M_isNumber_n, ↓M_in_y, ↓M_in_n, ↓us_ne, ↓n1, ↓t1, ↓e1, ↓e4, ↓e7]
          · simp (disch := omega) only [↓jn_e, ↓ite_y, ↓ite_n, ↓oadd_eq, ↓osub_eq, ↓omul_eq, ↓odiv_eq, ↓orem_eq, ↓rd_eq, ↓wr_eq, ↓gf_e, ↓pf_e, ↓bnd_e, ↓bndp_e, ↓opure_e, ↓oif_t, ↓oif_f, ↓E_isPlace_y, ↓E_isPlace_n, ↓E_isNumber_y, ↓E_isNumber_n, ↓M_isPlace_y, ↓M_isPlace_n, ↓M_isNumber_y, ↓M_isNumber_n, ↓M_in_y, ↓M_in_n, ↓us_ne, ↓n2, ↓t2, ↓e2, ↓e3, x6, ← hτ3, s7, s6, ↓l1, ↓e5, a36, ↓l2, ↓e6, ↓e6b, ↓e8]
    · refine ⟨-1, σ, us τ 33 0 0, ?_, ?_, hS0.thr⟩
      · simp (disch := omega) only [↓jn_e, ↓ite_y, ↓ite_n, ↓oadd_eq, ↓osub_eq, ↓omul_eq, ↓odiv_eq, ↓orem_eq, ↓rd_eq, ↓wr_eq, ↓gf_e, ↓pf_e, ↓bnd_e, ↓bndp_e, ↓opure_e, ↓oif_t, ↓oif_f, ↓E_isPlace_y, ↓E_isPlace_n, ↓E_isNumber_y, ↓E_isNumber_n, ↓M_isPlace_y, ↓M_isPlace_n, ↓M_isNumber_y, ↓M_isNumber_n, ↓M_in_y, ↓M_in_n, ↓us_ne]
      · simp (disch := omega) only [↓jn_e, ↓ite_y, ↓ite_n, ↓oadd_eq, ↓osub_eq, ↓omul_eq, ↓odiv_eq, ↓orem_eq, ↓rd_eq, ↓wr_eq, ↓gf_e, ↓pf_e, ↓bnd_e, ↓bndp_e, ↓opure_e, ↓oif_t, ↓oif_f, ↓E_isPlace_y, ↓E_isPlace_n, ↓E_isNumber_y, ↓E_isNumber_n, ↓M_isPlace_y, ↓M_isPlace_n, ↓M_isNumber_y, ↓M_isNumber_n, ↓M_in_y, ↓M_in_n, ↓us_ne]
  · refine ⟨-1, σ, us τ 33 0 0, ?_, ?_, hS0.thr⟩
    · simp (disch := omega) only [↓jn_e, ↓ite_y, ↓ite_n, ↓oadd_eq, ↓osub_eq, ↓omul_eq, ↓odiv_eq, ↓orem_eq, ↓rd_eq, ↓wr_eq, ↓gf_e, ↓pf_e, ↓bnd_e, ↓bndp_e, ↓opure_e, ↓oif_t, ↓oif_f, ↓E_isPlace_y, ↓E_isPlace_n, ↓E_isNumber_y, ↓E_isNumber_n, ↓M_isPlace_y, ↓M_isPlace_n, ↓M_isNumber_y, ↓M_isNumber_n, ↓M_in_y, ↓M_in_n, ↓us_ne]
    · simp (disch := omega) only [↓jn_e, ↓ite_y, ↓ite_n, ↓oadd_eq, ↓osub_eq, ↓omul_eq, ↓odiv_eq, ↓orem_eq, ↓rd_eq, ↓wr_eq, ↓gf_e, ↓pf_e, ↓bnd_e, ↓bndp_e, ↓opure_e, ↓oif_t, ↓oif_f, ↓E_isPlace_y, ↓E_isPlace_n, ↓E_isNumber_y, ↓E_isNumber_n, ↓M_isPlace_y, ↓M_isPlace_n, ↓M_isNumber_y, ↓M_isNumber_n, ↓M_in_y, ↓M_in_n, ↓us_ne]

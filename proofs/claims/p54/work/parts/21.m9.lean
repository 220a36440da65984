-- MATH 9: FIRST, both sides
theorem first_step : ∀ (d : Nat) (σ τ : St) (ρ : Int → Int → Prop) (t n fr sp to by_ : Int), Bi ρ σ τ → Alloc σ → (d : Int) ≤ σ 31 0 → (0 ≤ σ 32 0 ∧ σ 32 0 + d ≤ 2147483000) → (0 ≤ τ 30 0 ∧ τ 30 0 + d ≤ 2147483000) →
    n < p2 d → (1 ≤ n ∧ n ≤ 255) → TW σ t n → (0 ≤ fr ∧ fr ≤ 1000) → (1 ≤ sp ∧ sp ≤ 512) → (0 ≤ to ∧ to ≤ 1000) → (1 ≤ by_ ∧ by_ ≤ sp) → Vok fr sp n → Vok to by_ (n - 1) → Co ρ σ τ t (vw 6 fr sp) n →
    ∃ y σ' τ' ρ', Pool_firstGone d σ t n = some (y, σ') ∧ M_firsts d τ fr sp n to by_ = some (0, τ') ∧ Sx ρ σ τ ρ' σ' τ' d ∧ TW σ' y (n - 1) ∧ Co ρ' σ' τ' y (vw 7 to by_) (n - 1) ∧ Keep7 τ τ' to by_ (n - 1) ∧ Fr [1, 2, 30] τ τ' := by
  intro d
  induction d with
  | zero =>
    intro σ τ ρ t n fr sp to by_ _ _ _ _ _ h
    unfold p2 at h
    intro hn; exfalso; omega
  | succ d ih =>
    intro σ τ ρ t n fr sp to by_ hB hA hf hs hm hp hn hT hfr hsp hto hby hVs hVd hC
    unfold p2 at hp
    unfold Pool_firstGone M_firsts
    by_cases hn1 : n = 1
    · subst hn1
      simp (disch := omega) only [ite_n, ite_y]
      refine ⟨0, σ, τ, ρ, rfl, rfl, (Sx.rf hB hA (Fr.rf _ _) rfl).le (by omega), TW.zero σ, fun x x0 xn => by omega, fun q hq => ⟨rfl, rfl⟩, Fr.rf _ _⟩
    · have hs1 := hVs 1 (by omega) (by omega)
      have hd0 := hVd 0 (by omega) (by omega)
      have hut := hT.root (by omega)
      have hTr := hT.rt (by omega)
      have hTl := hT.lf (by omega)
      have hC1 := hC 1 (by omega) (by omega)
      rw [sl_odd σ t (j := 0) (by omega) (by omega), sl_0 _ _ (Int.le_refl 0)] at hC1
      have ev1 : vw 6 fr sp 1 = 256 * 6 + (fr + sp) := by unfold vw; omega
      rw [ev1] at hC1
      have hul := hTl.root (by omega)
      simp (disch := omega) only [ite_n, ite_y, bndp_eq, oadd_eq, omul_eq, Pool_leftOf_eq, E_leftSize_eq, M_number_eq]
      rw [← hC1.2.1]
      rw [← hC1.2.1] at hC1
      obtain ⟨τ1, e0, f1, h31, h1v, h1n, h1q⟩ := makes_ex (τ := τ) (r := 7) (a := to) (v := nu σ (lf σ t)) (by omega) (by omega) (by omega)
      rw [e0]
      simp (disch := omega) only [ite_n, ite_y, bnd_eq, bndp_eq, oadd_eq, omul_eq, M_leftSize_eq, M_rightSize_eq]
      have Vs2 : Vok (fr + sp) (2 * sp) (n / 2) := hVs.o (fun k a b => by omega) (by omega)
      have Vd2 : Vok (to + 2 * by_) (2 * by_) (n / 2 - 1) := hVd.e (fun k a b => by omega) (by omega)
      have Vs3 : Vok (fr + 2 * sp) (2 * sp) ((n - 1) / 2) := hVs.e (fun k a b => by omega) (by omega)
      have Vd3 : Vok (to + by_) (2 * by_) ((n - 1) / 2) := hVd.o (fun k a b => by omega) (by omega)
      obtain ⟨τ2, e2, f2, c2, k2⟩ := M_shares_eq τ1 6 (fr + 2 * sp) (2 * sp) ((n - 1) / 2) 7 (to + by_) (2 * by_) (by omega) (by omega) (by omega) (by omega) (by omega) (by omega) (by omega) (by omega) Vs3 Vd3
      rw [e2]
      simp (disch := omega) only [bnd_eq, bndp_eq]
      -- row 6 as before
      have r6 : ∀ x, 0 ≤ x → x < n → τ2 1 (vw 6 fr sp x) = τ 1 (vw 6 fr sp x) ∧ τ2 2 (vw 6 fr sp x) = τ 2 (vw 6 fr sp x) := fun x x0 xn => by
        have b1 := hVs x x0 xn
        have b2 := k2 (vw 6 fr sp x) (fun k k0 kn => by have := Vd3 k k0 kn; unfold vw; omega)
        have b3 := h1q (vw 6 fr sp x) (by unfold vw; omega)
        exact ⟨b2.1.trans b3.1, b2.2.trans b3.2⟩
      have fm2 : Fr [1, 2, 30] τ τ2 := f1.tr (f2.mono (by decide))
      have h32 : τ2 30 0 = τ 30 0 + 1 := by rw [f2 30 (by decide), h31]
      have hCl : Co ρ σ τ2 (lf σ t) (vw 6 (fr + sp) (2 * sp)) (n / 2) := fun x x0 xn => by
        have c := hC (2 * x + 1) (by omega) (by omega)
        have r := r6 (2 * x + 1) (by omega) (by omega)
        rw [← r.1, ← r.2, sl_odd σ t x0 rfl, vw_o] at c
        exact c
      obtain ⟨y1, σ3, τ3, ρ3, g1, g2, g3, g4, g5, g6, g7⟩ := ih σ τ2 ρ (lf σ t) (n / 2) (fr + sp) (2 * sp) (to + 2 * by_) (2 * by_) (hB.mono (by omega)) hA (by omega) (by omega) (by omega) (by omega) (by omega) hTl (by omega) (by omega) (by omega) (by omega) Vs2 Vd2 hCl
      have g3' := g3
      obtain ⟨s1, s2, s3, s4, s5, s6, s7, s8⟩ := g3'
      unfold Cnt at s8
      rw [g1, g2]
      have ert : rt σ3 t = rt σ t := by rw [rt_used (s5 t hut).1, rt_used hut]; exact (s5 t hut).2.2.2
      have enu : nu σ3 (lf σ t) = nu σ (lf σ t) := nu_ext hul s5
      simp only [bnd_eq, bndp_eq, Pool_rightOf_eq, Pool_numberOf_eq, ert, enu]
      obtain ⟨y, σ4, e4, hM⟩ := make_eq σ3 (nu σ (lf σ t)) (rt σ t) y1 s4 (by omega) (by omega)
      rw [e4]
      simp only [bnd_eq]
      have k3 : ∀ q, (∀ j, 0 ≤ j → j < n / 2 - 1 → q ≠ vw 7 to by_ (2 * j + 2)) → τ3 1 q = τ2 1 q ∧ τ3 2 q = τ2 2 q := fun q hq => g6 q (fun j j0 jn => by rw [← vw_e]; exact hq j j0 jn)
      have k0 := k3 (vw 7 to by_ 0) (fun j _ _ => vw_ne (by omega) (by omega))
      have k20 := k2 (vw 7 to by_ 0) (fun k k0 kn => by
        have := vw_ne (r := 7) (a := to) (b := by_) (j := 0) (k := 2 * k + 1) (by omega) (by omega)
        rw [vw_o] at this
        exact this)
      obtain ⟨ρ4, q1, q2, q3⟩ := fin_node (g := vw 7 to by_) hB g3 h32 (by omega) (fm2.mono (by decide)) hM (hTr.ext s5 (by omega)) g4 (by omega) (by omega) (by omega)
        (by rw [k0.1, k20.1, vw_0, h1v]) (by rw [k0.2, k20.2, vw_0, h1n, h32])
        (by
          refine Co.stp (g := fun x => vw 6 fr sp (2 * x + 2)) (σ := σ) (τ := τ) (ρ := ρ) (fun x x0 xn => ?_) hTr (by omega) s1 s5 (fun x x0 xn => ?_)
          · have c := hC (2 * x + 2) (by omega) (by omega)
            rw [sl_even σ t x0 rfl] at c
            exact c
          · have c := c2 x x0 xn
            have k := k3 (vw 7 to by_ (2 * x + 1)) (fun j _ _ => vw_ne (by omega) (by omega))
            have b1 := Vs3 x x0 xn
            have b3 := h1q (vw 6 fr sp (2 * x + 2)) (by rw [vw_e]; unfold vw; omega)
            rw [k.1, k.2, ← b3.1, ← b3.2, vw_e, vw_o]
            exact c)
        (by
          intro x x0 xn
          have := g5 x x0 xn
          rw [← vw_e] at this
          exact this)
      have e : (n - 1) / 2 + (n / 2 - 1) + 1 = n - 1 := by omega
      refine ⟨y, σ4, τ3, ρ4, rfl, rfl, q1.le (by omega), e ▸ q2, e ▸ q3, fun q hq => ?_, fm2.tr g7⟩
      · have a3 := k3 q (fun j j0 jn => hq (2 * j + 2) (by omega) (by omega))
        have a2 := k2 q (fun j j0 jn => by
          have := hq (2 * j + 1) (by omega) (by omega)
          rw [vw_o] at this
          exact this)
        have a1 := h1q q (by have := hq 0 (by omega) (by omega); rw [vw_0] at this; exact this)
        exact ⟨a3.1.trans (a2.1.trans a1.1), a3.2.trans (a2.2.trans a1.2)⟩

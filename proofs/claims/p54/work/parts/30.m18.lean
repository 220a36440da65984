-- MATH 18: fills
def hd : Nat → Int → Int
  | 0, n => n
  | d + 1, n => (hd d n - 1) / 2
def dp (n : Int) : Nat := if n < 1 then 0 else if n < 3 then 1 else if n < 7 then 2 else if n < 15 then 3 else if n < 31 then 4 else if n < 63 then 5 else if n < 127 then 6 else if n < 255 then 7 else 8
theorem hd_f : ∀ n : Fin 256, ∀ d : Fin 9, bshr ((n.val : Int) + 1) (d.val : Int) = hd d.val (n.val : Int) + 1 ∨ dp (n.val : Int) < d.val := by decide +kernel
theorem hd_dp_f : ∀ n : Fin 256, hd (dp (n.val : Int)) (n.val : Int) = 0 ∧ dp (n.val : Int) ≤ 8 := by decide +kernel
theorem Shape_depth_f : ∀ x : Fin 255, Shape_depth (x.val : Int) = some ((dp (x.val : Int) : Nat) : Int) := by decide +kernel
theorem Shape_depth_eq {x : Int} (h : 0 ≤ x ∧ x < 255) : Shape_depth x = some ((dp x : Nat) : Int) := by
  have h1 := Shape_depth_f ⟨x.toNat, by omega⟩
  have h2 : ((x.toNat : Nat) : Int) = x := by omega
  simp only [h2] at h1
  exact h1
theorem Shape_depth_255 : Shape_depth 255 = some 8 := by decide +kernel
theorem Shape_depth_all {x : Int} (h : 0 ≤ x ∧ x ≤ 255) : Shape_depth x = some ((dp x : Nat) : Int) := by
  by_cases e : x = 255
  · rw [e]; exact Shape_depth_255
  · exact Shape_depth_eq (by omega)
theorem hd_eq {n : Int} (h : 0 ≤ n ∧ n ≤ 255) {d : Nat} (hd1 : d ≤ dp n) : bshr (n + 1) (d : Int) = hd d n + 1 := by
  have hb := (hd_dp_f ⟨n.toNat, by omega⟩).2
  have h2 : ((n.toNat : Nat) : Int) = n := by omega
  simp only [h2] at hb
  have h1 := hd_f ⟨n.toNat, by omega⟩ ⟨d, by omega⟩
  simp only [h2] at h1
  rcases h1 with h1 | h1
  · exact h1
  · omega
theorem hd_dp {n : Int} (h : 0 ≤ n ∧ n ≤ 255) : hd (dp n) n = 0 ∧ dp n ≤ 8 := by
  have hb := hd_dp_f ⟨n.toNat, by omega⟩
  have h2 : ((n.toNat : Nat) : Int) = n := by omega
  simp only [h2] at hb
  exact hb
theorem hd_rng {n : Int} (h : 0 ≤ n ∧ n ≤ 255) : ∀ d, d ≤ dp n → 0 ≤ hd d n ∧ hd d n ≤ 255 ∧ (d < dp n → 1 ≤ hd d n) := by
  have h0 : ∀ e d, d + e = dp n → hd (d + e) n = 0 → -1 ≤ hd d n := fun e => by
    induction e with
    | zero => intro d h1 h2; rw [Nat.add_zero] at h2; omega
    | succ e ih =>
      intro d h1 h2
      have := ih (d + 1) (by omega) (by rw [show d + 1 + e = d + (e + 1) by omega]; exact h2)
      unfold hd at this
      omega
  have hup : ∀ d, hd d n ≤ 255 := fun d => by
    induction d with
    | zero => unfold hd; omega
    | succ d ih => unfold hd; omega
  intro d hd1
  have hz := hd_dp h
  have hl : ∀ d, d ≤ dp n → 0 ≤ hd d n := fun d hd9 => by
    obtain ⟨e, he⟩ : ∃ e, d + e = dp n := ⟨dp n - d, by omega⟩
    clear hd1
    induction e generalizing d with
    | zero => rw [Nat.add_zero] at he; rw [he, hz.1]; exact Int.le_refl 0
    | succ e ih =>
      have := ih (d + 1) (by omega) (by omega)
      unfold hd at this
      omega
  refine ⟨hl d hd1, hup d, fun hlt => ?_⟩
  have := hl (d + 1) (by omega)
  unfold hd at this
  omega
theorem fills_loop {n v : Int} (hn : 0 ≤ n ∧ n ≤ 255) (hv : -999 ≤ v ∧ v ≤ 999) {ρ : Int → Int → Prop} {σ τ : St} (hC : Cx ρ σ τ 100) : ∀ (t d : Nat), d + t = dp n → ∃ (less more : Int) (σ1 τ1 : St) (ρ1 : Int → Int → Prop) (σ0 : St) (more0 : Int),
      Pool_make σ v 0 0 = some (more0, σ0) ∧ (∀ f, t < f → Pool_alike_L19 n v f σ0 0 more0 ((dp n : Nat) - 1 : Int) = Pool_alike_L19 n v (f - t) σ1 less more ((d : Int) - 1)) ∧ (∀ f, t < f → M_fillsCouple f τ (hd d n) v = some (0, τ1)) ∧
      Sx ρ σ τ ρ1 σ1 τ1 (2 * (t : Int) + 1) ∧ RI ρ1 σ1 τ1 less (hd d n) 8 ∧ (hd d n + 1 ≤ 255 → RI ρ1 σ1 τ1 more (hd d n + 1) 9) ∧ Rws [6, 7, 8, 9] τ τ1 := by
  intro t
  induction t with
  | zero =>
    intro d hd1
    rw [Nat.add_zero] at hd1
    obtain ⟨hB, hA, hf, hs, hm⟩ := hC
    have hz := hd_dp hn
    obtain ⟨τa, hτa⟩ : ∃ τa, τa = us (us τ 3 8 0) 3 9 1 := ⟨_, rfl⟩
    have ga : Fr [3] τ τa := by rw [hτa]; exact ((Fr.rf _ _).us (by decide)).us (by decide)
    have a30 : τa 30 0 = τ 30 0 := by rw [ga 30 (by decide)]
    obtain ⟨τ1, e0, f1, h31, h1v, h1n, h1q⟩ := makes_ex (τ := τa) (r := 9) (a := 0) (v := v) (by omega) (by omega) (by omega)
    obtain ⟨y, σ1, e1, hM⟩ := make_eq σ v 0 0 hA (by omega) (by omega)
    obtain ⟨ρ2, q1, q2, q3⟩ := fin_node (g := vw 9 0 1) (τ2 := τ1) hB (Sx.rf (hB.mono (τ' := τ1) (by omega)) hA (Fr.rf _ _) rfl) (by omega) (by omega) ((ga.mono (by decide)).tr (f1.mono (by decide))) hM (TW.zero σ) (TW.zero σ) (by omega) (by omega) hv
      (by rw [vw1, h1v]) (by rw [vw1, h1n]; omega) (fun x x0 xn => by omega) (fun x x0 xn => by omega)
    have s8 : τ1 3 8 = 0 := by rw [f1 3 (by decide), hτa, us_ni (by decide), us_eq]
    have s9 : τ1 3 9 = 1 := by rw [f1 3 (by decide), hτa, us_eq]
    have hdz : hd d n = 0 := by rw [hd1]; exact hz.1
    refine ⟨0, y, σ1, τ1, ρ2, σ1, y, e1, fun f hf => ?_, fun f hf => ?_, q1.le (by omega), ?_, ?_, ⟨fun q hq => ?_, fun p hp => ?_⟩⟩
    · rw [Nat.sub_zero, hd1]
    · cases f with
      | zero => omega
      | succ f =>
        rw [hdz]
        unfold M_fillsCouple
        rw [if_pos rfl, wr_eq (by omega), wr_eq (by omega), ← hτa, e0, bnd_eq]
    · rw [hdz]
      exact ⟨by omega, s8, TW.zero _, fun x x0 xn => by omega⟩
    · rw [hdz]
      exact fun _ => ⟨by omega, s9, q2, q3⟩
    · have b := h1q q (by have := hq 9 (by decide); omega)
      rw [b.1, b.2, ga 1 (by decide), ga 2 (by decide)]
      exact ⟨rfl, rfl⟩
    · rw [f1 3 (by decide), hτa, us_ni (fun e => hp (by rw [e]; decide)), us_ni (fun e => hp (by rw [e]; decide))]
  | succ t ih =>
    intro d hd1
    obtain ⟨less, more, σ1, τ1, ρ1, σ0, more0, e0, eE, eM, hX, hL, hM, rr⟩ := ih (d + 1) (by omega)
    have hz := hd_dp hn
    have hr := hd_rng hn d (by omega)
    have h1 := hr.2.2 (by omega)
    have hC1 : Cx ρ1 σ1 τ1 50 := hC.sx hX (by omega)
    obtain ⟨m, hmm⟩ : ∃ m, m = hd d n := ⟨_, rfl⟩
    obtain ⟨q, hqq⟩ : ∃ q, q = hd (d + 1) n := ⟨_, rfl⟩
    have hqm : q = (m - 1) / 2 := by rw [hqq, hmm]; rfl
    rw [← hmm] at hr h1 ⊢
    rw [← hqq] at eM hL hM
    have hM := hM (by omega)
    -- the reference: rows 8, 9 come to 6, 7
    have hL0 := hL.1
    have sL := hL.2.1
    have sM := hM.2.1
    obtain ⟨τ2, d2, g2, r2, s2, c2⟩ := takes_ex τ1 8 6 (by omega) (by omega) (by omega)
    rw [sL] at s2 c2
    have s29 : τ2 3 9 = q + 1 := by rw [r2.2 9 (by decide), sM]
    obtain ⟨τ3, d3, g3, r3, s3, c3⟩ := takes_ex τ2 9 7 (by omega) (by omega) (by omega)
    rw [s29] at s3 c3
    have gf3 : Fr FM τ1 τ3 := (g2.mono (by decide)).tr (g3.mono (by decide))
    have t30 : τ3 30 0 = τ1 30 0 := by rw [g3 30 (by decide), g2 30 (by decide)]
    have hX3 : Sx ρ σ τ ρ1 σ1 τ3 (2 * (t : Int) + 1) := hX.post gf3 t30
    have hC3 : Cx ρ1 σ1 τ3 50 := hC1.mv t30
    have h6 : RI ρ1 σ1 τ3 less q 6 := (hL.cp s2 c2).rw r3 (by decide)
    have h7 : RI ρ1 σ1 τ3 more (q + 1) 7 := (hM.rw r2 (by decide)).cp s3 c3
    by_cases hod : m % 2 = 1
    · -- odd
      obtain ⟨a, σ4, τ4, ρ4, a1, a2, aX, aI, ar⟩ := joins_ex (to := 8) (hC3.le (by omega)) h6 h6 (Or.inl rfl) (by omega) (by omega) (by omega) (by omega) (by omega) (by omega) hv
      have h6' := h6.sw aX ar (by decide)
      have h7' := h7.sw aX ar (by decide)
      have hC4 : Cx ρ4 σ4 τ4 40 := hC3.sx aX (by omega)
      obtain ⟨b, σ5, τ5, ρ5, b1, b2, bX, bI, br⟩ := joins_ex (to := 9) (hC4.le (by omega)) h7' h6' (Or.inr rfl) (by omega) (by omega) (by omega) (by omega) (by omega) (by omega) hv
      have aI' := (aI (by omega)).sw bX br (by decide)
      have i1 : 1 + q + q = m := by omega
      have i2 : 1 + (q + 1) + q = m + 1 := by omega
      rw [i1] at aI'
      rw [i2] at bI
      have ed : (d : Int) + -1 = (d : Int) - 1 := by omega
      refine ⟨a, b, σ5, τ5, ρ5, σ0, more0, e0, fun f hf => ?_, fun f hf => ?_, ((hX3.tr aX).tr bX).le (by omega), aI', fun hle => bI (by omega), (rr.tr ((r2.mono (by decide)).tr ((r3.mono (by decide)).tr ((ar.mono (by decide)).tr (br.mono (by decide))))))⟩
      · rw [eE f (by omega)]
        obtain ⟨g, hg⟩ : ∃ g, f - t = g + 1 := ⟨f - t - 1, by omega⟩
        have hg2 : f - (t + 1) = g := by omega
        rw [hg, hg2]
        have hb := hd_eq hn (d := d) (by omega)
        rw [← hmm] at hb
        have hdd : ((d + 1 : Nat) : Int) - 1 = (d : Int) := by omega
        rw [hdd]
        conv => lhs; unfold Pool_alike_L19
        simp (disch := omega) only [↓jn_e, ↓ite_y, ↓ite_n, ↓oadd_eq, ↓osub_eq, ↓omul_eq, ↓odiv_eq, ↓orem_eq, ↓rd_eq, ↓wr_eq, ↓gf_e, ↓pf_e, ↓bnd_e, ↓bndp_e, ↓opure_e, ↓oif_t, ↓oif_f, ↓E_isPlace_y, ↓E_isPlace_n, ↓E_isNumber_y, ↓E_isNumber_n, ↓M_isPlace_y, ↓M_isPlace_n, ↓M_isNumber_y, ↓M_isNumber_n, ↓M_in_y, ↓M_in_n, ↓us_ne, ↓a1, ↓b1, ed]
      · cases f with
        | zero => omega
        | succ f =>
          unfold M_fillsCouple
          have eM' := eM f (by omega)
          simp (disch := omega) only [↓jn_e, ↓ite_y, ↓ite_n, ↓oadd_eq, ↓osub_eq, ↓omul_eq, ↓odiv_eq, ↓orem_eq, ↓rd_eq, ↓wr_eq, ↓gf_e, ↓pf_e, ↓bnd_e, ↓bndp_e, ↓opure_e, ↓oif_t, ↓oif_f, ↓E_isPlace_y, ↓E_isPlace_n, ↓E_isNumber_y, ↓E_isNumber_n, ↓M_isPlace_y, ↓M_isPlace_n, ↓M_isNumber_y, ↓M_isNumber_n, ↓M_in_y, ↓M_in_n, ↓us_ne, ← hqm, ↓eM', ↓d2, ↓d3, ↓a2, ↓b2]
    · -- even
      have hq1 : q = (m - 2) / 2 := by omega
      obtain ⟨a, σ4, τ4, ρ4, a1, a2, aX, aI, ar⟩ := joins_ex (to := 8) (hC3.le (by omega)) h7 h6 (Or.inr rfl) (by omega) (by omega) (by omega) (by omega) (by omega) (by omega) hv
      have h7' := h7.sw aX ar (by decide)
      have hC4 : Cx ρ4 σ4 τ4 40 := hC3.sx aX (by omega)
      obtain ⟨b, σ5, τ5, ρ5, b1, b2, bX, bI, br⟩ := joins_ex (to := 9) (hC4.le (by omega)) h7' h7' (Or.inl rfl) (by omega) (by omega) (by omega) (by omega) (by omega) (by omega) hv
      have aI' := (aI (by omega)).sw bX br (by decide)
      have i1 : 1 + (q + 1) + q = m := by omega
      have i2 : 1 + (q + 1) + (q + 1) = m + 1 := by omega
      rw [i1] at aI'
      rw [i2] at bI
      have ed : (d : Int) + -1 = (d : Int) - 1 := by omega
      refine ⟨a, b, σ5, τ5, ρ5, σ0, more0, e0, fun f hf => ?_, fun f hf => ?_, ((hX3.tr aX).tr bX).le (by omega), aI', fun hle => bI (by omega), (rr.tr ((r2.mono (by decide)).tr ((r3.mono (by decide)).tr ((ar.mono (by decide)).tr (br.mono (by decide))))))⟩
      · rw [eE f (by omega)]
        obtain ⟨g, hg⟩ : ∃ g, f - t = g + 1 := ⟨f - t - 1, by omega⟩
        have hg2 : f - (t + 1) = g := by omega
        rw [hg, hg2]
        have hb := hd_eq hn (d := d) (by omega)
        rw [← hmm] at hb
        have hdd : ((d + 1 : Nat) : Int) - 1 = (d : Int) := by omega
        rw [hdd]
        conv => lhs; unfold Pool_alike_L19
        simp (disch := omega) only [↓jn_e, ↓ite_y, ↓ite_n, ↓oadd_eq, ↓osub_eq, ↓omul_eq, ↓odiv_eq, ↓orem_eq, ↓rd_eq, ↓wr_eq, ↓gf_e, ↓pf_e, ↓bnd_e, ↓bndp_e, ↓opure_e, ↓oif_t, ↓oif_f, ↓E_isPlace_y, ↓E_isPlace_n, ↓E_isNumber_y, ↓E_isNumber_n, ↓M_isPlace_y, ↓M_isPlace_n, ↓M_isNumber_y, ↓M_isNumber_n, ↓M_in_y, ↓M_in_n, ↓us_ne, ↓a1, ↓b1, ed]
      · cases f with
        | zero => omega
        | succ f =>
          unfold M_fillsCouple
          have eM' := eM f (by omega)
          simp (disch := omega) only [↓jn_e, ↓ite_y, ↓ite_n, ↓oadd_eq, ↓osub_eq, ↓omul_eq, ↓odiv_eq, ↓orem_eq, ↓rd_eq, ↓wr_eq, ↓gf_e, ↓pf_e, ↓bnd_e, ↓bndp_e, ↓opure_e, ↓oif_t, ↓oif_f, ↓E_isPlace_y, ↓E_isPlace_n, ↓E_isNumber_y, ↓E_isNumber_n, ↓M_isPlace_y, ↓M_isPlace_n, ↓M_isNumber_y, ↓M_isNumber_n, ↓M_in_y, ↓M_in_n, ↓us_ne, ← hq1, ↓eM', ↓d2, ↓d3, ↓a2, ↓b2]
theorem call_fills : HS_4 SS := by
  intro k σ τ z0 z1 z2 hk hS i0 i1 i2
  have hS0 := hS
  obtain ⟨⟨ρ, hW⟩, hT, hr, hn, hm⟩ := hS
  have hmc := hm.c hk
  unfold E_fills M_fills
  by_cases a : 0 ≤ z0 ∧ z0 ≤ 255
  · by_cases b : -999 ≤ z1 ∧ z1 ≤ 999
    · by_cases c : 0 ≤ z2 ∧ z2 < 6
      · obtain ⟨σ1, ρ1, e1, hW1, hf, f1⟩ := begin_ex (hW.sc (f := 33) (v := 0) (by decide))
        have h32 : σ1 32 0 = σ 32 0 := by rw [f1 32 (by decide)]
        have h30 : us τ 33 0 0 30 0 = τ 30 0 := us_ne (by decide)
        obtain ⟨τ1, hτ1⟩ : ∃ τ1, τ1 = us (us τ 33 0 0) 34 0 (us τ 33 0 0 30 0) := ⟨_, rfl⟩
        have e2 : M_begins (us τ 33 0 0) = some (0, τ1) := by rw [hτ1]; rfl
        have hW2 : Wd ρ1 σ1 τ1 := by rw [hτ1]; exact hW1.sc (by decide)
        have t30 : τ1 30 0 = τ 30 0 := by rw [hτ1, us_ne (by decide)]; exact h30
        have t34 : τ1 34 0 = τ 30 0 := by rw [hτ1, us_eq]; exact h30
        have g1 : Fr [33, 34] τ τ1 := by rw [hτ1]; exact (fr_sc _ τ 33 0 (by decide)).us (by decide)
        have hz := hd_dp a
        have hC : Cx ρ1 σ1 τ1 100 := ⟨hW2.1, hW2.2.1, by omega, by omega, by omega⟩
        obtain ⟨less, more, σ3, τ3, ρ3, σ0, more0, d0, dE, dM, hX, hL, hM, rr⟩ := fills_loop a b hC (dp z0) 0 (by omega)
        have dM' := dM 12 (by omega)
        have dE' := dE 8000 (by omega)
        have h0 : hd 0 z0 = z0 := rfl
        rw [h0] at dM' hL
        have eA : Pool_alike σ1 z0 z1 = some (less, σ3) := by
          unfold Pool_alike
          rw [d0, bnd_eq, Shape_depth_all a, bndp_eq, osub_eq (by omega)]
          refine dE'.trans ?_
          obtain ⟨g, hg⟩ : ∃ g, 8000 - dp z0 = g + 1 := ⟨8000 - dp z0 - 1, by omega⟩
          rw [hg]
          unfold Pool_alike_L19
          exact if_pos (by omega)
        have eB : M_fillsCouple RD τ1 z0 z1 = some (0, τ3) := dM'
        obtain ⟨σ4, τ4, e7, e8, hW4, f4, g4, r4, s4⟩ := keep_ends hW2 hX rr (by decide) (w := 8) (by omega) hL c
        have hcn := hX.cnt
        have x1 : σ4 32 0 = σ3 32 0 := by rw [f4 32 (by decide)]
        have x2 : τ4 30 0 = τ3 30 0 := by rw [g4 30 (by decide)]
        have x3 : τ4 34 0 = σ 32 0 := by rw [g4 34 (by decide), hX.2.2.2.2.2.2.1 34 (by decide)]; omega
        have x4 : τ4 30 0 = σ4 32 0 := by omega
        refine ⟨σ4 32 0 - σ 32 0, σ4, τ4, ?_, ?_, hS0.fin hW4 ((f1.mono (by decide)).tr ((hX.2.2.2.2.2.1.mono (by decide)).tr (f4.mono (by decide)))) ((g1.mono (by decide)).tr ((hX.2.2.2.2.2.2.1.mono (by decide)).tr (g4.mono (by decide)))) (by omega) (by omega)⟩
        · simp (disch := omega) only [↓jn_e, ↓ite_y, ↓ite_n, ↓oadd_eq, ↓osub_eq, ↓omul_eq, ↓odiv_eq, ↓orem_eq, ↓rd_eq, ↓wr_eq, ↓gf_e, ↓pf_e, ↓bnd_e, ↓bndp_e, ↓opure_e, ↓oif_t, ↓oif_f, ↓E_isPlace_y, ↓E_isPlace_n, ↓E_isNumber_y, ↓E_isNumber_n, ↓M_isPlace_y, ↓M_isPlace_n, ↓M_isNumber_y, ↓M_isNumber_n, ↓M_in_y, ↓M_in_n, ↓us_ne, ↓e1, ↓eA, ↓e7]
        · simp (disch := omega) only [↓jn_e, ↓ite_y, ↓ite_n, ↓oadd_eq, ↓osub_eq, ↓omul_eq, ↓odiv_eq, ↓orem_eq, ↓rd_eq, ↓wr_eq, ↓gf_e, ↓pf_e, ↓bnd_e, ↓bndp_e, ↓opure_e, ↓oif_t, ↓oif_f, ↓E_isPlace_y, ↓E_isPlace_n, ↓E_isNumber_y, ↓E_isNumber_n, ↓M_isPlace_y, ↓M_isPlace_n, ↓M_isNumber_y, ↓M_isNumber_n, ↓M_in_y, ↓M_in_n, ↓us_ne, ↓e2, ↓eB, ↓e8, x3, x4]
      · refine ⟨-1, σ, us τ 33 0 0, ?_, ?_, hS0.thr⟩
        · simp (disch := omega) only [↓jn_e, ↓ite_y, ↓ite_n, ↓oadd_eq, ↓osub_eq, ↓omul_eq, ↓odiv_eq, ↓orem_eq, ↓rd_eq, ↓wr_eq, ↓gf_e, ↓pf_e, ↓bnd_e, ↓bndp_e, ↓opure_e, ↓oif_t, ↓oif_f, ↓E_isPlace_y, ↓E_isPlace_n, ↓E_isNumber_y, ↓E_isNumber_n, ↓M_isPlace_y, ↓M_isPlace_n, ↓M_isNumber_y, ↓M_isNumber_n, ↓M_in_y, ↓M_in_n, ↓us_ne]
        · simp (disch := omega) only [↓jn_e, ↓ite_y, ↓ite_n, ↓oadd_eq, ↓osub_eq, ↓omul_eq, ↓odiv_eq, ↓orem_eq, ↓rd_eq, ↓wr_eq, ↓gf_e, ↓pf_e, ↓bnd_e, ↓bndp_e, ↓opure_e, ↓oif_t, ↓oif_f, ↓E_isPlace_y, ↓E_isPlace_n, ↓E_isNumber_y, ↓E_isNumber_n, ↓M_isPlace_y, ↓M_isPlace_n, ↓M_isNumber_y, ↓M_isNumber_n, ↓M_in_y, ↓M_in_n, ↓us_ne]
    · refine ⟨-1, σ, us τ 33 0 0, ?_, ?_, hS0.thr⟩
      · simp (disch := omega) only [↓jn_e, ↓ite_y, ↓ite_n, ↓oadd_eq, ↓osub_eq, ↓omul_eq, ↓odiv_eq, ↓orem_eq, ↓rd_eq, ↓wr_eq, ↓gf_e, ↓pf_e, ↓bnd_e, ↓bndp_e, ↓opure_e, ↓oif_t, ↓oif_f, ↓E_isPlace_y, ↓E_isPlace_n, ↓E_isNumber_y, ↓E_isNumber_n, ↓M_isPlace_y, ↓M_isPlace_n, ↓M_isNumber_y, ↓M_isNumber_n, ↓M_in_y, ↓M_in_n, ↓us_ne]
      · simp (disch := omega) only [↓jn_e, ↓ite_y, ↓ite_n, ↓oadd_eq, ↓osub_eq, ↓omul_eq, ↓odiv_eq, ↓orem_eq, ↓rd_eq, ↓wr_eq, ↓gf_e, ↓pf_e, ↓bnd_e, ↓bndp_e, ↓opure_e, ↓oif_t, ↓oif_f, ↓E_isPlace_y, ↓E_isPlace_n, ↓E_isNumber_y, ↓E_isNumber_n, ↓M_isPlace_y, ↓M_isPlace_n, ↓M_isNumber_y, ↓M_isNumber_n, ↓M_in_y, ↓M_in_n, ↓us_ne]
  · refine ⟨-1, σ, us τ 33 0 0, ?_, ?_, hS0.thr⟩
    · by_cases q : z0 < 0
      · simp (disch := omega) only [↓jn_e, ↓ite_y, ↓ite_n, ↓oadd_eq, ↓osub_eq, ↓omul_eq, ↓odiv_eq, ↓orem_eq, ↓rd_eq, ↓wr_eq, ↓gf_e, ↓pf_e, ↓bnd_e, ↓bndp_e, ↓opure_e, ↓oif_t, ↓oif_f, ↓E_isPlace_y, ↓E_isPlace_n, ↓E_isNumber_y, ↓E_isNumber_n, ↓M_isPlace_y, ↓M_isPlace_n, ↓M_isNumber_y, ↓M_isNumber_n, ↓M_in_y, ↓M_in_n, ↓us_ne]
      · simp (disch := omega) only [↓jn_e, ↓ite_y, ↓ite_n, ↓oadd_eq, ↓osub_eq, ↓omul_eq, ↓odiv_eq, ↓orem_eq, ↓rd_eq, ↓wr_eq, ↓gf_e, ↓pf_e, ↓bnd_e, ↓bndp_e, ↓opure_e, ↓oif_t, ↓oif_f, ↓E_isPlace_y, ↓E_isPlace_n, ↓E_isNumber_y, ↓E_isNumber_n, ↓M_isPlace_y, ↓M_isPlace_n, ↓M_isNumber_y, ↓M_isNumber_n, ↓M_in_y, ↓M_in_n, ↓us_ne]
    · simp (disch := omega) only [↓jn_e, ↓ite_y, ↓ite_n, ↓oadd_eq, ↓osub_eq, ↓omul_eq, ↓odiv_eq, ↓orem_eq, ↓rd_eq, ↓wr_eq, ↓gf_e, ↓pf_e, ↓bnd_e, ↓bndp_e, ↓opure_e, ↓oif_t, ↓oif_f, ↓E_isPlace_y, ↓E_isPlace_n, ↓E_isNumber_y, ↓E_isNumber_n, ↓M_isPlace_y, ↓M_isPlace_n, ↓M_isNumber_y, ↓M_isNumber_n, ↓M_in_y, ↓M_in_n, ↓us_ne]

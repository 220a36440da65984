-- MATH 28: calls: sets, swaps, adds, differs
theorem isIndexE_y {σ : St} {p a : Int} (h : (0 ≤ p ∧ p < 6) ∧ 0 ≤ a ∧ a < σ 25 p) : E_isIndex σ p a = some 1 := by
  unfold E_isIndex
  simp (disch := omega) only [↓jn_e, ↓ite_y, ↓ite_n, ↓oadd_eq, ↓osub_eq, ↓omul_eq, ↓odiv_eq, ↓orem_eq, ↓rd_eq, ↓wr_eq, ↓gf_e, ↓pf_e, ↓bnd_e, ↓bndp_e, ↓opure_e, ↓oif_t, ↓oif_f, ↓E_isPlace_y, ↓E_isPlace_n, ↓E_isNumber_y, ↓E_isNumber_n, ↓M_isPlace_y, ↓M_isPlace_n, ↓M_isNumber_y, ↓M_isNumber_n, ↓M_in_y, ↓M_in_n, ↓us_ne]
theorem isIndexE_n {σ : St} {p a : Int} (h : ¬ ((0 ≤ p ∧ p < 6) ∧ 0 ≤ a ∧ a < σ 25 p)) : E_isIndex σ p a = some 0 := by
  unfold E_isIndex
  by_cases h1 : 0 ≤ p ∧ p < 6
  · by_cases h2 : a < 0
    · simp (disch := omega) only [↓jn_e, ↓ite_y, ↓ite_n, ↓oadd_eq, ↓osub_eq, ↓omul_eq, ↓odiv_eq, ↓orem_eq, ↓rd_eq, ↓wr_eq, ↓gf_e, ↓pf_e, ↓bnd_e, ↓bndp_e, ↓opure_e, ↓oif_t, ↓oif_f, ↓E_isPlace_y, ↓E_isPlace_n, ↓E_isNumber_y, ↓E_isNumber_n, ↓M_isPlace_y, ↓M_isPlace_n, ↓M_isNumber_y, ↓M_isNumber_n, ↓M_in_y, ↓M_in_n, ↓us_ne]
    · simp (disch := omega) only [↓jn_e, ↓ite_y, ↓ite_n, ↓oadd_eq, ↓osub_eq, ↓omul_eq, ↓odiv_eq, ↓orem_eq, ↓rd_eq, ↓wr_eq, ↓gf_e, ↓pf_e, ↓bnd_e, ↓bndp_e, ↓opure_e, ↓oif_t, ↓oif_f, ↓E_isPlace_y, ↓E_isPlace_n, ↓E_isNumber_y, ↓E_isNumber_n, ↓M_isPlace_y, ↓M_isPlace_n, ↓M_isNumber_y, ↓M_isNumber_n, ↓M_in_y, ↓M_in_n, ↓us_ne]
  · simp (disch := omega) only [↓jn_e, ↓ite_y, ↓ite_n, ↓oadd_eq, ↓osub_eq, ↓omul_eq, ↓odiv_eq, ↓orem_eq, ↓rd_eq, ↓wr_eq, ↓gf_e, ↓pf_e, ↓bnd_e, ↓bndp_e, ↓opure_e, ↓oif_t, ↓oif_f, ↓E_isPlace_y, ↓E_isPlace_n, ↓E_isNumber_y, ↓E_isNumber_n, ↓M_isPlace_y, ↓M_isPlace_n, ↓M_isNumber_y, ↓M_isNumber_n, ↓M_in_y, ↓M_in_n, ↓us_ne]
theorem isIndexM_y {τ : St} {p a : Int} (h : 0 ≤ p ∧ p < 6) (hn : 0 ≤ τ 3 p ∧ τ 3 p ≤ 255) (ha : 0 ≤ a ∧ a < τ 3 p) : M_isIndex τ p a = some 1 := by
  unfold M_isIndex
  rw [rd_eq (by omega), osub_eq (by omega), M_in_y (by omega), bndp_eq, retZp_1]
theorem isIndexM_n {τ : St} {p a : Int} (h : 0 ≤ p ∧ p < 6) (hn : 0 ≤ τ 3 p ∧ τ 3 p ≤ 255) (ha : ¬ (0 ≤ a ∧ a < τ 3 p)) : M_isIndex τ p a = some 0 := by
  unfold M_isIndex
  rw [rd_eq (by omega), osub_eq (by omega), M_in_n (by omega), bndp_eq, retZp_0]
theorem Mk.of {σ τ : St} {n : Int} {P Q : Int → Prop} (hE : Eb σ) (hn : n ≤ 255) (h1 : ∀ x, 0 ≤ x → x < 255 → (σ 23 x = 1 ↔ P x)) (hb : bits01 (τ 7)) (h2 : ∀ x, 0 ≤ x → x < 256 → (τ 7 x = 1 ↔ Q x)) (hpq : ∀ x, 0 ≤ x → x < n → (P x ↔ Q x)) : Mk σ τ n := by
  refine ⟨fun x x0 xn => ?_, fun x x0 xn q => ?_⟩
  · have a := h1 x x0 (by omega)
    have b := h2 x x0 (by omega)
    have c := hpq x x0 xn
    have d := hE.1 x x0 (by omega)
    have e := hb x x0 (by omega)
    constructor
    · intro w
      rcases e with e | e
      · exact e
      · have := a.mpr (c.mpr (b.mp e)); omega
    · intro w
      rcases d with d | d
      · exact d
      · have := b.mpr (c.mp (a.mp d)); omega
  · have u := up_spec (x := x) (by omega)
    have d := (hE.1 x (by omega) (by omega)).resolve_left q
    have := hE.2.1 x x0 (by omega) d
    omega
theorem call_sets : HS_11 SS := by
  intro k σ τ z0 z1 z2 z3 hk hS i0 i1 i2 i3
  have hS0 := hS
  obtain ⟨⟨ρ, hW⟩, hT, hr, hn, hm⟩ := hS
  unfold E_sets M_sets
  by_cases a : 0 ≤ z0 ∧ z0 < 6
  · have hP := hW.2.2 z0 a.1 a.2
    have s0 := hP.2.1
    have n0 := hP.1
    have s1 : us τ 33 0 0 3 z0 = τ 3 z0 := us_ne (by decide)
    by_cases b : 0 ≤ z1 ∧ z1 < σ 25 z0
    · have b1 : E_isIndex σ z0 z1 = some 1 := isIndexE_y ⟨a, b⟩
      have b2 : M_isIndex (us τ 33 0 0) z0 z1 = some 1 := isIndexM_y a (by rw [s1]; omega) (by rw [s1]; omega)
      by_cases v : -999 ≤ z2 ∧ z2 ≤ 999
      · by_cases c : 0 ≤ z3 ∧ z3 < 6
        · obtain ⟨s5, e5, f5, c5, d5⟩ := readBoth_ex (σ := σ) a a n0 n0
          obtain ⟨s6, hs6⟩ : ∃ s6, s6 = us s5 26 z1 z2 := ⟨_, rfl⟩
          have f6 : Fr [26] s5 s6 := by rw [hs6]; exact (Fr.rf _ _).us (by decide)
          have g25 : s5 25 z0 = σ 25 z0 := by rw [f5 25 (by decide)]
          obtain ⟨s7, e7, f7, b7, m7⟩ := markUnlike_ex (n := s5 25 z0) (by omega) s6
          rw [g25] at m7
          have fs : Fr [12, 23, 26, 27, 44] σ s7 := (f5.mono (by decide)).tr ((f6.mono (by decide)).tr (f7.mono (by decide)))
          have hS7 : SS k s7 (us τ 33 0 0) := hS0.asq0 (fs.mono (by decide)) (fr_sc _ _ _ _ (by decide)) (Rws.fr (fr_sc [33] _ _ _ (by decide)) (by decide) (by decide) (by decide) _)
          obtain ⟨τ1, τ2, x1, x2, x3, x4, x5, x6, x7, x8⟩ := renew_ex hS7 hk a c
          have q25 : s7 25 z0 = σ 25 z0 := by rw [fs 25 (by decide)]
          rw [q25] at x5 x6 x7 x8
          have hu : ∀ x, 0 ≤ x → x < σ 25 z0 → nu σ (sl σ (σ 24 z0) x) = τ 1 (256 * z0 + x) ∧ -999 ≤ τ 1 (256 * z0 + x) ∧ τ 1 (256 * z0 + x) ≤ 999 := fun x p q => hP.num ⟨p, q⟩
          have r26 : ∀ x, 0 ≤ x → x < σ 25 z0 → s6 26 x = if x = z1 then z2 else τ 1 (256 * z0 + x) := fun x p q => by
            rw [hs6]
            by_cases e : x = z1
            · rw [e, us_eq, if_pos rfl]
            · rw [us_ni e, if_neg e, c5 x p q, (hu x p q).1]
          have r27 : ∀ x, 0 ≤ x → x < σ 25 z0 → s6 27 x = τ 1 (256 * z0 + x) := fun x p q => by
            rw [f6 27 (by decide), d5 x p q, (hu x p q).1]
          have k1 : τ2 1 (256 * z0 + z1) = τ 1 (256 * z0 + z1) := by
            rw [(x4.at (r := z0) (x := z1) (by simp; omega) (by omega)).1, us_ne (by decide)]
          have nM : M_number τ2 z0 z1 = some (τ 1 (256 * z0 + z1)) := by rw [M_number_eq (by omega) (by omega), k1]
          by_cases q : τ 1 (256 * z0 + z1) = z2
          · obtain ⟨r, σ4, τ5, y1, y2, y3⟩ := x8 (fun x p0 p1 => by
              rcases b7.1 x p0 (by omega) with w | w
              · exact w
              · obtain ⟨y, y0, yn, y2, y3⟩ := (m7 x p0 (by omega)).mp w
                exfalso
                rw [r26 y y0 yn, r27 y y0 yn] at y2
                by_cases e : y = z1
                · rw [if_pos e, e] at y2; exact y2 q.symm
                · rw [if_neg e] at y2; exact y2 rfl)
            refine ⟨r, σ4, τ5, ?_, ?_, y3⟩
            · simp (disch := omega) only [↓jn_e, ↓ite_y, ↓ite_n, ↓oadd_eq, ↓osub_eq, ↓omul_eq, ↓odiv_eq, ↓orem_eq, ↓rd_eq, ↓wr_eq, ↓gf_e, ↓pf_e, ↓bnd_e, ↓bndp_e, ↓opure_e, ↓oif_t, ↓oif_f, ↓E_isPlace_y, ↓E_isPlace_n, ↓E_isNumber_y, ↓E_isNumber_n, ↓M_isPlace_y, ↓M_isPlace_n, ↓M_isNumber_y, ↓M_isNumber_n, ↓M_in_y, ↓M_in_n, ↓us_ne, ↓b1, ↓e5, ← hs6, ↓e7, ↓y1]
            · simp (disch := omega) only [↓jn_e, ↓ite_y, ↓ite_n, ↓oadd_eq, ↓osub_eq, ↓omul_eq, ↓odiv_eq, ↓orem_eq, ↓rd_eq, ↓wr_eq, ↓gf_e, ↓pf_e, ↓bnd_e, ↓bndp_e, ↓opure_e, ↓oif_t, ↓oif_f, ↓E_isPlace_y, ↓E_isPlace_n, ↓E_isNumber_y, ↓E_isNumber_n, ↓M_isPlace_y, ↓M_isPlace_n, ↓M_isNumber_y, ↓M_isNumber_n, ↓M_in_y, ↓M_in_n, ↓us_ne, ↓b2, ↓x1, ↓x2, ↓nM, ↓y2]
          · obtain ⟨τa, ea, fa, za⟩ := clearsNew_ex τ2
            obtain ⟨τb, eb, fb, bb, mb⟩ := marks_ex (i := z1) (it := 1) (by omega) (Or.inr rfl) τa (fun x p0 p1 => Or.inl (za x p0 p1))
            obtain ⟨τc, hτc⟩ : ∃ τc, τc = us τb 1 (1792 + z1) z2 := ⟨_, rfl⟩
            have fab : Fr [6, 7, 35, 36] τ2 τb := (fa.mono (by decide)).tr fb
            have fc : Fr [1, 6, 7, 35, 36] τ2 τc := by rw [hτc]; exact (fab.mono (by decide)).us (by decide)
            have ec : ∀ q, q ≠ 1792 + z1 → τc 1 q = τ2 1 q := fun q hq => by rw [hτc, us_ni hq, fab 1 (by decide)]
            have e7c : τc 7 = τb 7 := by rw [hτc]; exact us_f (by decide)
            have hP7 : ∀ x, 0 ≤ x → x < 255 → (s7 23 x = 1 ↔ onW z1 x) := fun x p0 p1 => by
              rw [m7 x p0 p1]
              constructor
              · rintro ⟨y, y0, yn, y2, y3⟩
                rw [r26 y y0 yn, r27 y y0 yn] at y2
                by_cases e : y = z1
                · rw [e] at y3; exact y3
                · rw [if_neg e] at y2; exact absurd rfl y2
              · intro w
                exact ⟨z1, b.1, b.2, by rw [r26 z1 b.1 b.2, r27 z1 b.1 b.2, if_pos rfl]; exact fun e => q e.symm, w⟩
            have hMk : Mk s7 τc (σ 25 z0) := Mk.of (P := onW z1) (Q := onW z1) b7 (by omega) hP7 (by rw [e7c]; exact bb) (fun x p0 p1 => by
              rw [e7c, mb x p0 p1, za x p0 p1]
              exact ⟨fun w => w.elim (fun w => absurd w (by decide)) (fun w => w.1), fun w => Or.inr ⟨w, Or.inl rfl⟩⟩) (fun x _ _ => Iff.rfl)
            have rc : ∀ x, 0 ≤ x → x < σ 25 z0 → τc 1 (256 * 7 + x) = if x = z1 then z2 else τ 1 (256 * z0 + x) := fun x p0 p1 => by
              by_cases e : x = z1
              · rw [e, if_pos rfl, hτc]; exact us_eq _ _ _ _
              · rw [if_neg e, ec _ (by omega), (x6 x p0 p1).1, us_ne (by decide)]
            obtain ⟨r, σ4, τ4, τ5, y1, y2, y3, y4⟩ := x7 τc fc (fun q hq => ec q (by omega)) hMk (fun x p0 p1 => by
              rw [f7 26 (by decide), r26 x p0 p1, rc x p0 p1]
              refine ⟨rfl, ?_⟩
              by_cases e : x = z1
              · rw [if_pos e]; exact v
              · rw [if_neg e]; exact (hu x p0 p1).2) (fun x p0 p1 w => by
              have e : x ≠ z1 := fun e => by
                have := (hP7 x p0 (by omega)).mpr (by rw [e]; exact onW_self (by omega))
                omega
              rw [rc x p0 p1, if_neg e, us_ne (by decide)])
            refine ⟨r, σ4, τ5, ?_, ?_, y4⟩
            · simp (disch := omega) only [↓jn_e, ↓ite_y, ↓ite_n, ↓oadd_eq, ↓osub_eq, ↓omul_eq, ↓odiv_eq, ↓orem_eq, ↓rd_eq, ↓wr_eq, ↓gf_e, ↓pf_e, ↓bnd_e, ↓bndp_e, ↓opure_e, ↓oif_t, ↓oif_f, ↓E_isPlace_y, ↓E_isPlace_n, ↓E_isNumber_y, ↓E_isNumber_n, ↓M_isPlace_y, ↓M_isPlace_n, ↓M_isNumber_y, ↓M_isNumber_n, ↓M_in_y, ↓M_in_n, ↓us_ne, ↓b1, ↓e5, ← hs6, ↓e7, ↓y1]
            · simp (disch := omega) only [↓jn_e, ↓ite_y, ↓ite_n, ↓oadd_eq, ↓osub_eq, ↓omul_eq, ↓odiv_eq, ↓orem_eq, ↓rd_eq, ↓wr_eq, ↓gf_e, ↓pf_e, ↓bnd_e, ↓bndp_e, ↓opure_e, ↓oif_t, ↓oif_f, ↓E_isPlace_y, ↓E_isPlace_n, ↓E_isNumber_y, ↓E_isNumber_n, ↓M_isPlace_y, ↓M_isPlace_n, ↓M_isNumber_y, ↓M_isNumber_n, ↓M_in_y, ↓M_in_n, ↓us_ne, ↓b2, ↓x1, ↓x2, ↓nM, ↓ea, ↓eb, ← hτc, ↓y2, ↓y3]
        · refine ⟨-1, σ, us τ 33 0 0, ?_, ?_, hS0.thr⟩
          · simp (disch := omega) only [↓jn_e, ↓ite_y, ↓ite_n, ↓oadd_eq, ↓osub_eq, ↓omul_eq, ↓odiv_eq, ↓orem_eq, ↓rd_eq, ↓wr_eq, ↓gf_e, ↓pf_e, ↓bnd_e, ↓bndp_e, ↓opure_e, ↓oif_t, ↓oif_f, ↓E_isPlace_y, ↓E_isPlace_n, ↓E_isNumber_y, ↓E_isNumber_n, ↓M_isPlace_y, ↓M_isPlace_n, ↓M_isNumber_y, ↓M_isNumber_n, ↓M_in_y, ↓M_in_n, ↓us_ne, ↓b1]
          · simp (disch := omega) only [↓jn_e, ↓ite_y, ↓ite_n, ↓oadd_eq, ↓osub_eq, ↓omul_eq, ↓odiv_eq, ↓orem_eq, ↓rd_eq, ↓wr_eq, ↓gf_e, ↓pf_e, ↓bnd_e, ↓bndp_e, ↓opure_e, ↓oif_t, ↓oif_f, ↓E_isPlace_y, ↓E_isPlace_n, ↓E_isNumber_y, ↓E_isNumber_n, ↓M_isPlace_y, ↓M_isPlace_n, ↓M_isNumber_y, ↓M_isNumber_n, ↓M_in_y, ↓M_in_n, ↓us_ne, ↓b2]
      · refine ⟨-1, σ, us τ 33 0 0, ?_, ?_, hS0.thr⟩
        · simp (disch := omega) only [↓jn_e, ↓ite_y, ↓ite_n, ↓oadd_eq, ↓osub_eq, ↓omul_eq, ↓odiv_eq, ↓orem_eq, ↓rd_eq, ↓wr_eq, ↓gf_e, ↓pf_e, ↓bnd_e, ↓bndp_e, ↓opure_e, ↓oif_t, ↓oif_f, ↓E_isPlace_y, ↓E_isPlace_n, ↓E_isNumber_y, ↓E_isNumber_n, ↓M_isPlace_y, ↓M_isPlace_n, ↓M_isNumber_y, ↓M_isNumber_n, ↓M_in_y, ↓M_in_n, ↓us_ne, ↓b1]
        · simp (disch := omega) only [↓jn_e, ↓ite_y, ↓ite_n, ↓oadd_eq, ↓osub_eq, ↓omul_eq, ↓odiv_eq, ↓orem_eq, ↓rd_eq, ↓wr_eq, ↓gf_e, ↓pf_e, ↓bnd_e, ↓bndp_e, ↓opure_e, ↓oif_t, ↓oif_f, ↓E_isPlace_y, ↓E_isPlace_n, ↓E_isNumber_y, ↓E_isNumber_n, ↓M_isPlace_y, ↓M_isPlace_n, ↓M_isNumber_y, ↓M_isNumber_n, ↓M_in_y, ↓M_in_n, ↓us_ne, ↓b2]
    · have b1 : E_isIndex σ z0 z1 = some 0 := isIndexE_n (fun q => b q.2)
      have b2 : M_isIndex (us τ 33 0 0) z0 z1 = some 0 := isIndexM_n a (by rw [s1]; omega) (by rw [s1, s0]; exact b)
      refine ⟨-1, σ, us τ 33 0 0, ?_, ?_, hS0.thr⟩
      · simp (disch := omega) only [↓jn_e, ↓ite_y, ↓ite_n, ↓oadd_eq, ↓osub_eq, ↓omul_eq, ↓odiv_eq, ↓orem_eq, ↓rd_eq, ↓wr_eq, ↓gf_e, ↓pf_e, ↓bnd_e, ↓bndp_e, ↓opure_e, ↓oif_t, ↓oif_f, ↓E_isPlace_y, ↓E_isPlace_n, ↓E_isNumber_y, ↓E_isNumber_n, ↓M_isPlace_y, ↓M_isPlace_n, ↓M_isNumber_y, ↓M_isNumber_n, ↓M_in_y, ↓M_in_n, ↓us_ne, ↓b1]
      · simp (disch := omega) only [↓jn_e, ↓ite_y, ↓ite_n, ↓oadd_eq, ↓osub_eq, ↓omul_eq, ↓odiv_eq, ↓orem_eq, ↓rd_eq, ↓wr_eq, ↓gf_e, ↓pf_e, ↓bnd_e, ↓bndp_e, ↓opure_e, ↓oif_t, ↓oif_f, ↓E_isPlace_y, ↓E_isPlace_n, ↓E_isNumber_y, ↓E_isNumber_n, ↓M_isPlace_y, ↓M_isPlace_n, ↓M_isNumber_y, ↓M_isNumber_n, ↓M_in_y, ↓M_in_n, ↓us_ne, ↓b2]
  · have b1 : E_isIndex σ z0 z1 = some 0 := isIndexE_n (fun q => a q.1)
    refine ⟨-1, σ, us τ 33 0 0, ?_, ?_, hS0.thr⟩
    · simp (disch := omega) only [↓jn_e, ↓ite_y, ↓ite_n, ↓oadd_eq, ↓osub_eq, ↓omul_eq, ↓odiv_eq, ↓orem_eq, ↓rd_eq, ↓wr_eq, ↓gf_e, ↓pf_e, ↓bnd_e, ↓bndp_e, ↓opure_e, ↓oif_t, ↓oif_f, ↓E_isPlace_y, ↓E_isPlace_n, ↓E_isNumber_y, ↓E_isNumber_n, ↓M_isPlace_y, ↓M_isPlace_n, ↓M_isNumber_y, ↓M_isNumber_n, ↓M_in_y, ↓M_in_n, ↓us_ne, ↓b1]
    · simp (disch := omega) only [↓jn_e, ↓ite_y, ↓ite_n, ↓oadd_eq, ↓osub_eq, ↓omul_eq, ↓odiv_eq, ↓orem_eq, ↓rd_eq, ↓wr_eq, ↓gf_e, ↓pf_e, ↓bnd_e, ↓bndp_e, ↓opure_e, ↓oif_t, ↓oif_f, ↓E_isPlace_y, ↓E_isPlace_n, ↓E_isNumber_y, ↓E_isNumber_n, ↓M_isPlace_y, ↓M_isPlace_n, ↓M_isNumber_y, ↓M_isNumber_n, ↓M_in_y, ↓M_in_n, ↓us_ne]
theorem call_swaps : HS_23 SS := by
  intro k σ τ z0 z1 z2 z3 hk hS i0 i1 i2 i3
  have hS0 := hS
  obtain ⟨⟨ρ, hW⟩, hT, hr, hn, hm⟩ := hS
  unfold E_swaps M_swaps
  by_cases a : 0 ≤ z0 ∧ z0 < 6
  · have hP := hW.2.2 z0 a.1 a.2
    have s0 := hP.2.1
    have n0 := hP.1
    have s1 : us τ 33 0 0 3 z0 = τ 3 z0 := us_ne (by decide)
    by_cases b : 0 ≤ z1 ∧ z1 < σ 25 z0
    · have b1 : E_isIndex σ z0 z1 = some 1 := isIndexE_y ⟨a, b⟩
      have b2 : M_isIndex (us τ 33 0 0) z0 z1 = some 1 := isIndexM_y a (by rw [s1]; omega) (by rw [s1]; omega)
      by_cases v : 0 ≤ z2 ∧ z2 < σ 25 z0
      · have v1 : E_isIndex σ z0 z2 = some 1 := isIndexE_y ⟨a, v⟩
        have v2 : M_isIndex (us τ 33 0 0) z0 z2 = some 1 := isIndexM_y a (by rw [s1]; omega) (by rw [s1]; omega)
        by_cases c : 0 ≤ z3 ∧ z3 < 6
        · obtain ⟨s5, e5, f5, c5, d5⟩ := readBoth_ex (σ := σ) a a n0 n0
          have hu : ∀ x, 0 ≤ x → x < σ 25 z0 → nu σ (sl σ (σ 24 z0) x) = τ 1 (256 * z0 + x) ∧ -999 ≤ τ 1 (256 * z0 + x) ∧ τ 1 (256 * z0 + x) ≤ 999 := fun x p q => hP.num ⟨p, q⟩
          have g1 : s5 26 z1 = τ 1 (256 * z0 + z1) := by rw [c5 z1 b.1 b.2, (hu z1 b.1 b.2).1]
          have g2 : s5 26 z2 = τ 1 (256 * z0 + z2) := by rw [c5 z2 v.1 v.2, (hu z2 v.1 v.2).1]
          obtain ⟨s6, hs6⟩ : ∃ s6, s6 = us (us s5 26 z1 (s5 26 z2)) 26 z2 (s5 26 z1) := ⟨_, rfl⟩
          have f6 : Fr [26] s5 s6 := by rw [hs6]; exact ((Fr.rf _ _).us (by decide)).us (by decide)
          have g25 : s5 25 z0 = σ 25 z0 := by rw [f5 25 (by decide)]
          obtain ⟨s7, e7, f7, b7, m7⟩ := markUnlike_ex (n := s5 25 z0) (by omega) s6
          rw [g25] at m7
          have fs : Fr [12, 23, 26, 27, 44] σ s7 := (f5.mono (by decide)).tr ((f6.mono (by decide)).tr (f7.mono (by decide)))
          have hS7 : SS k s7 (us τ 33 0 0) := hS0.asq0 (fs.mono (by decide)) (fr_sc _ _ _ _ (by decide)) (Rws.fr (fr_sc [33] _ _ _ (by decide)) (by decide) (by decide) (by decide) _)
          obtain ⟨τ1, τ2, x1, x2, x3, x4, x5, x6, x7, x8⟩ := renew_ex hS7 hk a c
          have q25 : s7 25 z0 = σ 25 z0 := by rw [fs 25 (by decide)]
          rw [q25] at x5 x6 x7 x8
          have r26 : ∀ x, 0 ≤ x → x < σ 25 z0 → s6 26 x = if x = z2 then τ 1 (256 * z0 + z1) else if x = z1 then τ 1 (256 * z0 + z2) else τ 1 (256 * z0 + x) := fun x p q => by
            rw [hs6]
            by_cases e : x = z2
            · rw [e, us_eq, if_pos rfl, g1]
            · rw [us_ni e, if_neg e]
              by_cases e2 : x = z1
              · rw [e2, us_eq, if_pos rfl, g2]
              · rw [us_ni e2, if_neg e2, c5 x p q, (hu x p q).1]
          have r27 : ∀ x, 0 ≤ x → x < σ 25 z0 → s6 27 x = τ 1 (256 * z0 + x) := fun x p q => by
            rw [f6 27 (by decide), d5 x p q, (hu x p q).1]
          have k1 : ∀ x, 0 ≤ x → x < σ 25 z0 → M_number τ2 z0 x = some (τ 1 (256 * z0 + x)) := fun x p q => by
            rw [M_number_eq (by omega) (by omega), (x4.at (r := z0) (x := x) (by simp; omega) (by omega)).1, us_ne (by decide)]
          have nM := k1 z1 b.1 b.2
          have nM2 := k1 z2 v.1 v.2
          by_cases q : τ 1 (256 * z0 + z1) = τ 1 (256 * z0 + z2)
          · obtain ⟨r, σ4, τ5, y1, y2, y3⟩ := x8 (fun x p0 p1 => by
              rcases b7.1 x p0 (by omega) with w | w
              · exact w
              · obtain ⟨y, y0, yn, y2, y3⟩ := (m7 x p0 (by omega)).mp w
                exfalso
                rw [r26 y y0 yn, r27 y y0 yn] at y2
                by_cases e : y = z2
                · rw [if_pos e, e] at y2; exact y2 q
                · rw [if_neg e] at y2
                  by_cases e2 : y = z1
                  · rw [if_pos e2, e2] at y2; exact y2 q.symm
                  · rw [if_neg e2] at y2; exact y2 rfl)
            refine ⟨r, σ4, τ5, ?_, ?_, y3⟩
            · simp (disch := omega) only [↓jn_e, ↓ite_y, ↓ite_n, ↓oadd_eq, ↓osub_eq, ↓omul_eq, ↓odiv_eq, ↓orem_eq, ↓rd_eq, ↓wr_eq, ↓gf_e, ↓pf_e, ↓bnd_e, ↓bndp_e, ↓opure_e, ↓oif_t, ↓oif_f, ↓E_isPlace_y, ↓E_isPlace_n, ↓E_isNumber_y, ↓E_isNumber_n, ↓M_isPlace_y, ↓M_isPlace_n, ↓M_isNumber_y, ↓M_isNumber_n, ↓M_in_y, ↓M_in_n, ↓us_ne, ↓b1, ↓v1, ↓e5, ← hs6, ↓e7, ↓y1]
            · simp (disch := omega) only [↓jn_e, ↓ite_y, ↓ite_n, ↓oadd_eq, ↓osub_eq, ↓omul_eq, ↓odiv_eq, ↓orem_eq, ↓rd_eq, ↓wr_eq, ↓gf_e, ↓pf_e, ↓bnd_e, ↓bndp_e, ↓opure_e, ↓oif_t, ↓oif_f, ↓E_isPlace_y, ↓E_isPlace_n, ↓E_isNumber_y, ↓E_isNumber_n, ↓M_isPlace_y, ↓M_isPlace_n, ↓M_isNumber_y, ↓M_isNumber_n, ↓M_in_y, ↓M_in_n, ↓us_ne, ↓b2, ↓v2, ↓x1, ↓x2, ↓nM, ↓nM2, ↓y2]
          · have zne : z1 ≠ z2 := fun e => q (by rw [e])
            obtain ⟨τa, ea, fa, za⟩ := clearsNew_ex τ2
            obtain ⟨τb, eb, fb, bb, mb⟩ := marks_ex (i := z1) (it := 1) (by omega) (Or.inr rfl) τa (fun x p0 p1 => Or.inl (za x p0 p1))
            obtain ⟨τd, ed, fd, bd, md⟩ := marks_ex (i := z2) (it := 1) (by omega) (Or.inr rfl) τb bb
            have fab : Fr [6, 7, 35, 36] τ2 τd := (fa.mono (by decide)).tr (fb.tr fd)
            have n6a : M_number τd 6 z2 = some (τ 1 (256 * z0 + z2)) := by rw [M_number_eq (by omega) (by omega), fab 1 (by decide), (x6 z2 v.1 v.2).2, us_ne (by decide)]
            have n6b : M_number (us τd 1 (1792 + z1) (τ 1 (256 * z0 + z2))) 6 z1 = some (τ 1 (256 * z0 + z1)) := by rw [M_number_eq (by omega) (by omega), us_ni (by omega), fab 1 (by decide), (x6 z1 b.1 b.2).2, us_ne (by decide)]
            obtain ⟨τc, hτc⟩ : ∃ τc, τc = us (us τd 1 (1792 + z1) (τ 1 (256 * z0 + z2))) 1 (1792 + z2) (τ 1 (256 * z0 + z1)) := ⟨_, rfl⟩
            have fc : Fr [1, 6, 7, 35, 36] τ2 τc := by rw [hτc]; exact ((fab.mono (by decide)).us (by decide)).us (by decide)
            have ec : ∀ q, q ≠ 1792 + z1 → q ≠ 1792 + z2 → τc 1 q = τ2 1 q := fun q hq hq2 => by rw [hτc, us_ni hq2, us_ni hq, fab 1 (by decide)]
            have e7c : τc 7 = τd 7 := by rw [hτc, us_f (by decide), us_f (by decide)]
            have hP7 : ∀ x, 0 ≤ x → x < 255 → (s7 23 x = 1 ↔ (onW z1 x ∨ onW z2 x)) := fun x p0 p1 => by
              rw [m7 x p0 p1]
              constructor
              · rintro ⟨y, y0, yn, y2, y3⟩
                rw [r26 y y0 yn, r27 y y0 yn] at y2
                by_cases e : y = z2
                · rw [e] at y3; exact Or.inr y3
                · rw [if_neg e] at y2
                  by_cases e2 : y = z1
                  · rw [e2] at y3; exact Or.inl y3
                  · rw [if_neg e2] at y2; exact absurd rfl y2
              · rintro (w | w)
                · exact ⟨z1, b.1, b.2, by rw [r26 z1 b.1 b.2, r27 z1 b.1 b.2, if_neg zne, if_pos rfl]; exact fun e => q e.symm, w⟩
                · exact ⟨z2, v.1, v.2, by rw [r26 z2 v.1 v.2, r27 z2 v.1 v.2, if_pos rfl]; exact q, w⟩
            have hMk : Mk s7 τc (σ 25 z0) := Mk.of (P := fun x => onW z1 x ∨ onW z2 x) (Q := fun x => onW z1 x ∨ onW z2 x) b7 (by omega) hP7 (by rw [e7c]; exact bd) (fun x p0 p1 => by
              rw [e7c, md x p0 p1, mb x p0 p1, za x p0 p1]
              constructor
              · rintro ((w | w) | w)
                · exact absurd w (by decide)
                · exact Or.inl w.1
                · exact Or.inr w.1
              · rintro (w | w)
                · exact Or.inl (Or.inr ⟨w, Or.inl rfl⟩)
                · exact Or.inr ⟨w, Or.inl rfl⟩) (fun x _ _ => Iff.rfl)
            have rc : ∀ x, 0 ≤ x → x < σ 25 z0 → τc 1 (256 * 7 + x) = if x = z2 then τ 1 (256 * z0 + z1) else if x = z1 then τ 1 (256 * z0 + z2) else τ 1 (256 * z0 + x) := fun x p0 p1 => by
              by_cases e : x = z2
              · rw [e, if_pos rfl, hτc]; exact us_eq _ _ _ _
              · rw [if_neg e]
                by_cases e2 : x = z1
                · rw [if_pos e2, hτc, us_ni (by omega), e2]; exact us_eq _ _ _ _
                · rw [if_neg e2, ec _ (by omega) (by omega), (x6 x p0 p1).1, us_ne (by decide)]
            obtain ⟨r, σ4, τ4, τ5, y1, y2, y3, y4⟩ := x7 τc fc (fun q hq => ec q (by omega) (by omega)) hMk (fun x p0 p1 => by
              rw [f7 26 (by decide), r26 x p0 p1, rc x p0 p1]
              refine ⟨rfl, ?_⟩
              by_cases e : x = z2
              · rw [if_pos e]; exact (hu z1 b.1 b.2).2
              · rw [if_neg e]
                by_cases e2 : x = z1
                · rw [if_pos e2]; exact (hu z2 v.1 v.2).2
                · rw [if_neg e2]; exact (hu x p0 p1).2) (fun x p0 p1 w => by
              have e : x ≠ z1 := fun e => by
                have := (hP7 x p0 (by omega)).mpr (Or.inl (by rw [e]; exact onW_self (by omega)))
                omega
              have e2 : x ≠ z2 := fun e => by
                have := (hP7 x p0 (by omega)).mpr (Or.inr (by rw [e]; exact onW_self (by omega)))
                omega
              rw [rc x p0 p1, if_neg e2, if_neg e, us_ne (by decide)])
            refine ⟨r, σ4, τ5, ?_, ?_, y4⟩
            · simp (disch := omega) only [↓jn_e, ↓ite_y, ↓ite_n, ↓oadd_eq, ↓osub_eq, ↓omul_eq, ↓odiv_eq, ↓orem_eq, ↓rd_eq, ↓wr_eq, ↓gf_e, ↓pf_e, ↓bnd_e, ↓bndp_e, ↓opure_e, ↓oif_t, ↓oif_f, ↓E_isPlace_y, ↓E_isPlace_n, ↓E_isNumber_y, ↓E_isNumber_n, ↓M_isPlace_y, ↓M_isPlace_n, ↓M_isNumber_y, ↓M_isNumber_n, ↓M_in_y, ↓M_in_n, ↓us_ne, ↓b1, ↓v1, ↓e5, ← hs6, ↓e7, ↓y1]
            · simp (disch := omega) only [↓jn_e, ↓ite_y, ↓ite_n, ↓oadd_eq, ↓osub_eq, ↓omul_eq, ↓odiv_eq, ↓orem_eq, ↓rd_eq, ↓wr_eq, ↓gf_e, ↓pf_e, ↓bnd_e, ↓bndp_e, ↓opure_e, ↓oif_t, ↓oif_f, ↓E_isPlace_y, ↓E_isPlace_n, ↓E_isNumber_y, ↓E_isNumber_n, ↓M_isPlace_y, ↓M_isPlace_n, ↓M_isNumber_y, ↓M_isNumber_n, ↓M_in_y, ↓M_in_n, ↓us_ne, ↓b2, ↓v2, ↓x1, ↓x2, ↓nM, ↓nM2, ↓ea, ↓eb, ↓ed, ↓n6a, ↓n6b, ← hτc, ↓y2, ↓y3]
        · refine ⟨-1, σ, us τ 33 0 0, ?_, ?_, hS0.thr⟩
          · simp (disch := omega) only [↓jn_e, ↓ite_y, ↓ite_n, ↓oadd_eq, ↓osub_eq, ↓omul_eq, ↓odiv_eq, ↓orem_eq, ↓rd_eq, ↓wr_eq, ↓gf_e, ↓pf_e, ↓bnd_e, ↓bndp_e, ↓opure_e, ↓oif_t, ↓oif_f, ↓E_isPlace_y, ↓E_isPlace_n, ↓E_isNumber_y, ↓E_isNumber_n, ↓M_isPlace_y, ↓M_isPlace_n, ↓M_isNumber_y, ↓M_isNumber_n, ↓M_in_y, ↓M_in_n, ↓us_ne, ↓b1, ↓v1]
          · simp (disch := omega) only [↓jn_e, ↓ite_y, ↓ite_n, ↓oadd_eq, ↓osub_eq, ↓omul_eq, ↓odiv_eq, ↓orem_eq, ↓rd_eq, ↓wr_eq, ↓gf_e, ↓pf_e, ↓bnd_e, ↓bndp_e, ↓opure_e, ↓oif_t, ↓oif_f, ↓E_isPlace_y, ↓E_isPlace_n, ↓E_isNumber_y, ↓E_isNumber_n, ↓M_isPlace_y, ↓M_isPlace_n, ↓M_isNumber_y, ↓M_isNumber_n, ↓M_in_y, ↓M_in_n, ↓us_ne, ↓b2, ↓v2]
      · have v1 : E_isIndex σ z0 z2 = some 0 := isIndexE_n (fun q => v q.2)
        have v2 : M_isIndex (us τ 33 0 0) z0 z2 = some 0 := isIndexM_n a (by rw [s1]; omega) (by rw [s1, s0]; exact v)
        refine ⟨-1, σ, us τ 33 0 0, ?_, ?_, hS0.thr⟩
        · simp (disch := omega) only [↓jn_e, ↓ite_y, ↓ite_n, ↓oadd_eq, ↓osub_eq, ↓omul_eq, ↓odiv_eq, ↓orem_eq, ↓rd_eq, ↓wr_eq, ↓gf_e, ↓pf_e, ↓bnd_e, ↓bndp_e, ↓opure_e, ↓oif_t, ↓oif_f, ↓E_isPlace_y, ↓E_isPlace_n, ↓E_isNumber_y, ↓E_isNumber_n, ↓M_isPlace_y, ↓M_isPlace_n, ↓M_isNumber_y, ↓M_isNumber_n, ↓M_in_y, ↓M_in_n, ↓us_ne, ↓b1, ↓v1]
        · simp (disch := omega) only [↓jn_e, ↓ite_y, ↓ite_n, ↓oadd_eq, ↓osub_eq, ↓omul_eq, ↓odiv_eq, ↓orem_eq, ↓rd_eq, ↓wr_eq, ↓gf_e, ↓pf_e, ↓bnd_e, ↓bndp_e, ↓opure_e, ↓oif_t, ↓oif_f, ↓E_isPlace_y, ↓E_isPlace_n, ↓E_isNumber_y, ↓E_isNumber_n, ↓M_isPlace_y, ↓M_isPlace_n, ↓M_isNumber_y, ↓M_isNumber_n, ↓M_in_y, ↓M_in_n, ↓us_ne, ↓b2, ↓v2]
    · have b1 : E_isIndex σ z0 z1 = some 0 := isIndexE_n (fun q => b q.2)
      have b2 : M_isIndex (us τ 33 0 0) z0 z1 = some 0 := isIndexM_n a (by rw [s1]; omega) (by rw [s1, s0]; exact b)
      refine ⟨-1, σ, us τ 33 0 0, ?_, ?_, hS0.thr⟩
      · simp (disch := omega) only [↓jn_e, ↓ite_y, ↓ite_n, ↓oadd_eq, ↓osub_eq, ↓omul_eq, ↓odiv_eq, ↓orem_eq, ↓rd_eq, ↓wr_eq, ↓gf_e, ↓pf_e, ↓bnd_e, ↓bndp_e, ↓opure_e, ↓oif_t, ↓oif_f, ↓E_isPlace_y, ↓E_isPlace_n, ↓E_isNumber_y, ↓E_isNumber_n, ↓M_isPlace_y, ↓M_isPlace_n, ↓M_isNumber_y, ↓M_isNumber_n, ↓M_in_y, ↓M_in_n, ↓us_ne, ↓b1]
      · simp (disch := omega) only [↓jn_e, ↓ite_y, ↓ite_n, ↓oadd_eq, ↓osub_eq, ↓omul_eq, ↓odiv_eq, ↓orem_eq, ↓rd_eq, ↓wr_eq, ↓gf_e, ↓pf_e, ↓bnd_e, ↓bndp_e, ↓opure_e, ↓oif_t, ↓oif_f, ↓E_isPlace_y, ↓E_isPlace_n, ↓E_isNumber_y, ↓E_isNumber_n, ↓M_isPlace_y, ↓M_isPlace_n, ↓M_isNumber_y, ↓M_isNumber_n, ↓M_in_y, ↓M_in_n, ↓us_ne, ↓b2]
  · have b1 : E_isIndex σ z0 z1 = some 0 := isIndexE_n (fun q => a q.1)
    refine ⟨-1, σ, us τ 33 0 0, ?_, ?_, hS0.thr⟩
    · simp (disch := omega) only [↓jn_e, ↓ite_y, ↓ite_n, ↓oadd_eq, ↓osub_eq, ↓omul_eq, ↓odiv_eq, ↓orem_eq, ↓rd_eq, ↓wr_eq, ↓gf_e, ↓pf_e, ↓bnd_e, ↓bndp_e, ↓opure_e, ↓oif_t, ↓oif_f, ↓E_isPlace_y, ↓E_isPlace_n, ↓E_isNumber_y, ↓E_isNumber_n, ↓M_isPlace_y, ↓M_isPlace_n, ↓M_isNumber_y, ↓M_isNumber_n, ↓M_in_y, ↓M_in_n, ↓us_ne, ↓b1]
    · simp (disch := omega) only [↓jn_e, ↓ite_y, ↓ite_n, ↓oadd_eq, ↓osub_eq, ↓omul_eq, ↓odiv_eq, ↓orem_eq, ↓rd_eq, ↓wr_eq, ↓gf_e, ↓pf_e, ↓bnd_e, ↓bndp_e, ↓opure_e, ↓oif_t, ↓oif_f, ↓E_isPlace_y, ↓E_isPlace_n, ↓E_isNumber_y, ↓E_isNumber_n, ↓M_isPlace_y, ↓M_isPlace_n, ↓M_isNumber_y, ↓M_isNumber_n, ↓M_in_y, ↓M_in_n, ↓us_ne]

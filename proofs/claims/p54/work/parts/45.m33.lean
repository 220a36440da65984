-- MATH 33: asks: get, path, size, costs, numbers, search, reaches, count, row
theorem call_get : HS_9 SS := by
  intro k σ τ z0 z1 hk hS i0 i1
  have hS0 := hS
  obtain ⟨⟨ρ, hW⟩, hT, hr, hn, hm⟩ := hS
  unfold E_get M_get
  by_cases a : 0 ≤ z0 ∧ z0 < 6
  · have hP := hW.2.2 z0 a.1 a.2
    have s0 := hP.2.1
    have n0 := hP.1
    have s1 : us τ 33 0 0 3 z0 = τ 3 z0 := us_ne (by decide)
    by_cases b : 0 ≤ z1 ∧ z1 < σ 25 z0
    · have b1 : E_isIndex σ z0 z1 = some 1 := isIndexE_y ⟨a, b⟩
      have b2 : M_isIndex (us τ 33 0 0) z0 z1 = some 1 := isIndexM_y a (by rw [s1]; omega) (by rw [s1]; omega)
      have e1 : Pool_numberAt σ (σ 24 z0) z1 = some (τ 1 (256 * z0 + z1)) := by rw [numberAt_eq σ _ (by omega), (hP.num b).1]
      have e2 : M_number (us τ 33 0 0) z0 z1 = some (τ 1 (256 * z0 + z1)) := by rw [M_number_eq (by omega) (by omega), us_ne (by decide)]
      refine ⟨τ 1 (256 * z0 + z1), us τ 33 0 0, ?_, ?_, hS0.thr⟩
      · simp (disch := omega) only [↓jn_e, ↓ite_y, ↓ite_n, ↓oadd_eq, ↓osub_eq, ↓omul_eq, ↓odiv_eq, ↓orem_eq, ↓rd_eq, ↓wr_eq, ↓gf_e, ↓pf_e, ↓bnd_e, ↓bndp_e, ↓opure_e, ↓oif_t, ↓oif_f, ↓E_isPlace_y, ↓E_isPlace_n, ↓E_isNumber_y, ↓E_isNumber_n, ↓M_isPlace_y, ↓M_isPlace_n, ↓M_isNumber_y, ↓M_isNumber_n, ↓M_in_y, ↓M_in_n, ↓us_ne, ↓b1, ↓e1]
      · simp (disch := omega) only [↓jn_e, ↓ite_y, ↓ite_n, ↓oadd_eq, ↓osub_eq, ↓omul_eq, ↓odiv_eq, ↓orem_eq, ↓rd_eq, ↓wr_eq, ↓gf_e, ↓pf_e, ↓bnd_e, ↓bndp_e, ↓opure_e, ↓oif_t, ↓oif_f, ↓E_isPlace_y, ↓E_isPlace_n, ↓E_isNumber_y, ↓E_isNumber_n, ↓M_isPlace_y, ↓M_isPlace_n, ↓M_isNumber_y, ↓M_isNumber_n, ↓M_in_y, ↓M_in_n, ↓us_ne, ↓b2, ↓e2]
    · have b1 : E_isIndex σ z0 z1 = some 0 := isIndexE_n (fun q => b q.2)
      have b2 : M_isIndex (us τ 33 0 0) z0 z1 = some 0 := isIndexM_n a (by rw [s1]; omega) (by rw [s1, s0]; exact b)
      refine ⟨-1000, us τ 33 0 0, ?_, ?_, hS0.thr⟩
      · simp (disch := omega) only [↓jn_e, ↓ite_y, ↓ite_n, ↓oadd_eq, ↓osub_eq, ↓omul_eq, ↓odiv_eq, ↓orem_eq, ↓rd_eq, ↓wr_eq, ↓gf_e, ↓pf_e, ↓bnd_e, ↓bndp_e, ↓opure_e, ↓oif_t, ↓oif_f, ↓E_isPlace_y, ↓E_isPlace_n, ↓E_isNumber_y, ↓E_isNumber_n, ↓M_isPlace_y, ↓M_isPlace_n, ↓M_isNumber_y, ↓M_isNumber_n, ↓M_in_y, ↓M_in_n, ↓us_ne, ↓b1]
      · simp (disch := omega) only [↓jn_e, ↓ite_y, ↓ite_n, ↓oadd_eq, ↓osub_eq, ↓omul_eq, ↓odiv_eq, ↓orem_eq, ↓rd_eq, ↓wr_eq, ↓gf_e, ↓pf_e, ↓bnd_e, ↓bndp_e, ↓opure_e, ↓oif_t, ↓oif_f, ↓E_isPlace_y, ↓E_isPlace_n, ↓E_isNumber_y, ↓E_isNumber_n, ↓M_isPlace_y, ↓M_isPlace_n, ↓M_isNumber_y, ↓M_isNumber_n, ↓M_in_y, ↓M_in_n, ↓us_ne, ↓b2]
  · have b1 : E_isIndex σ z0 z1 = some 0 := isIndexE_n (fun q => a q.1)
    refine ⟨-1000, us τ 33 0 0, ?_, ?_, hS0.thr⟩
    · simp (disch := omega) only [↓jn_e, ↓ite_y, ↓ite_n, ↓oadd_eq, ↓osub_eq, ↓omul_eq, ↓odiv_eq, ↓orem_eq, ↓rd_eq, ↓wr_eq, ↓gf_e, ↓pf_e, ↓bnd_e, ↓bndp_e, ↓opure_e, ↓oif_t, ↓oif_f, ↓E_isPlace_y, ↓E_isPlace_n, ↓E_isNumber_y, ↓E_isNumber_n, ↓M_isPlace_y, ↓M_isPlace_n, ↓M_isNumber_y, ↓M_isNumber_n, ↓M_in_y, ↓M_in_n, ↓us_ne, ↓b1]
    · simp (disch := omega) only [↓jn_e, ↓ite_y, ↓ite_n, ↓oadd_eq, ↓osub_eq, ↓omul_eq, ↓odiv_eq, ↓orem_eq, ↓rd_eq, ↓wr_eq, ↓gf_e, ↓pf_e, ↓bnd_e, ↓bndp_e, ↓opure_e, ↓oif_t, ↓oif_f, ↓E_isPlace_y, ↓E_isPlace_n, ↓E_isNumber_y, ↓E_isNumber_n, ↓M_isPlace_y, ↓M_isPlace_n, ↓M_isNumber_y, ↓M_isNumber_n, ↓M_in_y, ↓M_in_n, ↓us_ne]
theorem wayTo_f : ∀ x : Fin 255, Shape_wayTo (x.val : Int) = some (bts (x.val : Int) (dp (x.val : Int))) := by decide +kernel
theorem wayTo_eq {x : Int} (h : 0 ≤ x ∧ x < 255) : Shape_wayTo x = some (bts x (dp x)) := by
  obtain ⟨w, hw⟩ := fin_int (n := 255) h
  have := wayTo_f w
  rw [hw] at this; exact this
theorem call_path : HS_10 SS := by
  intro k σ τ z0 z1 hk hS i0 i1
  have hS0 := hS
  obtain ⟨⟨ρ, hW⟩, hT, hr, hn, hm⟩ := hS
  unfold E_path M_path
  by_cases a : 0 ≤ z0 ∧ z0 < 6
  · have hP := hW.2.2 z0 a.1 a.2
    have s0 := hP.2.1
    have n0 := hP.1
    have s1 : us τ 33 0 0 3 z0 = τ 3 z0 := us_ne (by decide)
    by_cases b : 0 ≤ z1 ∧ z1 < σ 25 z0
    · have b1 : E_isIndex σ z0 z1 = some 1 := isIndexE_y ⟨a, b⟩
      have b2 : M_isIndex (us τ 33 0 0) z0 z1 = some 1 := isIndexM_y a (by rw [s1]; omega) (by rw [s1]; omega)
      obtain ⟨τa, ea, fa, ha, hb, -⟩ := laysWay_ex (i := z1) (by omega) (us τ 33 0 0)
      have h7 := dp_7 (i := z1) (by omega)
      obtain ⟨σt, τt, t1, t2, t3, t4, t5, -⟩ := tells1 σ τa (a := ((dp z1 : Nat) : Int)) (by omega)
      have e1 := Shape_depth_eq (x := z1) (by omega)
      have e2 := wayTo_eq (x := z1) (by omega)
      have e3 : (dp z1 : Int) + 1 - 1 = (dp z1 : Int) := by omega
      have e36 : τt 36 0 = bts z1 (dp z1) := by rw [t5 36 (by decide)]; exact hb
      refine ⟨bts z1 (dp z1), σt, τt, ?_, ?_, hS0.ask (t4.mono (by decide)) (((fr_sc [33] τ 33 0 (by decide)).mono (by decide)).tr ((fa.mono (by decide)).tr (t5.mono (by decide)))) ((Rws.fr (fr_sc [33] _ _ _ (by decide)) (by decide) (by decide) (by decide) _).tr ((Rws.fr fa (by decide) (by decide) (by decide) _).tr (Rws.fr t5 (by decide) (by decide) (by decide) _))) t3⟩
      · simp (disch := omega) only [↓jn_e, ↓ite_y, ↓ite_n, ↓oadd_eq, ↓osub_eq, ↓omul_eq, ↓odiv_eq, ↓orem_eq, ↓rd_eq, ↓wr_eq, ↓gf_e, ↓pf_e, ↓bnd_e, ↓bndp_e, ↓opure_e, ↓oif_t, ↓oif_f, ↓E_isPlace_y, ↓E_isPlace_n, ↓E_isNumber_y, ↓E_isNumber_n, ↓M_isPlace_y, ↓M_isPlace_n, ↓M_isNumber_y, ↓M_isNumber_n, ↓M_in_y, ↓M_in_n, ↓us_ne, ↓b1, ↓e1, ↓t1, ↓e2]
      · rw [pf_eq, M_isPlace_y a, bndp_eq, if_neg (by decide), b2, bndp_eq, if_neg (by decide), ea, bnd_eq, pf_eq, gf_eq, us_ne (by decide), ha, osub_eq (by omega), e3, t2, bnd_eq, gf_eq, e36]
    · have b1 : E_isIndex σ z0 z1 = some 0 := isIndexE_n (fun q => b q.2)
      have b2 : M_isIndex (us τ 33 0 0) z0 z1 = some 0 := isIndexM_n a (by rw [s1]; omega) (by rw [s1, s0]; exact b)
      refine ⟨-1, σ, us τ 33 0 0, ?_, ?_, hS0.thr⟩
      · simp (disch := omega) only [↓jn_e, ↓ite_y, ↓ite_n, ↓oadd_eq, ↓osub_eq, ↓omul_eq, ↓odiv_eq, ↓orem_eq, ↓rd_eq, ↓wr_eq, ↓gf_e, ↓pf_e, ↓bnd_e, ↓bndp_e, ↓opure_e, ↓oif_t, ↓oif_f, ↓E_isPlace_y, ↓E_isPlace_n, ↓E_isNumber_y, ↓E_isNumber_n, ↓M_isPlace_y, ↓M_isPlace_n, ↓M_isNumber_y, ↓M_isNumber_n, ↓M_in_y, ↓M_in_n, ↓us_ne, ↓b1]
      · simp (disch := omega) only [↓jn_e, ↓ite_y, ↓ite_n, ↓oadd_eq, ↓osub_eq, ↓omul_eq, ↓odiv_eq, ↓orem_eq, ↓rd_eq, ↓wr_eq, ↓gf_e, ↓pf_e, ↓bnd_e, ↓bndp_e, ↓opure_e, ↓oif_t, ↓oif_f, ↓E_isPlace_y, ↓E_isPlace_n, ↓E_isNumber_y, ↓E_isNumber_n, ↓M_isPlace_y, ↓M_isPlace_n, ↓M_isNumber_y, ↓M_isNumber_n, ↓M_in_y, ↓M_in_n, ↓us_ne, ↓b2]
  · have b1 : E_isIndex σ z0 z1 = some 0 := isIndexE_n (fun q => a q.1)
    refine ⟨-1, σ, us τ 33 0 0, ?_, ?_, hS0.thr⟩
    · simp (disch := omega) only [↓jn_e, ↓ite_y, ↓ite_n, ↓oadd_eq, ↓osub_eq, ↓omul_eq, ↓odiv_eq, ↓orem_eq, ↓rd_eq, ↓wr_eq, ↓gf_e, ↓pf_e, ↓bnd_e, ↓bndp_e, ↓opure_e, ↓oif_t, ↓oif_f, ↓E_isPlace_y, ↓E_isPlace_n, ↓E_isNumber_y, ↓E_isNumber_n, ↓M_isPlace_y, ↓M_isPlace_n, ↓M_isNumber_y, ↓M_isNumber_n, ↓M_in_y, ↓M_in_n, ↓us_ne, ↓b1]
    · simp (disch := omega) only [↓jn_e, ↓ite_y, ↓ite_n, ↓oadd_eq, ↓osub_eq, ↓omul_eq, ↓odiv_eq, ↓orem_eq, ↓rd_eq, ↓wr_eq, ↓gf_e, ↓pf_e, ↓bnd_e, ↓bndp_e, ↓opure_e, ↓oif_t, ↓oif_f, ↓E_isPlace_y, ↓E_isPlace_n, ↓E_isNumber_y, ↓E_isNumber_n, ↓M_isPlace_y, ↓M_isPlace_n, ↓M_isNumber_y, ↓M_isNumber_n, ↓M_in_y, ↓M_in_n, ↓us_ne]
-- steps
def rsz (n : Int) : Int := if n < 1 then 0 else (n - 1) / 2
def cm : Nat → Int → Int → Int
  | 0, _, _ => 0
  | d + 1, a, b => if a = 0 then 1 else if b = 0 then 1 else if b % 2 = 1 then 1 + cm d (a / 2) ((b - 1) / 2) else 1 + cm d (rsz a) ((b - 2) / 2)
def cs : Nat → Int → Int
  | 0, _ => 0
  | d + 1, n => if n = 0 then 1 else 1 + cs d (rsz n) + cm 12 (n / 2) (rsz n)
theorem rsz_eq {n : Int} (h : 0 ≤ n ∧ n ≤ 255) : M_rightSize n = some (rsz n) := by
  unfold rsz
  by_cases e : n < 1
  · have e0 : n = 0 := by omega
    rw [e0]; exact rsM_0
  · rw [if_neg e]; exact M_rightSize_eq (by omega)
theorem rsz_rng {n : Int} (h : 0 ≤ n ∧ n ≤ 255) : 0 ≤ rsz n ∧ rsz n ≤ n ∧ (1 ≤ n → rsz n < n) ∧ 2 * rsz n ≤ n := by
  unfold rsz
  split <;> omega
theorem cm_rng : ∀ (d : Nat) (a b : Int), 0 ≤ cm d a b ∧ cm d a b ≤ d := by
  intro d
  induction d with
  | zero => intro a b; unfold cm; omega
  | succ d ih =>
    intro a b
    unfold cm
    have h1 := ih (a / 2) ((b - 1) / 2)
    have h2 := ih (rsz a) ((b - 2) / 2)
    split
    · omega
    · split
      · omega
      · split <;> omega
theorem countsMore_eq : ∀ (d : Nat) (τ : St) (a b : Int), 0 ≤ a → 2 * a < p2 d → a ≤ 255 → 0 ≤ b ∧ b ≤ 255 → 0 < d → (0 ≤ τ 41 0 ∧ τ 41 0 + d ≤ 2147483000) → M_countsMore d τ a b = some (0, us τ 41 0 (τ 41 0 + cm d a b)) := by
  intro d
  induction d with
  | zero => intro τ a b h0 h1 h2 h3 h4; omega
  | succ d ih =>
    intro τ a b h0 h1 h2 h3 h4 h5
    unfold p2 at h1
    unfold M_countsMore cm
    rw [gf_eq, oadd_eq (by omega), pf_eq]
    by_cases ha : a = 0
    · rw [if_pos ha, if_pos ha]
    · rw [if_neg ha, if_neg ha]
      by_cases hb : b = 0
      · rw [if_pos hb, if_pos hb]
      · rw [if_neg hb, if_neg hb, orem_eq (by omega)]
        have hd : 0 < d := by
          cases d with
          | zero => unfold p2 at h1; omega
          | succ d => omega
        have r := rsz_rng (n := a) (by omega)
        have e41 : us τ 41 0 (τ 41 0 + 1) 41 0 = τ 41 0 + 1 := us_eq _ _ _ _
        by_cases ho : b % 2 = 1
        · rw [if_pos ho, if_pos ho, M_leftSize_eq h0, bndp_eq, osub_eq (by omega), odiv_eq (by omega), ih _ _ _ (by omega) (by omega) (by omega) (by omega) hd (by rw [e41]; omega), bnd_eq, e41, us_us]
          congr 3; omega
        · rw [if_neg ho, if_neg ho, rsz_eq (by omega), bndp_eq, osub_eq (by omega), odiv_eq (by omega), ih _ _ _ (by omega) (by omega) (by omega) (by omega) hd (by rw [e41]; omega), bnd_eq, e41, us_us]
          congr 3; omega
theorem cs_rng : ∀ (d : Nat) (n : Int), 0 ≤ cs d n ∧ cs d n ≤ 13 * d := by
  intro d
  induction d with
  | zero => intro n; unfold cs; omega
  | succ d ih =>
    intro n
    unfold cs
    have h1 := ih (rsz n)
    have h2 := cm_rng 12 (n / 2) (rsz n)
    split <;> omega
theorem counts_eq : ∀ (d : Nat) (τ : St) (n : Int), 0 ≤ n → 2 * n < p2 d → n ≤ 255 → 0 < d → (0 ≤ τ 41 0 ∧ τ 41 0 + 13 * d ≤ 2147480000) → M_counts d τ n = some (0, us τ 41 0 (τ 41 0 + cs d n)) := by
  intro d
  induction d with
  | zero => intro τ n h0 h1 h2 h3; omega
  | succ d ih =>
    intro τ n h0 h1 h2 h3 h5
    unfold p2 at h1
    unfold M_counts cs
    rw [gf_eq, oadd_eq (by omega), pf_eq]
    by_cases hn : n = 0
    · rw [if_pos hn, if_pos hn]
    · have r := rsz_rng (n := n) (by omega)
      have hd : 0 < d := by
        cases d with
        | zero => unfold p2 at h1; omega
        | succ d => omega
      have e41 : us τ 41 0 (τ 41 0 + 1) 41 0 = τ 41 0 + 1 := us_eq _ _ _ _
      have c1 := cs_rng d (rsz n)
      rw [if_neg hn, if_neg hn, rsz_eq (by omega), bndp_eq, ih _ _ (by omega) (by omega) (by omega) hd (by rw [e41]; omega), bnd_eq, M_leftSize_eq h0, bndp_eq, bndp_eq, e41, us_us]
      have e42 : us τ 41 0 (τ 41 0 + 1 + cs d (rsz n)) 41 0 = τ 41 0 + 1 + cs d (rsz n) := us_eq _ _ _ _
      rw [RD_eq, countsMore_eq 12 _ _ _ (by omega) (by rw [p2_12]; omega) (by omega) (by omega) (by omega) (by rw [e42]; omega), bnd_eq, e42, us_us]
      congr 3; omega
theorem steps_f : ∀ n : Fin 256, Shape_steps (n.val : Int) = some (cs 12 (n.val : Int)) := by decide +kernel
theorem steps_eq {n : Int} (h : 0 ≤ n ∧ n ≤ 255) : Shape_steps n = some (cs 12 n) := by
  obtain ⟨w, hw⟩ := fin_int (i := n) (n := 256) (by omega)
  have := steps_f w
  rw [hw] at this; exact this
theorem deepest_f : ∀ n : Fin 256, M_deepest (n.val : Int) = some (if (n.val : Int) = 0 then -1 else ((dp ((n.val : Int) - 1) : Nat) : Int)) := by decide +kernel
theorem deepest_eq {n : Int} (h : 0 ≤ n ∧ n ≤ 255) : M_deepest n = some (if n = 0 then -1 else ((dp (n - 1) : Nat) : Int)) := by
  obtain ⟨w, hw⟩ := fin_int (i := n) (n := 256) (by omega)
  have := deepest_f w
  rw [hw] at this; exact this
theorem call_size : HS_8 SS := by
  intro k σ τ z0 hk hS i0
  have hS0 := hS
  obtain ⟨⟨ρ, hW⟩, hT, hr, hn, hm⟩ := hS
  unfold E_size M_size
  by_cases a : 0 ≤ z0 ∧ z0 < 6
  · have hP := hW.2.2 z0 a.1 a.2
    have s0 := hP.2.1
    have n0 := hP.1
    have e41 : us (us τ 33 0 0) 41 0 0 41 0 = 0 := us_eq _ _ _ _
    have e1 := counts_eq 12 (us (us τ 33 0 0) 41 0 0) (σ 25 z0) n0.1 (by rw [p2_12]; omega) n0.2 (by omega) (by rw [e41]; omega)
    rw [e41, us_us] at e1
    have c1 := cs_rng 12 (σ 25 z0)
    obtain ⟨τa, hτa⟩ : ∃ τa, τa = us (us τ 33 0 0) 41 0 (0 + cs 12 (σ 25 z0)) := ⟨_, rfl⟩
    rw [← hτa] at e1
    have fa : Fr [33, 41] τ τa := by rw [hτa]; exact (fr_sc _ τ 33 0 (by decide)).us (by decide)
    have a41 : τa 41 0 = cs 12 (σ 25 z0) := by rw [hτa, us_eq]; omega
    obtain ⟨w, hw⟩ : ∃ w, w = (if σ 25 z0 = 0 then -1 else ((dp (σ 25 z0 - 1) : Nat) : Int)) := ⟨_, rfl⟩
    have hd := deepest_eq n0
    rw [← hw] at hd
    have hwr : -1 ≤ w ∧ w ≤ 100 := by
      rw [hw]
      split
      · omega
      · have := dp_7 (i := σ 25 z0 - 1) (by omega)
        omega
    obtain ⟨σt, τ1, τt, t1, t2, t3, t4, t5, t6, t7, -⟩ := tells2 σ τa (a := cs 12 (σ 25 z0)) (b := w) (by omega) (by omega)
    have r1 : τ1 3 z0 = σ 25 z0 := by rw [t6 3 (by decide), fa 3 (by decide)]; exact s0
    have r2 : τt 3 z0 = σ 25 z0 := by rw [t7 3 (by decide), fa 3 (by decide)]; exact s0
    refine ⟨σ 25 z0, σt, τt, ?_, ?_, hS0.ask (t5.mono (by decide)) ((fa.mono (by decide)).tr (t7.mono (by decide))) ((Rws.fr fa (by decide) (by decide) (by decide) _).tr (Rws.fr t7 (by decide) (by decide) (by decide) _)) t4⟩
    · have st := steps_eq n0
      by_cases q : σ 25 z0 = 0
      · rw [if_pos q] at hw
        rw [hw] at t1
        simp (disch := omega) only [↓jn_e, ↓ite_y, ↓ite_n, ↓oadd_eq, ↓osub_eq, ↓omul_eq, ↓odiv_eq, ↓orem_eq, ↓rd_eq, ↓wr_eq, ↓gf_e, ↓pf_e, ↓bnd_e, ↓bndp_e, ↓opure_e, ↓oif_t, ↓oif_f, ↓E_isPlace_y, ↓E_isPlace_n, ↓E_isNumber_y, ↓E_isNumber_n, ↓M_isPlace_y, ↓M_isPlace_n, ↓M_isNumber_y, ↓M_isNumber_n, ↓M_in_y, ↓M_in_n, ↓us_ne, ↓st, ↓t1]
      · rw [if_neg q] at hw
        rw [hw] at t1
        have dd := Shape_depth_eq (x := σ 25 z0 - 1) (by omega)
        simp (disch := omega) only [↓jn_e, ↓ite_y, ↓ite_n, ↓oadd_eq, ↓osub_eq, ↓omul_eq, ↓odiv_eq, ↓orem_eq, ↓rd_eq, ↓wr_eq, ↓gf_e, ↓pf_e, ↓bnd_e, ↓bndp_e, ↓opure_e, ↓oif_t, ↓oif_f, ↓E_isPlace_y, ↓E_isPlace_n, ↓E_isNumber_y, ↓E_isNumber_n, ↓M_isPlace_y, ↓M_isPlace_n, ↓M_isNumber_y, ↓M_isNumber_n, ↓M_in_y, ↓M_in_n, ↓us_ne, ↓st, ↓dd, ↓t1]
    · rw [pf_eq, M_isPlace_y a, bndp_eq, if_neg (by decide), pf_eq, rd_eq (by omega), us_ne (by decide), us_ne (by decide), s0, RD_eq, e1, bnd_eq, pf_eq, gf_eq, us_ne (by decide), a41, t2, bnd_eq, rd_eq (by omega), r1, hd, bndp_eq, t3, bnd_eq, rd_eq (by omega), r2]
  · refine ⟨-1, σ, us τ 33 0 0, ?_, ?_, hS0.thr⟩
    · simp (disch := omega) only [↓jn_e, ↓ite_y, ↓ite_n, ↓oadd_eq, ↓osub_eq, ↓omul_eq, ↓odiv_eq, ↓orem_eq, ↓rd_eq, ↓wr_eq, ↓gf_e, ↓pf_e, ↓bnd_e, ↓bndp_e, ↓opure_e, ↓oif_t, ↓oif_f, ↓E_isPlace_y, ↓E_isPlace_n, ↓E_isNumber_y, ↓E_isNumber_n, ↓M_isPlace_y, ↓M_isPlace_n, ↓M_isNumber_y, ↓M_isNumber_n, ↓M_in_y, ↓M_in_n, ↓us_ne]
    · simp (disch := omega) only [↓jn_e, ↓ite_y, ↓ite_n, ↓oadd_eq, ↓osub_eq, ↓omul_eq, ↓odiv_eq, ↓orem_eq, ↓rd_eq, ↓wr_eq, ↓gf_e, ↓pf_e, ↓bnd_e, ↓bndp_e, ↓opure_e, ↓oif_t, ↓oif_f, ↓E_isPlace_y, ↓E_isPlace_n, ↓E_isNumber_y, ↓E_isNumber_n, ↓M_isPlace_y, ↓M_isPlace_n, ↓M_isNumber_y, ↓M_isNumber_n, ↓M_in_y, ↓M_in_n, ↓us_ne]
theorem front_f : ∀ n : Fin 256, Shape_costAhead (n.val : Int) = M_frontCost (n.val : Int) ∧ (M_frontCost (n.val : Int)).isSome = true := by decide +kernel
theorem firstc_f : ∀ n : Fin 256, Shape_costFirst (n.val : Int) = M_firstCost (n.val : Int) ∧ (M_firstCost (n.val : Int)).isSome = true := by decide +kernel
theorem front_eq {n : Int} (h : 0 ≤ n ∧ n ≤ 255) : ∃ c, Shape_costAhead n = some c ∧ M_frontCost n = some c := by
  obtain ⟨w, hw⟩ := fin_int (i := n) (n := 256) (by omega)
  have t := front_f w
  rw [hw] at t
  obtain ⟨c, hc⟩ := Option.isSome_iff_exists.mp t.2
  exact ⟨c, t.1.trans hc, hc⟩
theorem firstc_eq {n : Int} (h : 0 ≤ n ∧ n ≤ 255) : ∃ c, Shape_costFirst n = some c ∧ M_firstCost n = some c := by
  obtain ⟨w, hw⟩ := fin_int (i := n) (n := 256) (by omega)
  have t := firstc_f w
  rw [hw] at t
  obtain ⟨c, hc⟩ := Option.isSome_iff_exists.mp t.2
  exact ⟨c, t.1.trans hc, hc⟩
theorem call_costs : HS_43 SS := by
  intro k σ τ z0 z1 hk hS i0 i1
  have hS0 := hS
  unfold E_costs M_costs Shape_cost
  by_cases a : 0 ≤ z0 ∧ z0 ≤ 255
  · by_cases b : 0 ≤ z1 ∧ z1 ≤ 5
    · by_cases n0 : z0 = 0 ∧ (z1 = 2 ∨ z1 = 3)
      · refine ⟨-2, us τ 33 0 0, ?_, ?_, hS0.thr⟩
        · by_cases q : z1 = 2
          · simp (disch := omega) only [↓jn_e, ↓ite_y, ↓ite_n, ↓oadd_eq, ↓osub_eq, ↓omul_eq, ↓odiv_eq, ↓orem_eq, ↓rd_eq, ↓wr_eq, ↓gf_e, ↓pf_e, ↓bnd_e, ↓bndp_e, ↓opure_e, ↓oif_t, ↓oif_f, ↓E_isPlace_y, ↓E_isPlace_n, ↓E_isNumber_y, ↓E_isNumber_n, ↓M_isPlace_y, ↓M_isPlace_n, ↓M_isNumber_y, ↓M_isNumber_n, ↓M_in_y, ↓M_in_n, ↓us_ne]
          · simp (disch := omega) only [↓jn_e, ↓ite_y, ↓ite_n, ↓oadd_eq, ↓osub_eq, ↓omul_eq, ↓odiv_eq, ↓orem_eq, ↓rd_eq, ↓wr_eq, ↓gf_e, ↓pf_e, ↓bnd_e, ↓bndp_e, ↓opure_e, ↓oif_t, ↓oif_f, ↓E_isPlace_y, ↓E_isPlace_n, ↓E_isNumber_y, ↓E_isNumber_n, ↓M_isPlace_y, ↓M_isPlace_n, ↓M_isNumber_y, ↓M_isNumber_n, ↓M_in_y, ↓M_in_n, ↓us_ne]
        · by_cases q : z1 = 2
          · simp (disch := omega) only [↓jn_e, ↓ite_y, ↓ite_n, ↓oadd_eq, ↓osub_eq, ↓omul_eq, ↓odiv_eq, ↓orem_eq, ↓rd_eq, ↓wr_eq, ↓gf_e, ↓pf_e, ↓bnd_e, ↓bndp_e, ↓opure_e, ↓oif_t, ↓oif_f, ↓E_isPlace_y, ↓E_isPlace_n, ↓E_isNumber_y, ↓E_isNumber_n, ↓M_isPlace_y, ↓M_isPlace_n, ↓M_isNumber_y, ↓M_isNumber_n, ↓M_in_y, ↓M_in_n, ↓us_ne]
          · simp (disch := omega) only [↓jn_e, ↓ite_y, ↓ite_n, ↓oadd_eq, ↓osub_eq, ↓omul_eq, ↓odiv_eq, ↓orem_eq, ↓rd_eq, ↓wr_eq, ↓gf_e, ↓pf_e, ↓bnd_e, ↓bndp_e, ↓opure_e, ↓oif_t, ↓oif_f, ↓E_isPlace_y, ↓E_isPlace_n, ↓E_isNumber_y, ↓E_isNumber_n, ↓M_isPlace_y, ↓M_isPlace_n, ↓M_isNumber_y, ↓M_isNumber_n, ↓M_in_y, ↓M_in_n, ↓us_ne]
      · by_cases n5 : z0 = 255 ∧ (z1 = 0 ∨ z1 = 1 ∨ z1 = 4)
        · refine ⟨-2, us τ 33 0 0, ?_, ?_, hS0.thr⟩
          · by_cases q : z1 = 0
            · simp (disch := omega) only [↓jn_e, ↓ite_y, ↓ite_n, ↓oadd_eq, ↓osub_eq, ↓omul_eq, ↓odiv_eq, ↓orem_eq, ↓rd_eq, ↓wr_eq, ↓gf_e, ↓pf_e, ↓bnd_e, ↓bndp_e, ↓opure_e, ↓oif_t, ↓oif_f, ↓E_isPlace_y, ↓E_isPlace_n, ↓E_isNumber_y, ↓E_isNumber_n, ↓M_isPlace_y, ↓M_isPlace_n, ↓M_isNumber_y, ↓M_isNumber_n, ↓M_in_y, ↓M_in_n, ↓us_ne]
            · by_cases q1 : z1 = 1
              · simp (disch := omega) only [↓jn_e, ↓ite_y, ↓ite_n, ↓oadd_eq, ↓osub_eq, ↓omul_eq, ↓odiv_eq, ↓orem_eq, ↓rd_eq, ↓wr_eq, ↓gf_e, ↓pf_e, ↓bnd_e, ↓bndp_e, ↓opure_e, ↓oif_t, ↓oif_f, ↓E_isPlace_y, ↓E_isPlace_n, ↓E_isNumber_y, ↓E_isNumber_n, ↓M_isPlace_y, ↓M_isPlace_n, ↓M_isNumber_y, ↓M_isNumber_n, ↓M_in_y, ↓M_in_n, ↓us_ne]
              · simp (disch := omega) only [↓jn_e, ↓ite_y, ↓ite_n, ↓oadd_eq, ↓osub_eq, ↓omul_eq, ↓odiv_eq, ↓orem_eq, ↓rd_eq, ↓wr_eq, ↓gf_e, ↓pf_e, ↓bnd_e, ↓bndp_e, ↓opure_e, ↓oif_t, ↓oif_f, ↓E_isPlace_y, ↓E_isPlace_n, ↓E_isNumber_y, ↓E_isNumber_n, ↓M_isPlace_y, ↓M_isPlace_n, ↓M_isNumber_y, ↓M_isNumber_n, ↓M_in_y, ↓M_in_n, ↓us_ne]
          · by_cases q : z1 = 0
            · simp (disch := omega) only [↓jn_e, ↓ite_y, ↓ite_n, ↓oadd_eq, ↓osub_eq, ↓omul_eq, ↓odiv_eq, ↓orem_eq, ↓rd_eq, ↓wr_eq, ↓gf_e, ↓pf_e, ↓bnd_e, ↓bndp_e, ↓opure_e, ↓oif_t, ↓oif_f, ↓E_isPlace_y, ↓E_isPlace_n, ↓E_isNumber_y, ↓E_isNumber_n, ↓M_isPlace_y, ↓M_isPlace_n, ↓M_isNumber_y, ↓M_isNumber_n, ↓M_in_y, ↓M_in_n, ↓us_ne]
            · by_cases q1 : z1 = 1
              · simp (disch := omega) only [↓jn_e, ↓ite_y, ↓ite_n, ↓oadd_eq, ↓osub_eq, ↓omul_eq, ↓odiv_eq, ↓orem_eq, ↓rd_eq, ↓wr_eq, ↓gf_e, ↓pf_e, ↓bnd_e, ↓bndp_e, ↓opure_e, ↓oif_t, ↓oif_f, ↓E_isPlace_y, ↓E_isPlace_n, ↓E_isNumber_y, ↓E_isNumber_n, ↓M_isPlace_y, ↓M_isPlace_n, ↓M_isNumber_y, ↓M_isNumber_n, ↓M_in_y, ↓M_in_n, ↓us_ne]
              · simp (disch := omega) only [↓jn_e, ↓ite_y, ↓ite_n, ↓oadd_eq, ↓osub_eq, ↓omul_eq, ↓odiv_eq, ↓orem_eq, ↓rd_eq, ↓wr_eq, ↓gf_e, ↓pf_e, ↓bnd_e, ↓bndp_e, ↓opure_e, ↓oif_t, ↓oif_f, ↓E_isPlace_y, ↓E_isPlace_n, ↓E_isNumber_y, ↓E_isNumber_n, ↓M_isPlace_y, ↓M_isPlace_n, ↓M_isNumber_y, ↓M_isNumber_n, ↓M_in_y, ↓M_in_n, ↓us_ne]
        · by_cases q0 : z1 = 0
          · obtain ⟨c, c1, c2⟩ := front_eq a
            subst q0
            refine ⟨c, us τ 33 0 0, ?_, ?_, hS0.thr⟩
            · by_cases w : z0 = 0
              · simp (disch := omega) only [↓jn_e, ↓ite_y, ↓ite_n, ↓oadd_eq, ↓osub_eq, ↓omul_eq, ↓odiv_eq, ↓orem_eq, ↓rd_eq, ↓wr_eq, ↓gf_e, ↓pf_e, ↓bnd_e, ↓bndp_e, ↓opure_e, ↓oif_t, ↓oif_f, ↓E_isPlace_y, ↓E_isPlace_n, ↓E_isNumber_y, ↓E_isNumber_n, ↓M_isPlace_y, ↓M_isPlace_n, ↓M_isNumber_y, ↓M_isNumber_n, ↓M_in_y, ↓M_in_n, ↓us_ne, ↓c1]
              · simp (disch := omega) only [↓jn_e, ↓ite_y, ↓ite_n, ↓oadd_eq, ↓osub_eq, ↓omul_eq, ↓odiv_eq, ↓orem_eq, ↓rd_eq, ↓wr_eq, ↓gf_e, ↓pf_e, ↓bnd_e, ↓bndp_e, ↓opure_e, ↓oif_t, ↓oif_f, ↓E_isPlace_y, ↓E_isPlace_n, ↓E_isNumber_y, ↓E_isNumber_n, ↓M_isPlace_y, ↓M_isPlace_n, ↓M_isNumber_y, ↓M_isNumber_n, ↓M_in_y, ↓M_in_n, ↓us_ne, ↓c1]
            · by_cases w : z0 = 0
              · simp (disch := omega) only [↓jn_e, ↓ite_y, ↓ite_n, ↓oadd_eq, ↓osub_eq, ↓omul_eq, ↓odiv_eq, ↓orem_eq, ↓rd_eq, ↓wr_eq, ↓gf_e, ↓pf_e, ↓bnd_e, ↓bndp_e, ↓opure_e, ↓oif_t, ↓oif_f, ↓E_isPlace_y, ↓E_isPlace_n, ↓E_isNumber_y, ↓E_isNumber_n, ↓M_isPlace_y, ↓M_isPlace_n, ↓M_isNumber_y, ↓M_isNumber_n, ↓M_in_y, ↓M_in_n, ↓us_ne, ↓c2]
              · simp (disch := omega) only [↓jn_e, ↓ite_y, ↓ite_n, ↓oadd_eq, ↓osub_eq, ↓omul_eq, ↓odiv_eq, ↓orem_eq, ↓rd_eq, ↓wr_eq, ↓gf_e, ↓pf_e, ↓bnd_e, ↓bndp_e, ↓opure_e, ↓oif_t, ↓oif_f, ↓E_isPlace_y, ↓E_isPlace_n, ↓E_isNumber_y, ↓E_isNumber_n, ↓M_isPlace_y, ↓M_isPlace_n, ↓M_isNumber_y, ↓M_isNumber_n, ↓M_in_y, ↓M_in_n, ↓us_ne, ↓c2]
          · by_cases q4 : z1 = 4
            · obtain ⟨c, c1, c2⟩ := front_eq a
              subst q4
              refine ⟨c, us τ 33 0 0, ?_, ?_, hS0.thr⟩
              · by_cases w : z0 = 0
                · simp (disch := omega) only [↓jn_e, ↓ite_y, ↓ite_n, ↓oadd_eq, ↓osub_eq, ↓omul_eq, ↓odiv_eq, ↓orem_eq, ↓rd_eq, ↓wr_eq, ↓gf_e, ↓pf_e, ↓bnd_e, ↓bndp_e, ↓opure_e, ↓oif_t, ↓oif_f, ↓E_isPlace_y, ↓E_isPlace_n, ↓E_isNumber_y, ↓E_isNumber_n, ↓M_isPlace_y, ↓M_isPlace_n, ↓M_isNumber_y, ↓M_isNumber_n, ↓M_in_y, ↓M_in_n, ↓us_ne, ↓c1]
                · simp (disch := omega) only [↓jn_e, ↓ite_y, ↓ite_n, ↓oadd_eq, ↓osub_eq, ↓omul_eq, ↓odiv_eq, ↓orem_eq, ↓rd_eq, ↓wr_eq, ↓gf_e, ↓pf_e, ↓bnd_e, ↓bndp_e, ↓opure_e, ↓oif_t, ↓oif_f, ↓E_isPlace_y, ↓E_isPlace_n, ↓E_isNumber_y, ↓E_isNumber_n, ↓M_isPlace_y, ↓M_isPlace_n, ↓M_isNumber_y, ↓M_isNumber_n, ↓M_in_y, ↓M_in_n, ↓us_ne, ↓c1]
              · by_cases w : z0 = 0
                · simp (disch := omega) only [↓jn_e, ↓ite_y, ↓ite_n, ↓oadd_eq, ↓osub_eq, ↓omul_eq, ↓odiv_eq, ↓orem_eq, ↓rd_eq, ↓wr_eq, ↓gf_e, ↓pf_e, ↓bnd_e, ↓bndp_e, ↓opure_e, ↓oif_t, ↓oif_f, ↓E_isPlace_y, ↓E_isPlace_n, ↓E_isNumber_y, ↓E_isNumber_n, ↓M_isPlace_y, ↓M_isPlace_n, ↓M_isNumber_y, ↓M_isNumber_n, ↓M_in_y, ↓M_in_n, ↓us_ne, ↓c2]
                · simp (disch := omega) only [↓jn_e, ↓ite_y, ↓ite_n, ↓oadd_eq, ↓osub_eq, ↓omul_eq, ↓odiv_eq, ↓orem_eq, ↓rd_eq, ↓wr_eq, ↓gf_e, ↓pf_e, ↓bnd_e, ↓bndp_e, ↓opure_e, ↓oif_t, ↓oif_f, ↓E_isPlace_y, ↓E_isPlace_n, ↓E_isNumber_y, ↓E_isNumber_n, ↓M_isPlace_y, ↓M_isPlace_n, ↓M_isNumber_y, ↓M_isNumber_n, ↓M_in_y, ↓M_in_n, ↓us_ne, ↓c2]
            · by_cases q2 : z1 = 2
              · obtain ⟨c, c1, c2⟩ := firstc_eq a
                subst q2
                refine ⟨c, us τ 33 0 0, ?_, ?_, hS0.thr⟩
                · by_cases w : z0 = 255
                  · simp (disch := omega) only [↓jn_e, ↓ite_y, ↓ite_n, ↓oadd_eq, ↓osub_eq, ↓omul_eq, ↓odiv_eq, ↓orem_eq, ↓rd_eq, ↓wr_eq, ↓gf_e, ↓pf_e, ↓bnd_e, ↓bndp_e, ↓opure_e, ↓oif_t, ↓oif_f, ↓E_isPlace_y, ↓E_isPlace_n, ↓E_isNumber_y, ↓E_isNumber_n, ↓M_isPlace_y, ↓M_isPlace_n, ↓M_isNumber_y, ↓M_isNumber_n, ↓M_in_y, ↓M_in_n, ↓us_ne, ↓c1]
                  · simp (disch := omega) only [↓jn_e, ↓ite_y, ↓ite_n, ↓oadd_eq, ↓osub_eq, ↓omul_eq, ↓odiv_eq, ↓orem_eq, ↓rd_eq, ↓wr_eq, ↓gf_e, ↓pf_e, ↓bnd_e, ↓bndp_e, ↓opure_e, ↓oif_t, ↓oif_f, ↓E_isPlace_y, ↓E_isPlace_n, ↓E_isNumber_y, ↓E_isNumber_n, ↓M_isPlace_y, ↓M_isPlace_n, ↓M_isNumber_y, ↓M_isNumber_n, ↓M_in_y, ↓M_in_n, ↓us_ne, ↓c1]
                · by_cases w : z0 = 255
                  · simp (disch := omega) only [↓jn_e, ↓ite_y, ↓ite_n, ↓oadd_eq, ↓osub_eq, ↓omul_eq, ↓odiv_eq, ↓orem_eq, ↓rd_eq, ↓wr_eq, ↓gf_e, ↓pf_e, ↓bnd_e, ↓bndp_e, ↓opure_e, ↓oif_t, ↓oif_f, ↓E_isPlace_y, ↓E_isPlace_n, ↓E_isNumber_y, ↓E_isNumber_n, ↓M_isPlace_y, ↓M_isPlace_n, ↓M_isNumber_y, ↓M_isNumber_n, ↓M_in_y, ↓M_in_n, ↓us_ne, ↓c2]
                  · simp (disch := omega) only [↓jn_e, ↓ite_y, ↓ite_n, ↓oadd_eq, ↓osub_eq, ↓omul_eq, ↓odiv_eq, ↓orem_eq, ↓rd_eq, ↓wr_eq, ↓gf_e, ↓pf_e, ↓bnd_e, ↓bndp_e, ↓opure_e, ↓oif_t, ↓oif_f, ↓E_isPlace_y, ↓E_isPlace_n, ↓E_isNumber_y, ↓E_isNumber_n, ↓M_isPlace_y, ↓M_isPlace_n, ↓M_isNumber_y, ↓M_isNumber_n, ↓M_in_y, ↓M_in_n, ↓us_ne, ↓c2]
              · by_cases q5 : z1 = 5
                · subst q5
                  have e41 : us (us τ 33 0 0) 41 0 0 41 0 = 0 := us_eq _ _ _ _
                  have e1 := counts_eq 12 (us (us τ 33 0 0) 41 0 0) z0 a.1 (by rw [p2_12]; omega) a.2 (by omega) (by rw [e41]; omega)
                  rw [e41, us_us] at e1
                  obtain ⟨τa, hτa⟩ : ∃ τa, τa = us (us τ 33 0 0) 41 0 (0 + cs 12 z0) := ⟨_, rfl⟩
                  rw [← hτa] at e1
                  have fa : Fr [33, 41] τ τa := by rw [hτa]; exact (fr_sc _ τ 33 0 (by decide)).us (by decide)
                  have a41 : τa 41 0 = cs 12 z0 := by rw [hτa, us_eq]; omega
                  have st := steps_eq a
                  refine ⟨cs 12 z0, τa, ?_, ?_, hS0.asq (Fr.rf _ _) (fa.mono (by decide)) (Rws.fr fa (by decide) (by decide) (by decide) _)⟩
                  · by_cases w : z0 = 0
                    · simp (disch := omega) only [↓jn_e, ↓ite_y, ↓ite_n, ↓oadd_eq, ↓osub_eq, ↓omul_eq, ↓odiv_eq, ↓orem_eq, ↓rd_eq, ↓wr_eq, ↓gf_e, ↓pf_e, ↓bnd_e, ↓bndp_e, ↓opure_e, ↓oif_t, ↓oif_f, ↓E_isPlace_y, ↓E_isPlace_n, ↓E_isNumber_y, ↓E_isNumber_n, ↓M_isPlace_y, ↓M_isPlace_n, ↓M_isNumber_y, ↓M_isNumber_n, ↓M_in_y, ↓M_in_n, ↓us_ne, ↓st]
                    · by_cases w2 : z0 = 255
                      · simp (disch := omega) only [↓jn_e, ↓ite_y, ↓ite_n, ↓oadd_eq, ↓osub_eq, ↓omul_eq, ↓odiv_eq, ↓orem_eq, ↓rd_eq, ↓wr_eq, ↓gf_e, ↓pf_e, ↓bnd_e, ↓bndp_e, ↓opure_e, ↓oif_t, ↓oif_f, ↓E_isPlace_y, ↓E_isPlace_n, ↓E_isNumber_y, ↓E_isNumber_n, ↓M_isPlace_y, ↓M_isPlace_n, ↓M_isNumber_y, ↓M_isNumber_n, ↓M_in_y, ↓M_in_n, ↓us_ne, ↓st]
                      · simp (disch := omega) only [↓jn_e, ↓ite_y, ↓ite_n, ↓oadd_eq, ↓osub_eq, ↓omul_eq, ↓odiv_eq, ↓orem_eq, ↓rd_eq, ↓wr_eq, ↓gf_e, ↓pf_e, ↓bnd_e, ↓bndp_e, ↓opure_e, ↓oif_t, ↓oif_f, ↓E_isPlace_y, ↓E_isPlace_n, ↓E_isNumber_y, ↓E_isNumber_n, ↓M_isPlace_y, ↓M_isPlace_n, ↓M_isNumber_y, ↓M_isNumber_n, ↓M_in_y, ↓M_in_n, ↓us_ne, ↓st]
                  · by_cases w : z0 = 0
                    · simp (disch := omega) only [↓jn_e, ↓ite_y, ↓ite_n, ↓oadd_eq, ↓osub_eq, ↓omul_eq, ↓odiv_eq, ↓orem_eq, ↓rd_eq, ↓wr_eq, ↓gf_e, ↓pf_e, ↓bnd_e, ↓bndp_e, ↓opure_e, ↓oif_t, ↓oif_f, ↓E_isPlace_y, ↓E_isPlace_n, ↓E_isNumber_y, ↓E_isNumber_n, ↓M_isPlace_y, ↓M_isPlace_n, ↓M_isNumber_y, ↓M_isNumber_n, ↓M_in_y, ↓M_in_n, ↓us_ne, RD_eq, ↓e1, a41]
                    · by_cases w2 : z0 = 255
                      · simp (disch := omega) only [↓jn_e, ↓ite_y, ↓ite_n, ↓oadd_eq, ↓osub_eq, ↓omul_eq, ↓odiv_eq, ↓orem_eq, ↓rd_eq, ↓wr_eq, ↓gf_e, ↓pf_e, ↓bnd_e, ↓bndp_e, ↓opure_e, ↓oif_t, ↓oif_f, ↓E_isPlace_y, ↓E_isPlace_n, ↓E_isNumber_y, ↓E_isNumber_n, ↓M_isPlace_y, ↓M_isPlace_n, ↓M_isNumber_y, ↓M_isNumber_n, ↓M_in_y, ↓M_in_n, ↓us_ne, RD_eq, ↓e1, a41]
                      · simp (disch := omega) only [↓jn_e, ↓ite_y, ↓ite_n, ↓oadd_eq, ↓osub_eq, ↓omul_eq, ↓odiv_eq, ↓orem_eq, ↓rd_eq, ↓wr_eq, ↓gf_e, ↓pf_e, ↓bnd_e, ↓bndp_e, ↓opure_e, ↓oif_t, ↓oif_f, ↓E_isPlace_y, ↓E_isPlace_n, ↓E_isNumber_y, ↓E_isNumber_n, ↓M_isPlace_y, ↓M_isPlace_n, ↓M_isNumber_y, ↓M_isNumber_n, ↓M_in_y, ↓M_in_n, ↓us_ne, RD_eq, ↓e1, a41]
                · by_cases q1 : z1 = 1
                  · subst q1
                    obtain ⟨τa, ea, fa, ha, -, -⟩ := laysWay_ex (i := z0) (by omega) (us τ 33 0 0)
                    have dd := Shape_depth_eq (x := z0) (by omega)
                    have h7 := dp_7 (i := z0) (by omega)
                    refine ⟨(dp z0 : Int) + 1, τa, ?_, ?_, hS0.asq (Fr.rf _ _) (((fr_sc [33] τ 33 0 (by decide)).mono (by decide)).tr (fa.mono (by decide))) ((Rws.fr (fr_sc [33] _ _ _ (by decide)) (by decide) (by decide) (by decide) _).tr (Rws.fr fa (by decide) (by decide) (by decide) _))⟩
                    · by_cases w : z0 = 0
                      · simp (disch := omega) only [↓jn_e, ↓ite_y, ↓ite_n, ↓oadd_eq, ↓osub_eq, ↓omul_eq, ↓odiv_eq, ↓orem_eq, ↓rd_eq, ↓wr_eq, ↓gf_e, ↓pf_e, ↓bnd_e, ↓bndp_e, ↓opure_e, ↓oif_t, ↓oif_f, ↓E_isPlace_y, ↓E_isPlace_n, ↓E_isNumber_y, ↓E_isNumber_n, ↓M_isPlace_y, ↓M_isPlace_n, ↓M_isNumber_y, ↓M_isNumber_n, ↓M_in_y, ↓M_in_n, ↓us_ne, ↓dd]
                      · simp (disch := omega) only [↓jn_e, ↓ite_y, ↓ite_n, ↓oadd_eq, ↓osub_eq, ↓omul_eq, ↓odiv_eq, ↓orem_eq, ↓rd_eq, ↓wr_eq, ↓gf_e, ↓pf_e, ↓bnd_e, ↓bndp_e, ↓opure_e, ↓oif_t, ↓oif_f, ↓E_isPlace_y, ↓E_isPlace_n, ↓E_isNumber_y, ↓E_isNumber_n, ↓M_isPlace_y, ↓M_isPlace_n, ↓M_isNumber_y, ↓M_isNumber_n, ↓M_in_y, ↓M_in_n, ↓us_ne, ↓dd]
                    · by_cases w : z0 = 0
                      · simp (disch := omega) only [↓jn_e, ↓ite_y, ↓ite_n, ↓oadd_eq, ↓osub_eq, ↓omul_eq, ↓odiv_eq, ↓orem_eq, ↓rd_eq, ↓wr_eq, ↓gf_e, ↓pf_e, ↓bnd_e, ↓bndp_e, ↓opure_e, ↓oif_t, ↓oif_f, ↓E_isPlace_y, ↓E_isPlace_n, ↓E_isNumber_y, ↓E_isNumber_n, ↓M_isPlace_y, ↓M_isPlace_n, ↓M_isNumber_y, ↓M_isNumber_n, ↓M_in_y, ↓M_in_n, ↓us_ne, ↓ea, ha]
                      · simp (disch := omega) only [↓jn_e, ↓ite_y, ↓ite_n, ↓oadd_eq, ↓osub_eq, ↓omul_eq, ↓odiv_eq, ↓orem_eq, ↓rd_eq, ↓wr_eq, ↓gf_e, ↓pf_e, ↓bnd_e, ↓bndp_e, ↓opure_e, ↓oif_t, ↓oif_f, ↓E_isPlace_y, ↓E_isPlace_n, ↓E_isNumber_y, ↓E_isNumber_n, ↓M_isPlace_y, ↓M_isPlace_n, ↓M_isNumber_y, ↓M_isNumber_n, ↓M_in_y, ↓M_in_n, ↓us_ne, ↓ea, ha]
                  · have q3 : z1 = 3 := by omega
                    subst q3
                    obtain ⟨τa, ea, fa, ha, -, -⟩ := laysWay_ex (i := z0 - 1) (by omega) (us τ 33 0 0)
                    have dd := Shape_depth_eq (x := z0 - 1) (by omega)
                    have h7 := dp_7 (i := z0 - 1) (by omega)
                    have e3 : (dp (z0 - 1) : Int) + 1 - 1 = (dp (z0 - 1) : Int) := by omega
                    refine ⟨(dp (z0 - 1) : Int), τa, ?_, ?_, hS0.asq (Fr.rf _ _) (((fr_sc [33] τ 33 0 (by decide)).mono (by decide)).tr (fa.mono (by decide))) ((Rws.fr (fr_sc [33] _ _ _ (by decide)) (by decide) (by decide) (by decide) _).tr (Rws.fr fa (by decide) (by decide) (by decide) _))⟩
                    · by_cases w : z0 = 255
                      · simp (disch := omega) only [↓jn_e, ↓ite_y, ↓ite_n, ↓oadd_eq, ↓osub_eq, ↓omul_eq, ↓odiv_eq, ↓orem_eq, ↓rd_eq, ↓wr_eq, ↓gf_e, ↓pf_e, ↓bnd_e, ↓bndp_e, ↓opure_e, ↓oif_t, ↓oif_f, ↓E_isPlace_y, ↓E_isPlace_n, ↓E_isNumber_y, ↓E_isNumber_n, ↓M_isPlace_y, ↓M_isPlace_n, ↓M_isNumber_y, ↓M_isNumber_n, ↓M_in_y, ↓M_in_n, ↓us_ne, ↓dd]
                      · simp (disch := omega) only [↓jn_e, ↓ite_y, ↓ite_n, ↓oadd_eq, ↓osub_eq, ↓omul_eq, ↓odiv_eq, ↓orem_eq, ↓rd_eq, ↓wr_eq, ↓gf_e, ↓pf_e, ↓bnd_e, ↓bndp_e, ↓opure_e, ↓oif_t, ↓oif_f, ↓E_isPlace_y, ↓E_isPlace_n, ↓E_isNumber_y, ↓E_isNumber_n, ↓M_isPlace_y, ↓M_isPlace_n, ↓M_isNumber_y, ↓M_isNumber_n, ↓M_in_y, ↓M_in_n, ↓us_ne, ↓dd]
                    · by_cases w : z0 = 255
                      · simp (disch := omega) only [↓jn_e, ↓ite_y, ↓ite_n, ↓oadd_eq, ↓osub_eq, ↓omul_eq, ↓odiv_eq, ↓orem_eq, ↓rd_eq, ↓wr_eq, ↓gf_e, ↓pf_e, ↓bnd_e, ↓bndp_e, ↓opure_e, ↓oif_t, ↓oif_f, ↓E_isPlace_y, ↓E_isPlace_n, ↓E_isNumber_y, ↓E_isNumber_n, ↓M_isPlace_y, ↓M_isPlace_n, ↓M_isNumber_y, ↓M_isNumber_n, ↓M_in_y, ↓M_in_n, ↓us_ne, ↓ea, ha, e3]
                      · simp (disch := omega) only [↓jn_e, ↓ite_y, ↓ite_n, ↓oadd_eq, ↓osub_eq, ↓omul_eq, ↓odiv_eq, ↓orem_eq, ↓rd_eq, ↓wr_eq, ↓gf_e, ↓pf_e, ↓bnd_e, ↓bndp_e, ↓opure_e, ↓oif_t, ↓oif_f, ↓E_isPlace_y, ↓E_isPlace_n, ↓E_isNumber_y, ↓E_isNumber_n, ↓M_isPlace_y, ↓M_isPlace_n, ↓M_isNumber_y, ↓M_isNumber_n, ↓M_in_y, ↓M_in_n, ↓us_ne, ↓ea, ha, e3]
    · refine ⟨-1, us τ 33 0 0, ?_, ?_, hS0.thr⟩
      · by_cases q : z1 < 0
        · simp (disch := omega) only [↓jn_e, ↓ite_y, ↓ite_n, ↓oadd_eq, ↓osub_eq, ↓omul_eq, ↓odiv_eq, ↓orem_eq, ↓rd_eq, ↓wr_eq, ↓gf_e, ↓pf_e, ↓bnd_e, ↓bndp_e, ↓opure_e, ↓oif_t, ↓oif_f, ↓E_isPlace_y, ↓E_isPlace_n, ↓E_isNumber_y, ↓E_isNumber_n, ↓M_isPlace_y, ↓M_isPlace_n, ↓M_isNumber_y, ↓M_isNumber_n, ↓M_in_y, ↓M_in_n, ↓us_ne]
        · simp (disch := omega) only [↓jn_e, ↓ite_y, ↓ite_n, ↓oadd_eq, ↓osub_eq, ↓omul_eq, ↓odiv_eq, ↓orem_eq, ↓rd_eq, ↓wr_eq, ↓gf_e, ↓pf_e, ↓bnd_e, ↓bndp_e, ↓opure_e, ↓oif_t, ↓oif_f, ↓E_isPlace_y, ↓E_isPlace_n, ↓E_isNumber_y, ↓E_isNumber_n, ↓M_isPlace_y, ↓M_isPlace_n, ↓M_isNumber_y, ↓M_isNumber_n, ↓M_in_y, ↓M_in_n, ↓us_ne]
      · simp (disch := omega) only [↓jn_e, ↓ite_y, ↓ite_n, ↓oadd_eq, ↓osub_eq, ↓omul_eq, ↓odiv_eq, ↓orem_eq, ↓rd_eq, ↓wr_eq, ↓gf_e, ↓pf_e, ↓bnd_e, ↓bndp_e, ↓opure_e, ↓oif_t, ↓oif_f, ↓E_isPlace_y, ↓E_isPlace_n, ↓E_isNumber_y, ↓E_isNumber_n, ↓M_isPlace_y, ↓M_isPlace_n, ↓M_isNumber_y, ↓M_isNumber_n, ↓M_in_y, ↓M_in_n, ↓us_ne]
  · refine ⟨-1, us τ 33 0 0, ?_, ?_, hS0.thr⟩
    · by_cases q : z0 < 0
      · simp (disch := omega) only [↓jn_e, ↓ite_y, ↓ite_n, ↓oadd_eq, ↓osub_eq, ↓omul_eq, ↓odiv_eq, ↓orem_eq, ↓rd_eq, ↓wr_eq, ↓gf_e, ↓pf_e, ↓bnd_e, ↓bndp_e, ↓opure_e, ↓oif_t, ↓oif_f, ↓E_isPlace_y, ↓E_isPlace_n, ↓E_isNumber_y, ↓E_isNumber_n, ↓M_isPlace_y, ↓M_isPlace_n, ↓M_isNumber_y, ↓M_isNumber_n, ↓M_in_y, ↓M_in_n, ↓us_ne]
      · simp (disch := omega) only [↓jn_e, ↓ite_y, ↓ite_n, ↓oadd_eq, ↓osub_eq, ↓omul_eq, ↓odiv_eq, ↓orem_eq, ↓rd_eq, ↓wr_eq, ↓gf_e, ↓pf_e, ↓bnd_e, ↓bndp_e, ↓opure_e, ↓oif_t, ↓oif_f, ↓E_isPlace_y, ↓E_isPlace_n, ↓E_isNumber_y, ↓E_isNumber_n, ↓M_isPlace_y, ↓M_isPlace_n, ↓M_isNumber_y, ↓M_isNumber_n, ↓M_in_y, ↓M_in_n, ↓us_ne]
    · simp (disch := omega) only [↓jn_e, ↓ite_y, ↓ite_n, ↓oadd_eq, ↓osub_eq, ↓omul_eq, ↓odiv_eq, ↓orem_eq, ↓rd_eq, ↓wr_eq, ↓gf_e, ↓pf_e, ↓bnd_e, ↓bndp_e, ↓opure_e, ↓oif_t, ↓oif_f, ↓E_isPlace_y, ↓E_isPlace_n, ↓E_isNumber_y, ↓E_isNumber_n, ↓M_isPlace_y, ↓M_isPlace_n, ↓M_isNumber_y, ↓M_isNumber_n, ↓M_in_y, ↓M_in_n, ↓us_ne]

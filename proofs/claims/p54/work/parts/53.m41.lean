-- MATH 41: asks: twins, own
def f0 (u : Int → Int) (z : Int) : Int := if oc u on1 (u z) z.toNat = 0 then 1 else 0
def f1 (u : Int → Int) (z : Int) : Int := if on1 z = 1 ∧ oc u on1 (u z) z.toNat = 1 then 1 else 0
def f2 (u : Int → Int) (n : Nat) (z : Int) : Int := if (on1 z = 1 ∧ oc u on1 (u z) z.toNat = 0) ∧ 1 < oc u on1 (u z) n then 1 else 0
theorem f_rng (u : Int → Int) (n : Nat) (z : Int) : (0 ≤ f0 u z ∧ f0 u z ≤ 1) ∧ (0 ≤ f1 u z ∧ f1 u z ≤ 1) ∧ 0 ≤ f2 u n z ∧ f2 u n z ≤ 1 := ⟨ind_rng _, ind_rng _, ind_rng _⟩
theorem twinsE_loop {K : St → Int → Int → Int → Option (Int × St)} {ρ : Int → Int → Prop} {σ τ : St} (hBi : Bi ρ σ τ) {B p N : Int} {sl0 u : Int → Int} (hp : 0 ≤ p ∧ p < 6) (hN : 0 ≤ N ∧ N ≤ 255) (hB : B ≤ 2000000) (hr : ∀ x, 0 ≤ x → x < N → ρ (sl0 x) (u x)) : ∀ (r m : Nat) (s : St) (a b y x : Int), x + r = N → 0 ≤ x → r < m → s 25 p = N → (∀ z, 0 ≤ z → z < N → s 12 z = sl0 z) → a = sm (f0 u) x.toNat → b = sm (f1 u) x.toNat → (∀ v, oc u on1 v x.toNat ≤ y) → (∃ v, oc u on1 v x.toNat = y) → Mq ρ s B (fun w => oc u on1 w x.toNat) →
    ∃ s' y', E_twins_L45 K p m s a b y x = K s' (sm (f0 u) N.toNat) (sm (f1 u) N.toNat) y' ∧ Fr [11] s s' ∧ Mq ρ s' B (fun w => oc u on1 w N.toNat) ∧ (∀ v, oc u on1 v N.toNat ≤ y') ∧ ∃ v, oc u on1 v N.toNat = y' := by
  intro r
  induction r with
  | zero =>
    intro m s a b y x h1 h0 h2 h25 h12 ha hb hy hv hM
    cases m with
    | zero => omega
    | succ m =>
    have e : x = N := by omega
    rw [e] at ha hb hy hv hM
    refine ⟨s, y, ?_, Fr.rf _ _, hM, hy, hv⟩
    unfold E_twins_L45
    rw [rd_eq (by omega), h25, if_neg (by omega), ha, hb]
  | succ r ih =>
    intro m s a b y x h1 h0 h2 h25 h12 ha hb hy hv hM
    cases m with
    | zero => omega
    | succ m =>
    have rc := oc_rng u on1 (u x) x.toNat
    have ra := sm_one (fun z => (f_rng u 0 z).1) x.toNat
    have rb := sm_one (fun z => (f_rng u 0 z).2.1) x.toNat
    have sa := sm_step (f0 u) h0
    have sb := sm_step (f1 u) h0
    obtain ⟨s1, e1, g1, m1⟩ := count_ex hBi hM hB (x := x) (by omega) (h12 x h0 (by omega)) (hr x h0 (by omega)) (by omega)
    have mx := imax_le y (oc u on1 (u x) x.toNat + 1)
    obtain ⟨s2, y2, e2, g2, m2⟩ := ih m s1 (a + f0 u x) (b + f1 u x) (imax y (oc u on1 (u x) x.toNat + 1)) (x + 1) (by omega) (by omega) (by omega) (by rw [g1 25 (by decide)]; exact h25) (fun z a b => by rw [g1 12 (by decide)]; exact h12 z a b) (by omega) (by omega)
      (fun v => by
        rw [on_step u v h0]
        have := hy v
        by_cases q : u x = v
        · rw [if_pos q, q]; rw [q] at mx; omega
        · rw [if_neg q]; omega)
      (by
        rcases mx.1 with e | e
        · obtain ⟨v, hv⟩ := hv
          refine ⟨v, ?_⟩
          rw [on_step u v h0, e]
          by_cases q : u x = v
          · rw [q] at mx e; omega
          · rw [if_neg q]; omega
        · refine ⟨u x, ?_⟩
          rw [on_step u (u x) h0, e, if_pos rfl])
      (m1.ex (fun w => by
        rw [on_step u w h0]
        by_cases q : w = u x
        · rw [if_pos (c := w = u x) q, if_pos (c := u x = w) q.symm, q]
        · rw [if_neg (c := w = u x) q, if_neg (c := u x = w) (fun e => q e.symm), Int.add_zero]))
    refine ⟨s2, y2, ?_, g1.tr g2, m2⟩
    have o0 : ∀ (k : Int → Option (Int × St)), oif (oc u on1 (u x) x.toNat + 1 = 1) inferInstance 1 0 k = k (f0 u x) := fun k => by
      unfold f0
      by_cases q : oc u on1 (u x) x.toNat = 0
      · rw [if_pos q, oif_t (by omega) (by omega)]
      · rw [if_neg q, oif_f (by omega) (by omega)]
    have o1 : ∀ (k : Int → Option (Int × St)), oif (oc u on1 (u x) x.toNat + 1 = 2) inferInstance 1 0 k = k (f1 u x) := fun k => by
      unfold f1
      by_cases q : oc u on1 (u x) x.toNat = 1
      · rw [if_pos ⟨rfl, q⟩, oif_t (by omega) (by omega)]
      · rw [if_neg (c := on1 x = 1 ∧ oc u on1 (u x) x.toNat = 1) (fun e => q e.2), oif_f (by omega) (by omega)]
    have r1 := f_rng u 0 x
    unfold E_twins_L45
    rw [rd_eq (by omega), h25, if_pos (by omega), e1, bnd_eq, o0, oadd_eq (by omega), o1, oadd_eq (by omega), opure_eq, oadd_eq (by omega)]
    exact e2
theorem twinsM_loop {K : Int → Int → Int → Option (Int × St)} {τ : St} {p N : Int} (hp : 0 ≤ p ∧ p < 6) (hN : 0 ≤ N ∧ N ≤ 255) (h3 : τ 3 p = N) : ∀ (r m : Nat) (a b y x : Int), x + r = N → 0 ≤ x → r < m → a = sm (f2 (nm τ p) N.toNat) x.toNat → b = sm (f0 (nm τ p)) x.toNat → 0 ≤ y → (∀ v, 0 < oc (nm τ p) on1 v x.toNat → oc (nm τ p) on1 v N.toNat ≤ y) → (y = 0 ∨ ∃ v, oc (nm τ p) on1 v N.toNat = y) →
    ∃ y', M_twins_L24 K τ p m a b y x = K (sm (f2 (nm τ p) N.toNat) N.toNat) (sm (f0 (nm τ p)) N.toNat) y' ∧ 0 ≤ y' ∧ (∀ v, oc (nm τ p) on1 v N.toNat ≤ y') ∧ (y' = 0 ∨ ∃ v, oc (nm τ p) on1 v N.toNat = y') := by
  intro r
  induction r with
  | zero =>
    intro m a b y x h1 h0 h2 ha hb y0 hy hv
    cases m with
    | zero => omega
    | succ m =>
    have e : x = N := by omega
    rw [e] at ha hb hy
    refine ⟨y, ?_, y0, fun v => ?_, hv⟩
    · unfold M_twins_L24
      rw [rd_eq (by omega), h3, if_neg (by omega), ha, hb]
    · have := hy v
      have := oc_rng (nm τ p) on1 v N.toNat
      omega
  | succ r ih =>
    intro m a b y x h1 h0 h2 ha hb y0 hy hv
    cases m with
    | zero => omega
    | succ m =>
    have rc := oc_rng (nm τ p) on1 (nm τ p x) x.toNat
    have rn := oc_rng (nm τ p) on1 (nm τ p x) N.toNat
    have ra := sm_one (fun z => (f_rng (nm τ p) N.toNat z).2.2) x.toNat
    have rb := sm_one (fun z => (f_rng (nm τ p) 0 z).1) x.toNat
    have sa := sm_step (f2 (nm τ p) N.toNat) h0
    have sb := sm_step (f0 (nm τ p)) h0
    unfold M_twins_L24
    rw [rd_eq (by omega), h3, if_pos (by omega), isFirst_eq hp (by omega), bndp_eq, jn_eq]
    by_cases q : oc (nm τ p) on1 (nm τ p x) x.toNat = 0
    · have mx := imax_le y (oc (nm τ p) on1 (nm τ p x) N.toNat)
      have e0 : f0 (nm τ p) x = 1 := if_pos q
      have o2 : ∀ (k : Int → Option (Int × St)), oif (1 < oc (nm τ p) on1 (nm τ p x) N.toNat) inferInstance 1 0 k = k (f2 (nm τ p) N.toNat x) := fun k => by
        unfold f2
        by_cases q2 : 1 < oc (nm τ p) on1 (nm τ p x) N.toNat
        · rw [if_pos ⟨⟨rfl, q⟩, q2⟩, oif_t q2 (by omega)]
        · rw [if_neg (c := (on1 x = 1 ∧ oc (nm τ p) on1 (nm τ p x) x.toNat = 0) ∧ 1 < oc (nm τ p) on1 (nm τ p x) N.toNat) (fun e => q2 e.2), oif_f q2 (by omega)]
      have r2 := (f_rng (nm τ p) N.toNat x).2.2
      have of := often_eq (τ := τ) (v := nm τ p x) hp (by omega)
      rw [h3] at of
      rw [if_pos q, if_neg (by decide), node_eq hp (by omega), bndp_eq, of, bndp_eq, oadd_eq (by omega), o2, oadd_eq (by omega), opure_eq]
      dsimp only
      rw [oadd_eq (by omega)]
      refine ih m _ _ _ (x + 1) (by omega) (by omega) (by omega) (by omega) (by omega) (by omega) (fun v hv9 => ?_) ?_
      · rw [on_step (nm τ p) v h0] at hv9
        by_cases w : nm τ p x = v
        · rw [w] at mx ⊢; omega
        · rw [if_neg w] at hv9
          have := hy v (by omega)
          omega
      · rcases mx.1 with e | e
        · rw [e]; exact hv
        · rw [e]; exact Or.inr ⟨_, rfl⟩
    · have e0 : f0 (nm τ p) x = 0 := if_neg q
      have e2 : f2 (nm τ p) N.toNat x = 0 := if_neg (fun e => q e.1.2)
      rw [if_neg q, if_pos rfl]
      dsimp only
      rw [oadd_eq (by omega)]
      refine ih m _ _ _ (x + 1) (by omega) (by omega) (by omega) (by omega) (by omega) y0 (fun v hv9 => ?_) hv
      rw [on_step (nm τ p) v h0] at hv9
      by_cases w : nm τ p x = v
      · rw [w] at rc q
        exact hy v (by omega)
      · rw [if_neg w] at hv9
        exact hy v (by omega)
theorem call_twins : HS_44 SS := by
  intro k σ τ z0 hk hS i0
  have hS0 := hS
  obtain ⟨⟨ρ, hW⟩, hT, hr, hn, hm⟩ := hS
  by_cases a : 0 ≤ z0 ∧ z0 < 6
  · obtain ⟨s1, e1, g1, m1⟩ := forget_ex hW.1 hn (by omega)
    obtain ⟨s2, e2, g2, n0, t3, h25, c2, c3⟩ := row_slots hW a (g1.mono (by decide))
    obtain ⟨K1, hK1⟩ : ∃ K1 : St → Int → Int → Int → Option (Int × St), K1 = fun (s8 : St) (x9 : Int) (x10 : Int) (x11 : Int) => rd s8 25 6 z0 fun v13 => osub v13 x9 fun v14 => bnd (Row_tell1 s8 x11 v14) fun _ s16 => some (x10, s16) := ⟨_, rfl⟩
    obtain ⟨K2, hK2⟩ : ∃ K2 : Int → Int → Int → Option (Int × St), K2 = fun (x3 : Int) (x4 : Int) (x5 : Int) => pf (us τ 33 0 0) 32 0 fun s7 => bnd (M_tell s7 x5) fun _ s9 => rd s9 3 10 z0 fun v10 => osub v10 x4 fun v11 => bnd (M_tell s9 v11) fun _ s13 => some (x3, s13) := ⟨_, rfl⟩
    obtain ⟨s3, y1, e3, g3, m3, y2, y3⟩ := twinsE_loop (K := K1) hW.1 (sl0 := fun z => sl σ (σ 24 z0) z) (u := nm τ z0) a n0 (B := 256 * ((k : Int) + 1)) (by omega) c3 (σ 25 z0).toNat FU s2 0 0 0 0 (by omega) (by omega) (by unfold FU; omega) (by rw [g2 25 (by decide)]; exact h25) c2 rfl rfl (fun v => Int.le_refl _) ⟨0, rfl⟩ (m1.fr g2 (by decide))
    have nmu : nm (us τ 33 0 0) z0 = nm τ z0 := by unfold nm; rw [us_f (by decide)]
    have t3' : us τ 33 0 0 3 z0 = σ 25 z0 := by rw [us_ne (by decide)]; exact t3
    obtain ⟨y4, e4, y5, y6, y7⟩ := twinsM_loop (K := K2) (τ := us τ 33 0 0) a n0 t3' (σ 25 z0).toNat FU 0 0 0 0 (by omega) (by omega) (by unfold FU; omega) rfl rfl (by omega) (fun v q => by
      have e : oc (nm (us τ 33 0 0) z0) on1 v (0 : Int).toNat = 0 := rfl
      omega) (Or.inl rfl)
    rw [nmu] at e4 y6 y7
    have ey : y4 = y1 := by
      obtain ⟨v, hv⟩ := y3
      have q1 := y6 v
      rcases y7 with e | ⟨w, e⟩
      · have := oc_rng (nm τ z0) on1 v (σ 25 z0).toNat
        omega
      · have := y2 w
        omega
    have et : sm (f1 (nm τ z0)) (σ 25 z0).toNat = sm (f2 (nm τ z0) (σ 25 z0).toNat) (σ 25 z0).toNat := oc_twice (nm τ z0) on1 (σ 25 z0).toNat
    have ra := sm_one (fun z => (f_rng (nm τ z0) 0 z).1) (σ 25 z0).toNat
    have yb : 0 ≤ y1 ∧ y1 ≤ 255 := by
      obtain ⟨v, hv⟩ := y3
      have := oc_rng (nm τ z0) on1 v (σ 25 z0).toNat
      omega
    obtain ⟨σ1, τ1, τ2, t1, t2, t4, t5, t6, t7, t8, -⟩ := tells2 s3 (us τ 33 0 0) (a := y1) (b := σ 25 z0 - sm (f0 (nm τ z0)) (σ 25 z0).toNat) (by omega) (by omega)
    have q25 : s3 25 z0 = σ 25 z0 := by rw [g3 25 (by decide), g2 25 (by decide)]; exact h25
    have q3 : τ1 3 z0 = σ 25 z0 := by rw [t7 3 (by decide)]; exact t3'
    refine ⟨sm (f1 (nm τ z0)) (σ 25 z0).toNat, σ1, τ2, ?_, ?_, hS0.see ((g1.mono (by decide)).tr ((g2.mono (by decide)).tr (g3.mono (by decide)))) m3 t6 (((fr_sc [33] τ 33 0 (by decide)).mono (by decide)).tr (t8.mono (by decide))) ((Rws.fr (fr_sc [33] _ _ _ (by decide)) (by decide) (by decide) (by decide) _).tr (Rws.fr t8 (by decide) (by decide) (by decide) _)) t5⟩
    · unfold E_twins
      rw [E_isPlace_y a, bndp_eq, if_neg (by decide), e1, bnd_eq, rd_eq (by omega), rd_eq (by omega), e2, bnd_eq, ← hK1, jn_eq]
      refine e3.trans ?_
      rw [hK1]
      simp (disch := omega) only [↓jn_e, ↓ite_y, ↓ite_n, ↓oadd_eq, ↓osub_eq, ↓omul_eq, ↓odiv_eq, ↓orem_eq, ↓rd_eq, ↓wr_eq, ↓gf_e, ↓pf_e, ↓bnd_e, ↓bndp_e, ↓opure_e, ↓oif_t, ↓oif_f, ↓E_isPlace_y, ↓E_isPlace_n, ↓E_isNumber_y, ↓E_isNumber_n, ↓M_isPlace_y, ↓M_isPlace_n, ↓M_isNumber_y, ↓M_isNumber_n, ↓M_in_y, ↓M_in_n, ↓us_ne, q25, ↓t1]
    · unfold M_twins
      rw [pf_eq, M_isPlace_y a, bndp_eq, if_neg (by decide), ← hK2, jn_eq]
      refine e4.trans ?_
      rw [hK2, ey, et]
      simp (disch := omega) only [↓jn_e, ↓ite_y, ↓ite_n, ↓oadd_eq, ↓osub_eq, ↓omul_eq, ↓odiv_eq, ↓orem_eq, ↓rd_eq, ↓wr_eq, ↓gf_e, ↓pf_e, ↓bnd_e, ↓bndp_e, ↓opure_e, ↓oif_t, ↓oif_f, ↓E_isPlace_y, ↓E_isPlace_n, ↓E_isNumber_y, ↓E_isNumber_n, ↓M_isPlace_y, ↓M_isPlace_n, ↓M_isNumber_y, ↓M_isNumber_n, ↓M_in_y, ↓M_in_n, ↓us_ne, ↓t2, q3, ↓t4]
  · refine ⟨-1, σ, us τ 33 0 0, ?_, ?_, hS0.thr⟩
    · unfold E_twins
      simp (disch := omega) only [↓jn_e, ↓ite_y, ↓ite_n, ↓oadd_eq, ↓osub_eq, ↓omul_eq, ↓odiv_eq, ↓orem_eq, ↓rd_eq, ↓wr_eq, ↓gf_e, ↓pf_e, ↓bnd_e, ↓bndp_e, ↓opure_e, ↓oif_t, ↓oif_f, ↓E_isPlace_y, ↓E_isPlace_n, ↓E_isNumber_y, ↓E_isNumber_n, ↓M_isPlace_y, ↓M_isPlace_n, ↓M_isNumber_y, ↓M_isNumber_n, ↓M_in_y, ↓M_in_n, ↓us_ne]
    · unfold M_twins
      simp (disch := omega) only [↓jn_e, ↓ite_y, ↓ite_n, ↓oadd_eq, ↓osub_eq, ↓omul_eq, ↓odiv_eq, ↓orem_eq, ↓rd_eq, ↓wr_eq, ↓gf_e, ↓pf_e, ↓bnd_e, ↓bndp_e, ↓opure_e, ↓oif_t, ↓oif_f, ↓E_isPlace_y, ↓E_isPlace_n, ↓E_isNumber_y, ↓E_isNumber_n, ↓M_isPlace_y, ↓M_isPlace_n, ↓M_isNumber_y, ↓M_isNumber_n, ↓M_in_y, ↓M_in_n, ↓us_ne]
def ho (τ : St) (p v q : Int) : Int := if q = p then 0 else hh τ v q
theorem ho_rng (τ : St) (p v q : Int) : 0 ≤ ho τ p v q ∧ ho τ p v q ≤ 1 := by
  unfold ho
  split
  · omega
  · exact hh_rng τ v q
theorem ho_sum (τ : St) (p v : Int) (hp : 0 ≤ p) : ∀ m : Nat, sm (hh τ v) m = sm (ho τ p v) m + (if p < m then hh τ v p else 0) := by
  intro m
  induction m with
  | zero => rw [if_neg (by omega)]; rfl
  | succ m ih =>
    rw [sm_s, sm_s, ih]
    by_cases q : (m : Int) = p
    · have e : ho τ p v m = 0 := if_pos q
      rw [e, if_neg (by omega), if_pos (by omega), q]
    · have e : ho τ p v m = hh τ v m := if_neg q
      rw [e]
      by_cases w : p < m
      · rw [if_pos w, if_pos (by omega)]; omega
      · rw [if_neg w, if_neg (by omega)]; omega
theorem ownAll_loop {K : St → Option (Int × St)} {ρ : Int → Int → Prop} {σ τ : St} (hW : Wd ρ σ τ) {B p : Int} (hB : B ≤ 2000000) : ∀ (r m : Nat) (s : St) (x : Int), x + r = 6 → 0 ≤ x → r < m → Fr [11, 12, 33] σ s → Mq ρ s B (fun w => if 0 < sm (ho τ p w) x.toNat then 1 else 0) →
    ∃ s', E_own_L18 K p m s x = K s' ∧ Fr [11, 12] s s' ∧ Mq ρ s' B (fun w => if 0 < sm (ho τ p w) 6 then 1 else 0) := by
  intro r
  induction r with
  | zero =>
    intro m s x h1 h0 h2 hF hM
    cases m with
    | zero => omega
    | succ m =>
    have e : x = 6 := by omega
    rw [e] at hM
    refine ⟨s, ?_, Fr.rf _ _, hM⟩
    unfold E_own_L18
    rw [if_neg (by omega)]
  | succ r ih =>
    intro m s x h1 h0 h2 hF hM
    cases m with
    | zero => omega
    | succ m =>
    by_cases q : x = p
    · obtain ⟨s2, e2, g2, m2⟩ := ih m s (x + 1) (by omega) (by omega) (by omega) hF (hM.ex (fun w => by
        have := sm_step (ho τ p w) h0
        have e : ho τ p w x = 0 := if_pos q
        rw [this, e, Int.add_zero]))
      refine ⟨s2, ?_, g2, m2⟩
      unfold E_own_L18
      rw [if_pos (by omega), jn_eq, if_pos q]
      dsimp only
      rw [oadd_eq (by omega)]
      exact e2
    · obtain ⟨s1, e1, g1, m1⟩ := seeAll_ex hW (p := x) (by omega) hF hM hB (fun w => by have := ind_rng (0 < sm (ho τ p w) x.toNat); omega)
      obtain ⟨s2, e2, g2, m2⟩ := ih m s1 (x + 1) (by omega) (by omega) (by omega) (hF.tr (g1.mono (by decide))) (m1.ex (fun w => by
        have := sm_step (ho τ p w) h0
        have r := sm_one (fun q => ho_rng τ p w q) x.toNat
        have e : ho τ p w x = if 0 < oc (nm τ x) on1 w (σ 25 x).toNat then 1 else 0 := by
          unfold ho hh
          rw [if_neg q, (hW.2.2 x h0 (by omega)).2.1]
        rw [this, e]
        repeat' split
        all_goals omega))
      refine ⟨s2, ?_, g1.tr g2, m2⟩
      unfold E_own_L18
      rw [if_pos (by omega), jn_eq, if_neg q, e1, bnd_eq]
      dsimp only
      rw [oadd_eq (by omega)]
      exact e2
def g0 (u A : Int → Int) (z : Int) : Int := if oc u on1 (u z) z.toNat = 0 ∧ A (u z) = 0 then 1 else 0
theorem bits2 : bor 0 2 = 2 ∧ bor 1 2 = 3 ∧ bor 2 2 = 2 ∧ bor 3 2 = 3 ∧ band 0 2 = 0 ∧ band 1 2 = 0 ∧ band 2 2 = 2 ∧ band 3 2 = 2 := by decide +kernel
theorem ownE_loop {K : St → Int → Int → Option (Int × St)} {ρ : Int → Int → Prop} {σ τ : St} (hBi : Bi ρ σ τ) {B p N : Int} {sl0 u A : Int → Int} (hp : 0 ≤ p ∧ p < 6) (hN : 0 ≤ N ∧ N ≤ 255) (hB : B ≤ 2000000) (h01 : ∀ w, A w = 0 ∨ A w = 1) (hr : ∀ x, 0 ≤ x → x < N → ρ (sl0 x) (u x)) : ∀ (r m : Nat) (s : St) (a b x : Int), x + r = N → 0 ≤ x → r < m → s 25 p = N → (∀ z, 0 ≤ z → z < N → s 12 z = sl0 z) → a = sm (f0 u) x.toNat → b = sm (g0 u A) x.toNat → Mq ρ s B (fun w => A w + if 0 < oc u on1 w x.toNat then 2 else 0) →
    ∃ s', E_own_L67 K p m s a b x = K s' (sm (f0 u) N.toNat) (sm (g0 u A) N.toNat) ∧ Fr [11] s s' ∧ Mq ρ s' B (fun w => A w + if 0 < oc u on1 w N.toNat then 2 else 0) := by
  intro r
  induction r with
  | zero =>
    intro m s a b x h1 h0 h2 h25 h12 ha hb hM
    cases m with
    | zero => omega
    | succ m =>
    have e : x = N := by omega
    rw [e] at ha hb hM
    refine ⟨s, ?_, Fr.rf _ _, hM⟩
    unfold E_own_L67
    rw [rd_eq (by omega), h25, if_neg (by omega), ha, hb]
  | succ r ih =>
    intro m s a b x h1 h0 h2 h25 h12 ha hb hM
    cases m with
    | zero => omega
    | succ m =>
    have rc := oc_rng u on1 (u x) x.toNat
    have ra := sm_one (fun z => (f_rng u 0 z).1) x.toNat
    have rb := sm_one (fun z => ind_rng (oc u on1 (u z) z.toNat = 0 ∧ A (u z) = 0)) x.toNat
    have rb' : 0 ≤ sm (g0 u A) x.toNat ∧ sm (g0 u A) x.toNat ≤ x.toNat := rb
    have sa := sm_step (f0 u) h0
    have sb := sm_step (g0 u A) h0
    obtain ⟨c, hc⟩ : ∃ c, c = A (u x) + if 0 < oc u on1 (u x) x.toNat then 2 else 0 := ⟨_, rfl⟩
    have cc : (c = 0 ∧ A (u x) = 0 ∧ oc u on1 (u x) x.toNat = 0) ∨ (c = 1 ∧ A (u x) = 1 ∧ oc u on1 (u x) x.toNat = 0) ∨ (c = 2 ∧ A (u x) = 0 ∧ 0 < oc u on1 (u x) x.toNat) ∨ (c = 3 ∧ A (u x) = 1 ∧ 0 < oc u on1 (u x) x.toNat) := by
      have := h01 (u x)
      by_cases q : 0 < oc u on1 (u x) x.toNat
      · rw [if_pos q] at hc; omega
      · rw [if_neg q] at hc; omega
    have cb : bor c 2 = A (u x) + 2 ∧ (band c 2 = 0 ↔ oc u on1 (u x) x.toNat = 0) ∧ (c = 0 ↔ (oc u on1 (u x) x.toNat = 0 ∧ A (u x) = 0)) := by
      have b2 := bits2
      rcases cc with e | e | e | e
      · rw [e.1]; omega
      · rw [e.1]; omega
      · rw [e.1]; omega
      · rw [e.1]; omega
    have hbr : 0 ≤ bor c 2 ∧ bor c 2 ≤ 255 := by have := h01 (u x); omega
    rw [hc] at hbr
    obtain ⟨s1, e1, g1, m1⟩ := see_ex hBi hM hB (x := x) (by omega) (h12 x h0 (by omega)) (hr x h0 (by omega)) (b := 2) hbr
    rw [← hc] at e1 m1
    obtain ⟨s2, e2, g2, m2⟩ := ih m s1 (a + f0 u x) (b + g0 u A x) (x + 1) (by omega) (by omega) (by omega) (by rw [g1 25 (by decide)]; exact h25) (fun z a b => by rw [g1 12 (by decide)]; exact h12 z a b) (by omega) (by omega)
      (m1.ex (fun w => by
        rw [on_step u w h0]
        have r := oc_rng u on1 w x.toNat
        by_cases q : w = u x
        · rw [if_pos (c := w = u x) q, if_pos (c := u x = w) q.symm, if_pos (c := 0 < oc u on1 w x.toNat + 1) (by omega), q]; exact cb.1
        · rw [if_neg (c := w = u x) q, if_neg (c := u x = w) (fun e => q e.symm), Int.add_zero]))
    refine ⟨s2, ?_, g1.tr g2, m2⟩
    have o0 : ∀ (k : Int → Option (Int × St)), oif (band c 2 = 0) inferInstance 1 0 k = k (f0 u x) := fun k => by
      unfold f0
      by_cases q : oc u on1 (u x) x.toNat = 0
      · rw [if_pos q, oif_t (cb.2.1.2 q) (by omega)]
      · rw [if_neg q, oif_f (fun e => q (cb.2.1.1 e)) (by omega)]
    have o1 : ∀ (k : Int → Option (Int × St)), oif (c = 0) inferInstance 1 0 k = k (g0 u A x) := fun k => by
      unfold g0
      by_cases q : oc u on1 (u x) x.toNat = 0 ∧ A (u x) = 0
      · rw [if_pos q, oif_t (cb.2.2.2 q) (by omega)]
      · rw [if_neg q, oif_f (fun e => q (cb.2.2.1 e)) (by omega)]
    have r1 := f_rng u 0 x
    have r2 : 0 ≤ g0 u A x ∧ g0 u A x ≤ 1 := ind_rng _
    unfold E_own_L67
    rw [rd_eq (by omega), h25, if_pos (by omega), e1, bnd_eq, opure_eq, o0, oadd_eq (by omega), o1, oadd_eq (by omega), oadd_eq (by omega)]
    exact e2
def g1 (τ : St) (p z : Int) : Int := if oc (nm τ p) on1 (nm τ p z) z.toNat = 0 ∧ sm (hh τ (nm τ p z)) 6 = 1 then 1 else 0
theorem ownM_loop {K : Int → Int → Option (Int × St)} {τ : St} {p N : Int} (hp : 0 ≤ p ∧ p < 6) (hN9 : ∀ q, 0 ≤ q → q < 6 → 0 ≤ τ 3 q ∧ τ 3 q ≤ 255) (h3 : τ 3 p = N) : ∀ (r m : Nat) (a b x : Int), x + r = N → 0 ≤ x → r < m → a = sm (f0 (nm τ p)) x.toNat → b = sm (g1 τ p) x.toNat →
    M_own_L21 K τ p m a b x = K (sm (f0 (nm τ p)) N.toNat) (sm (g1 τ p) N.toNat) := by
  have hN := hN9 p hp.1 hp.2
  rw [h3] at hN
  intro r
  induction r with
  | zero =>
    intro m a b x h1 h0 h2 ha hb
    cases m with
    | zero => omega
    | succ m =>
    have e : x = N := by omega
    rw [e] at ha hb
    unfold M_own_L21
    rw [rd_eq (by omega), h3, if_neg (by omega), ha, hb]
  | succ r ih =>
    intro m a b x h1 h0 h2 ha hb
    cases m with
    | zero => omega
    | succ m =>
    have rc := oc_rng (nm τ p) on1 (nm τ p x) x.toNat
    have ra := sm_one (fun z => (f_rng (nm τ p) 0 z).1) x.toNat
    have rb : 0 ≤ sm (g1 τ p) x.toNat ∧ sm (g1 τ p) x.toNat ≤ x.toNat := sm_one (fun z => ind_rng _) x.toNat
    have sa := sm_step (f0 (nm τ p)) h0
    have sb := sm_step (g1 τ p) h0
    unfold M_own_L21
    rw [rd_eq (by omega), h3, if_pos (by omega), isFirst_eq hp (by omega), bndp_eq, jn_eq]
    by_cases q : oc (nm τ p) on1 (nm τ p x) x.toNat = 0
    · have e0 : f0 (nm τ p) x = 1 := if_pos q
      have pl := placesOf_eq (v := nm τ p x) hN9 (p := 0) (by omega)
      have z6 : sm (hh τ (nm τ p x)) (0 : Int).toNat = 0 := rfl
      rw [z6, show sm (hh τ (nm τ p x)) 6 - 0 = sm (hh τ (nm τ p x)) 6 by omega] at pl
      have o2 : ∀ (k : Int → Option (Int × St)), oif (sm (hh τ (nm τ p x)) 6 = 1) inferInstance 1 0 k = k (g1 τ p x) := fun k => by
        unfold g1
        by_cases q2 : sm (hh τ (nm τ p x)) 6 = 1
        · rw [if_pos ⟨q, q2⟩, oif_t q2 (by omega)]
        · rw [if_neg (c := oc (nm τ p) on1 (nm τ p x) x.toNat = 0 ∧ sm (hh τ (nm τ p x)) 6 = 1) (fun e => q2 e.2), oif_f q2 (by omega)]
      have r2 : 0 ≤ g1 τ p x ∧ g1 τ p x ≤ 1 := ind_rng _
      rw [if_pos q, if_neg (by decide), oadd_eq (by omega), node_eq hp (by omega), bndp_eq, pl, bndp_eq, o2, oadd_eq (by omega)]
      dsimp only
      rw [oadd_eq (by omega)]
      exact ih m _ _ (x + 1) (by omega) (by omega) (by omega) (by omega) (by omega)
    · have e0 : f0 (nm τ p) x = 0 := if_neg q
      have e2 : g1 τ p x = 0 := if_neg (fun e => q e.1)
      rw [if_neg q, if_pos rfl]
      dsimp only
      rw [oadd_eq (by omega)]
      exact ih m _ _ (x + 1) (by omega) (by omega) (by omega) (by omega) (by omega)
theorem in_own (u : Int → Int) {x N : Int} (h : 0 ≤ x ∧ x < N) : 0 < oc u on1 (u x) N.toNat := by
  have a := on_step u (u x) h.1
  rw [if_pos rfl] at a
  have b := oc_mono u on1 (u x) (a := (x + 1).toNat) (b := N.toNat) (by omega)
  have c := oc_rng u on1 (u x) x.toNat
  omega
theorem call_own : HS_46 SS := by
  intro k σ τ z0 hk hS i0
  have hS0 := hS
  obtain ⟨⟨ρ, hW⟩, hT, hr, hn, hm⟩ := hS
  by_cases a : 0 ≤ z0 ∧ z0 < 6
  · obtain ⟨s1, e1, g1', m1⟩ := forget_ex hW.1 hn (by omega)
    obtain ⟨K1, hK1⟩ : ∃ K1 : St → Int → Int → Option (Int × St), K1 = fun (s10 : St) (x11 : Int) (x12 : Int) => bnd (Row_tell s10 x12) fun _ s15 => some (x11, s15) := ⟨_, rfl⟩
    obtain ⟨K0, hK0⟩ : ∃ K0 : St → Option (Int × St), K0 = fun (s4 : St) => rd s4 24 6 z0 fun v6 => rd s4 25 6 z0 fun v7 => bnd (Pool_spread s4 v6 v7) fun _ s9 => jn K1 fun k13 => E_own_L67 k13 z0 FU s9 0 0 0 := ⟨_, rfl⟩
    obtain ⟨K2, hK2⟩ : ∃ K2 : Int → Int → Option (Int × St), K2 = fun (x3 : Int) (x4 : Int) => pf (us τ 33 0 0) 32 0 fun s6 => bnd (M_tell s6 x4) fun _ s8 => some (x3, s8) := ⟨_, rfl⟩
    obtain ⟨s4, e4, g4, m4⟩ := ownAll_loop (K := K0) hW (p := z0) (B := 256 * ((k : Int) + 1)) (by omega) 6 FU s1 0 (by omega) (by omega) (by unfold FU; omega) (g1'.mono (by decide)) (m1.ex (fun w => by
      have e : sm (ho τ z0 w) (0 : Int).toNat = 0 := rfl
      rw [e, if_neg (by omega)]))
    have g14 : Fr [11, 12, 33] σ s4 := (g1'.mono (by decide)).tr (g4.mono (by decide))
    obtain ⟨s2, e2, g2, n0, t3, h25, c2, c3⟩ := row_slots hW a g14
    obtain ⟨s3, e3, g3, m3⟩ := ownE_loop (K := K1) hW.1 (sl0 := fun z => sl σ (σ 24 z0) z) (u := nm τ z0) (A := fun w => if 0 < sm (ho τ z0 w) 6 then 1 else 0) a n0 (B := 256 * ((k : Int) + 1)) (by omega) (fun w => by have := ind_rng (0 < sm (ho τ z0 w) 6); omega) c3 (σ 25 z0).toNat FU s2 0 0 0 (by omega) (by omega) (by unfold FU; omega) (by rw [g2 25 (by decide)]; exact h25) c2 rfl rfl ((m4.fr g2 (by decide)).ex (fun w => by
      have e : oc (nm τ z0) on1 w (0 : Int).toNat = 0 := rfl
      rw [e, if_neg (c := (0 : Int) < 0) (by omega), Int.add_zero]))
    have nmu : ∀ q, nm (us τ 33 0 0) q = nm τ q := fun q => by unfold nm; rw [us_f (by decide)]
    have t3' : us τ 33 0 0 3 z0 = σ 25 z0 := by rw [us_ne (by decide)]; exact t3
    have hhu : ∀ v, hh (us τ 33 0 0) v = hh τ v := fun v => by funext q; unfold hh; rw [nmu, us_ne (by decide)]
    have hN9 : ∀ q, 0 ≤ q → q < 6 → 0 ≤ us τ 33 0 0 3 q ∧ us τ 33 0 0 3 q ≤ 255 := fun q q0 q1 => by
      have := hW.2.2 q q0 q1
      rw [us_ne (by decide), this.2.1]; exact this.1
    have e5 := ownM_loop (K := K2) (τ := us τ 33 0 0) a hN9 t3' (σ 25 z0).toNat FU 0 0 0 (by omega) (by omega) (by unfold FU; omega) rfl rfl
    rw [nmu] at e5
    have eg : sm (g1 (us τ 33 0 0) z0) (σ 25 z0).toNat = sm (g0 (nm τ z0) (fun w => if 0 < sm (ho τ z0 w) 6 then 1 else 0)) (σ 25 z0).toNat := sm_ext _ (fun x x0 xn => by
      have i1 := in_own (nm τ z0) (x := x) (N := σ 25 z0) (by omega)
      have i2 : hh τ (nm τ z0 x) z0 = 1 := by unfold hh; rw [t3, if_pos i1]
      have i3 := ho_sum τ z0 (nm τ z0 x) a.1 6
      have i4 := sm_one (fun q => ho_rng τ z0 (nm τ z0 x) q) 6
      rw [if_pos (by omega), i2] at i3
      unfold g1 g0
      rw [nmu, hhu, i3]
      have i5 : (fun w => if 0 < sm (ho τ z0 w) 6 then (1 : Int) else 0) (nm τ z0 x) = if 0 < sm (ho τ z0 (nm τ z0 x)) 6 then 1 else 0 := rfl
      rw [i5]
      by_cases i6 : 0 < sm (ho τ z0 (nm τ z0 x)) 6
      · rw [if_pos (c := 0 < sm (ho τ z0 (nm τ z0 x)) 6) i6]
        repeat' split
        all_goals omega
      rw [if_neg (c := 0 < sm (ho τ z0 (nm τ z0 x)) 6) i6]
      repeat' split
      all_goals omega)
    rw [eg] at e5
    have rb : 0 ≤ sm (g0 (nm τ z0) (fun w => if 0 < sm (ho τ z0 w) 6 then 1 else 0)) (σ 25 z0).toNat ∧ sm (g0 (nm τ z0) (fun w => if 0 < sm (ho τ z0 w) 6 then 1 else 0)) (σ 25 z0).toNat ≤ (σ 25 z0).toNat := sm_one (fun z => ind_rng _) _
    obtain ⟨σ1, τ1, t1, t2, t5, t6, t7, -⟩ := tells1 s3 (us τ 33 0 0) (a := sm (g0 (nm τ z0) (fun w => if 0 < sm (ho τ z0 w) 6 then 1 else 0)) (σ 25 z0).toNat) (by omega)
    refine ⟨sm (f0 (nm τ z0)) (σ 25 z0).toNat, σ1, τ1, ?_, ?_, hS0.see ((g14.mono (by decide)).tr ((g2.mono (by decide)).tr (g3.mono (by decide)))) m3 t6 (((fr_sc [33] τ 33 0 (by decide)).mono (by decide)).tr (t7.mono (by decide))) ((Rws.fr (fr_sc [33] _ _ _ (by decide)) (by decide) (by decide) (by decide) _).tr (Rws.fr t7 (by decide) (by decide) (by decide) _)) t5⟩
    · unfold E_own
      rw [E_isPlace_y a, bndp_eq, if_neg (by decide), e1, bnd_eq, ← hK1, ← hK0, jn_eq]
      refine e4.trans ?_
      rw [hK0]
      show (rd s4 24 6 z0 fun v6 => _) = _
      rw [rd_eq (by omega), rd_eq (by omega), e2, bnd_eq, jn_eq]
      refine e3.trans ?_
      rw [hK1]
      simp (disch := omega) only [↓jn_e, ↓ite_y, ↓ite_n, ↓oadd_eq, ↓osub_eq, ↓omul_eq, ↓odiv_eq, ↓orem_eq, ↓rd_eq, ↓wr_eq, ↓gf_e, ↓pf_e, ↓bnd_e, ↓bndp_e, ↓opure_e, ↓oif_t, ↓oif_f, ↓E_isPlace_y, ↓E_isPlace_n, ↓E_isNumber_y, ↓E_isNumber_n, ↓M_isPlace_y, ↓M_isPlace_n, ↓M_isNumber_y, ↓M_isNumber_n, ↓M_in_y, ↓M_in_n, ↓us_ne, ↓t1]
    · unfold M_own
      rw [pf_eq, M_isPlace_y a, bndp_eq, if_neg (by decide), ← hK2, jn_eq]
      refine e5.trans ?_
      rw [hK2]
      simp (disch := omega) only [↓jn_e, ↓ite_y, ↓ite_n, ↓oadd_eq, ↓osub_eq, ↓omul_eq, ↓odiv_eq, ↓orem_eq, ↓rd_eq, ↓wr_eq, ↓gf_e, ↓pf_e, ↓bnd_e, ↓bndp_e, ↓opure_e, ↓oif_t, ↓oif_f, ↓E_isPlace_y, ↓E_isPlace_n, ↓E_isNumber_y, ↓E_isNumber_n, ↓M_isPlace_y, ↓M_isPlace_n, ↓M_isNumber_y, ↓M_isNumber_n, ↓M_in_y, ↓M_in_n, ↓us_ne, ↓t2]
  · refine ⟨-1, σ, us τ 33 0 0, ?_, ?_, hS0.thr⟩
    · unfold E_own
      simp (disch := omega) only [↓jn_e, ↓ite_y, ↓ite_n, ↓oadd_eq, ↓osub_eq, ↓omul_eq, ↓odiv_eq, ↓orem_eq, ↓rd_eq, ↓wr_eq, ↓gf_e, ↓pf_e, ↓bnd_e, ↓bndp_e, ↓opure_e, ↓oif_t, ↓oif_f, ↓E_isPlace_y, ↓E_isPlace_n, ↓E_isNumber_y, ↓E_isNumber_n, ↓M_isPlace_y, ↓M_isPlace_n, ↓M_isNumber_y, ↓M_isNumber_n, ↓M_in_y, ↓M_in_n, ↓us_ne]
    · unfold M_own
      simp (disch := omega) only [↓jn_e, ↓ite_y, ↓ite_n, ↓oadd_eq, ↓osub_eq, ↓omul_eq, ↓odiv_eq, ↓orem_eq, ↓rd_eq, ↓wr_eq, ↓gf_e, ↓pf_e, ↓bnd_e, ↓bndp_e, ↓opure_e, ↓oif_t, ↓oif_f, ↓E_isPlace_y, ↓E_isPlace_n, ↓E_isNumber_y, ↓E_isNumber_n, ↓M_isPlace_y, ↓M_isPlace_n, ↓M_isNumber_y, ↓M_isNumber_n, ↓M_in_y, ↓M_in_n, ↓us_ne]

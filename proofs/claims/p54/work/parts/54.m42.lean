-- MATH 42: asks: same
theorem SE_pre {K1 K2 : Int → Option (Int × St)} {i j m : Int} (hi : 0 ≤ i ∧ i < 6) (hj : 0 ≤ j ∧ j < 6) (hm : 0 ≤ m ∧ m ≤ 255) {s τ : St} (hu : ∀ x, 0 ≤ x → x < m → s 26 x = τ 1 (256 * i + x)) (hv : ∀ x, 0 ≤ x → x < m → s 27 x = τ 1 (256 * j + x)) : ∀ (r m1 m2 : Nat) (x : Int), x + r = m → 0 ≤ x → r < m1 → r < m2 →
    ∃ x2, E_same_L41 K1 s m m1 x = K1 x2 ∧ M_same_L40 K2 τ i j m m2 x = K2 x2 ∧ 0 ≤ x2 ∧ x2 ≤ m := by
  intro r
  induction r with
  | zero =>
    intro m1 m2 x h1 h0 h2 h3
    cases m1 with
    | zero => omega
    | succ m1 =>
    cases m2 with
    | zero => omega
    | succ m2 =>
    refine ⟨x, ?_, ?_, h0, by omega⟩
    · unfold E_same_L41
      rw [if_neg (by omega)]
    · unfold M_same_L40
      rw [if_neg (by omega)]
  | succ r ih =>
    intro m1 m2 x h1 h0 h2 h3
    cases m1 with
    | zero => omega
    | succ m1 =>
    cases m2 with
    | zero => omega
    | succ m2 =>
    have a1 := hu x h0 (by omega)
    have a2 := hv x h0 (by omega)
    have n1 : M_number τ i x = some (τ 1 (256 * i + x)) := M_number_eq (by omega) (by omega)
    have n2 : M_number τ j x = some (τ 1 (256 * j + x)) := M_number_eq (by omega) (by omega)
    by_cases q : τ 1 (256 * i + x) = τ 1 (256 * j + x)
    · obtain ⟨x2, y1, y2, y3⟩ := ih m1 m2 (x + 1) (by omega) (by omega) (by omega) (by omega)
      refine ⟨x2, ?_, ?_, y3⟩
      · unfold E_same_L41
        rw [if_pos (by omega), rd_eq (by omega), rd_eq (by omega), a1, a2, if_pos q, oadd_eq (by omega)]
        exact y1
      · unfold M_same_L40
        rw [if_pos (by omega), n1, bndp_eq, n2, bndp_eq, if_pos q, oadd_eq (by omega)]
        exact y2
    · refine ⟨x, ?_, ?_, h0, by omega⟩
      · unfold E_same_L41
        rw [if_pos (by omega), rd_eq (by omega), rd_eq (by omega), a1, a2, if_neg q]
      · unfold M_same_L40
        rw [if_pos (by omega), n1, bndp_eq, n2, bndp_eq, if_neg q]
def h0 (u A : Int → Int) (z : Int) : Int := if oc u on1 (u z) z.toNat = 0 ∧ A (u z) = 1 then 1 else 0
theorem bothE_loop {ρ : Int → Int → Prop} {σ τ : St} (hBi : Bi ρ σ τ) {B p N : Int} {sl0 u A : Int → Int} (hp : 0 ≤ p ∧ p < 6) (hN : 0 ≤ N ∧ N ≤ 255) (hB : B ≤ 2000000) (h01 : ∀ w, A w = 0 ∨ A w = 1) (hr : ∀ x, 0 ≤ x → x < N → ρ (sl0 x) (u x)) : ∀ (r m : Nat) (s : St) (b x : Int), x + r = N → 0 ≤ x → r < m → s 25 p = N → (∀ z, 0 ≤ z → z < N → s 12 z = sl0 z) → b = sm (h0 u A) x.toNat → Mq ρ s B (fun w => A w + if 0 < oc u on1 w x.toNat then 2 else 0) →
    ∃ s', E_nodesInBoth_L37 p m s b x = some (sm (h0 u A) N.toNat, s') ∧ Fr [11] s s' ∧ Mq ρ s' B (fun w => A w + if 0 < oc u on1 w N.toNat then 2 else 0) := by
  intro r
  induction r with
  | zero =>
    intro m s b x h1 h0' h2 h25 h12 hb hM
    cases m with
    | zero => omega
    | succ m =>
    have e : x = N := by omega
    rw [e] at hb hM
    refine ⟨s, ?_, Fr.rf _ _, hM⟩
    unfold E_nodesInBoth_L37
    rw [rd_eq (by omega), h25, if_neg (by omega), hb]
  | succ r ih =>
    intro m s b x h1 h0' h2 h25 h12 hb hM
    cases m with
    | zero => omega
    | succ m =>
    have rc := oc_rng u on1 (u x) x.toNat
    have rb' : 0 ≤ sm (h0 u A) x.toNat ∧ sm (h0 u A) x.toNat ≤ x.toNat := sm_one (fun z => ind_rng _) x.toNat
    have sb := sm_step (h0 u A) h0'
    obtain ⟨c, hc⟩ : ∃ c, c = A (u x) + if 0 < oc u on1 (u x) x.toNat then 2 else 0 := ⟨_, rfl⟩
    have cc : (c = 0 ∧ A (u x) = 0 ∧ oc u on1 (u x) x.toNat = 0) ∨ (c = 1 ∧ A (u x) = 1 ∧ oc u on1 (u x) x.toNat = 0) ∨ (c = 2 ∧ A (u x) = 0 ∧ 0 < oc u on1 (u x) x.toNat) ∨ (c = 3 ∧ A (u x) = 1 ∧ 0 < oc u on1 (u x) x.toNat) := by
      have := h01 (u x)
      by_cases q : 0 < oc u on1 (u x) x.toNat
      · rw [if_pos q] at hc; omega
      · rw [if_neg q] at hc; omega
    have cb : bor c 2 = A (u x) + 2 ∧ (c = 1 ↔ (oc u on1 (u x) x.toNat = 0 ∧ A (u x) = 1)) := by
      have b2 := bits2
      rcases cc with e | e | e | e
      · rw [e.1]; omega
      · rw [e.1]; omega
      · rw [e.1]; omega
      · rw [e.1]; omega
    have hbr : 0 ≤ bor c 2 ∧ bor c 2 ≤ 255 := by have := h01 (u x); omega
    rw [hc] at hbr
    obtain ⟨s1, e1, g1, m1⟩ := see_ex hBi hM hB (x := x) (by omega) (h12 x h0' (by omega)) (hr x h0' (by omega)) (b := 2) hbr
    rw [← hc] at e1 m1
    obtain ⟨s2, e2, g2, m2⟩ := ih m s1 (b + h0 u A x) (x + 1) (by omega) (by omega) (by omega) (by rw [g1 25 (by decide)]; exact h25) (fun z a b => by rw [g1 12 (by decide)]; exact h12 z a b) (by omega)
      (m1.ex (fun w => by
        rw [on_step u w h0']
        have r := oc_rng u on1 w x.toNat
        by_cases q : w = u x
        · rw [if_pos (c := w = u x) q, if_pos (c := u x = w) q.symm, if_pos (c := 0 < oc u on1 w x.toNat + 1) (by omega), q]; exact cb.1
        · rw [if_neg (c := w = u x) q, if_neg (c := u x = w) (fun e => q e.symm), Int.add_zero]))
    refine ⟨s2, ?_, g1.tr g2, m2⟩
    have o1 : ∀ (k : Int → Option (Int × St)), oif (c = 1) inferInstance 1 0 k = k (h0 u A x) := fun k => by
      unfold h0
      by_cases q : oc u on1 (u x) x.toNat = 0 ∧ A (u x) = 1
      · rw [if_pos q, oif_t (cb.2.2 q) (by omega)]
      · rw [if_neg q, oif_f (fun e => q (cb.2.1 e)) (by omega)]
    have r2 : 0 ≤ h0 u A x ∧ h0 u A x ≤ 1 := ind_rng _
    unfold E_nodesInBoth_L37
    rw [rd_eq (by omega), h25, if_pos (by omega), e1, bnd_eq, o1, oadd_eq (by omega), oadd_eq (by omega)]
    exact e2
def h1 (f g : Int → Int) (m : Nat) (x : Int) : Int := if oc f on1 (f x) x.toNat = 0 ∧ 0 < oc g on1 (f x) m then 1 else 0
theorem bothM_loop {K : Int → Option (Int × St)} {τ : St} {p q N M9 : Int} (hp : 0 ≤ p ∧ p < 6) (hq : 0 ≤ q ∧ q < 6) (hN : 0 ≤ N ∧ N ≤ 255) (hM : 0 ≤ M9 ∧ M9 ≤ 255) (h3 : τ 3 p = N) (h4 : τ 3 q = M9) : ∀ (r m : Nat) (b x : Int), x + r = N → 0 ≤ x → r < m → b = sm (h1 (nm τ p) (nm τ q) M9.toNat) x.toNat →
    M_same_L104 K τ p q m b x = K (sm (h1 (nm τ p) (nm τ q) M9.toNat) N.toNat) := by
  intro r
  induction r with
  | zero =>
    intro m b x h1' h0' h2 hb
    cases m with
    | zero => omega
    | succ m =>
    have e : x = N := by omega
    rw [e] at hb
    unfold M_same_L104
    rw [rd_eq (by omega), h3, if_neg (by omega), hb]
  | succ r ih =>
    intro m b x h1' h0' h2 hb
    cases m with
    | zero => omega
    | succ m =>
    have rb : 0 ≤ sm (h1 (nm τ p) (nm τ q) M9.toNat) x.toNat ∧ sm (h1 (nm τ p) (nm τ q) M9.toNat) x.toNat ≤ x.toNat := sm_one (fun z => ind_rng _) x.toNat
    have sb := sm_step (h1 (nm τ p) (nm τ q) M9.toNat) h0'
    have go : ∀ c, c = h1 (nm τ p) (nm τ q) M9.toNat x → (0 ≤ c ∧ c ≤ 1) → (oadd b c fun v29 => oadd x 1 fun v30 => M_same_L104 K τ p q m v29 v30) = K (sm (h1 (nm τ p) (nm τ q) M9.toNat) N.toNat) := fun c hc c01 => by
      rw [oadd_eq (by omega), oadd_eq (by omega)]
      exact ih m _ (x + 1) (by omega) (by omega) (by omega) (by omega)
    unfold M_same_L104
    rw [rd_eq (by omega), h3, if_pos (by omega), isFirst_eq hp (by omega), bndp_eq, jn_eq, jn_eq]
    by_cases a : oc (nm τ p) on1 (nm τ p x) x.toNat = 0
    · rw [if_pos a, if_neg (by decide), node_eq hp (by omega), bndp_eq, rd_eq (by omega), h4, hasNode_eq hq hM, bndp_eq]
      by_cases b2 : 0 < oc (nm τ q) on1 (nm τ p x) M9.toNat
      · rw [if_pos b2, if_neg (by decide)]
        exact go 1 (if_pos ⟨a, b2⟩).symm (by omega)
      · rw [if_neg b2, if_pos rfl]
        exact go 0 (if_neg (fun e => b2 e.2)).symm (by omega)
    · rw [if_neg a, if_pos rfl]
      exact go 0 (if_neg (fun e => a e.1)).symm (by omega)
theorem call_same : HS_37 SS := by
  intro k σ τ z0 z1 hk hS i0 i1
  have hS0 := hS
  obtain ⟨⟨ρ, hW⟩, hT, hr, hn, hm⟩ := hS
  by_cases a : 0 ≤ z0 ∧ z0 < 6
  · have hP := hW.2.2 z0 a.1 a.2
    have s0 := hP.2.1
    have n0 := hP.1
    by_cases b : 0 ≤ z1 ∧ z1 < 6
    · have hQ := hW.2.2 z1 b.1 b.2
      have s1 := hQ.2.1
      have n1 := hQ.1
      obtain ⟨sa, e5, f5, c5, d5⟩ := readBoth_ex (σ := σ) a b n0 n1
      have a25 : sa 25 = σ 25 := f5 25 (by decide)
      have hna : Sn k sa := by
        unfold Sn at *
        rw [f5 11 (by decide), f5 33 (by decide)]; exact hn
      have hWa : Wd ρ sa τ := hW.mv f5 (by decide) (Rws.rf [6, 7, 8, 9] τ) (by decide) rfl
      -- the nodes in both
      obtain ⟨sb, e6, f6, m6⟩ := forget_ex hWa.1 hna (by omega)
      obtain ⟨sc, e7, f7, m7⟩ := seeAll_ex hWa a (f6.mono (by decide)) m6 (by omega) (fun w => Or.inl rfl)
      have f67 : Fr [11, 12, 33] sa sc := (f6.mono (by decide)).tr (f7.mono (by decide))
      obtain ⟨sd, e8, f8, n8, t8, h25, c8, r8⟩ := row_slots hWa b f67
      obtain ⟨se, e9, f9, m9⟩ := bothE_loop hWa.1 (sl0 := fun z => sl sa (sa 24 z1) z) (u := nm τ z1) (A := fun w => if 0 < oc (nm τ z0) on1 w (sa 25 z0).toNat then 1 else 0) b n8 (B := 256 * ((k : Int) + 1)) (by omega) (fun w => by have := ind_rng (0 < oc (nm τ z0) on1 w (sa 25 z0).toNat); omega) r8 (sa 25 z1).toNat FU sd 0 0 (by omega) (by omega) (by unfold FU; omega) (by rw [f8 25 (by decide)]; exact h25) c8 rfl ((m7.fr f8 (by decide)).ex (fun w => by
        have e : oc (nm τ z1) on1 w (0 : Int).toNat = 0 := rfl
        rw [e, if_neg (c := (0 : Int) < 0) (by omega), Int.add_zero]))
      rw [a25] at e9
      obtain ⟨cnt, hcnt⟩ : ∃ c, c = sm (h1 (nm τ z0) (nm τ z1) (σ 25 z1).toNat) (σ 25 z0).toNat := ⟨_, rfl⟩
      have ec : sm (h0 (nm τ z1) (fun w => if 0 < oc (nm τ z0) on1 w (σ 25 z0).toNat then 1 else 0)) (σ 25 z1).toNat = cnt := by
        rw [hcnt]
        refine Eq.trans (sm_ext _ (fun y y0 yn => ?_)) (oc_both (nm τ z0) (nm τ z1) (σ 25 z1).toNat (σ 25 z0).toNat)
        unfold h0
        have i5 : (fun w => if 0 < oc (nm τ z0) on1 w (σ 25 z0).toNat then (1 : Int) else 0) (nm τ z1 y) = if 0 < oc (nm τ z0) on1 (nm τ z1 y) (σ 25 z0).toNat then 1 else 0 := rfl
        rw [i5]
        by_cases i6 : 0 < oc (nm τ z0) on1 (nm τ z1 y) (σ 25 z0).toNat
        · rw [if_pos (c := 0 < oc (nm τ z0) on1 (nm τ z1 y) (σ 25 z0).toNat) i6]
          repeat' split
          all_goals omega
        · rw [if_neg (c := 0 < oc (nm τ z0) on1 (nm τ z1 y) (σ 25 z0).toNat) i6]
          repeat' split
          all_goals omega
      rw [ec] at e9
      have eB : E_nodesInBoth sa z0 z1 = some (cnt, se) := by
        unfold E_nodesInBoth
        rw [e6, bnd_eq, e7, bnd_eq, rd_eq (by omega), rd_eq (by omega), e8, bnd_eq]
        exact e9
      have cr : 0 ≤ cnt ∧ cnt ≤ 255 := by
        have : 0 ≤ sm (h1 (nm τ z0) (nm τ z1) (σ 25 z1).toNat) (σ 25 z0).toNat ∧ sm (h1 (nm τ z0) (nm τ z1) (σ 25 z1).toNat) (σ 25 z0).toNat ≤ (σ 25 z0).toNat := sm_one (fun z => ind_rng _) _
        omega
      have im := imin_le (σ 25 z0) (σ 25 z1)
      obtain ⟨K1, hK1⟩ : ∃ K1 : Int → Option (Int × St), K1 = fun (x8 : Int) => rd sa 25 6 z0 fun v10 => jn (fun (x11 : Int) => jn (fun (x13 : Int) => bnd (E_nodesInBoth sa z0 z1) fun v15 s16 => bnd (Row_tell1 s16 x13 v15) fun _ s18 => oif (x11 = 0) inferInstance 0 1 fun v19 => some (v19, s18)) fun k14 => if x11 = 0 then (k14 x8) else (k14 (-1))) fun k12 => jn (k12 0) fun k20 => if x8 = v10 then (rd sa 25 6 z1 fun v21 => if x8 = v21 then (k12 1) else (k20)) else (k20) := ⟨_, rfl⟩
      obtain ⟨K2, hK2⟩ : ∃ K2 : Int → Option (Int × St), K2 = fun (x7 : Int) => rd (us τ 33 0 0) 3 10 z0 fun v9 => jn (fun (x10 : Int) => jn (fun (x12 : Int) => pf (us τ 33 0 0) 32 0 fun s14 => jn (fun (x15 : Int) => bnd (M_tell s14 x15) fun _ s18 => bnd (M_tell s18 x12) fun _ s20 => oif (x10 = 0) inferInstance 0 1 fun v21 => some (v21, s20)) fun k16 => if x10 = 0 then (k16 x7) else (k16 (-1))) fun k13 => M_same_L104 k13 (us τ 33 0 0) z0 z1 FU 0 0) fun k11 => jn (k11 0) fun k35 => if x7 = v9 then (rd (us τ 33 0 0) 3 10 z1 fun v36 => if x7 = v36 then (k11 1) else (k35)) else (k35) := ⟨_, rfl⟩
      obtain ⟨x, y1, y2, y3, y4⟩ := SE_pre (K1 := K1) (K2 := K2) (s := sa) (τ := us τ 33 0 0) (m := imin (σ 25 z0) (σ 25 z1)) a b (by omega) (fun x w1 w2 => by rw [c5 x w1 (by omega), us_ne (by decide)]; exact (hP.num ⟨w1, by omega⟩).1) (fun x w1 w2 => by rw [d5 x w1 (by omega), us_ne (by decide)]; exact (hQ.num ⟨w1, by omega⟩).1) (imin (σ 25 z0) (σ 25 z1)).toNat FU FU 0 (by omega) (by omega) (by unfold FU; omega) (by unfold FU; omega)
      have nmu : ∀ q, nm (us τ 33 0 0) q = nm τ q := fun q => by unfold nm; rw [us_f (by decide)]
      have t0 : us τ 33 0 0 3 z0 = σ 25 z0 := by rw [us_ne (by decide)]; exact s0
      have t1' : us τ 33 0 0 3 z1 = σ 25 z1 := by rw [us_ne (by decide)]; exact s1
      have eM : ∀ (K : Int → Option (Int × St)), M_same_L104 K (us τ 33 0 0) z0 z1 FU 0 0 = K cnt := fun K => by
        have := bothM_loop (K := K) (τ := us τ 33 0 0) a b n0 n1 t0 t1' (σ 25 z0).toNat FU 0 0 (by omega) (by omega) (by unfold FU; omega) rfl
        rw [nmu, nmu, ← hcnt] at this
        exact this
      have fin : ∀ (w g : Int), ((w = 0 ∧ g = x) ∨ (w = 1 ∧ g = -1)) → ∃ σ1 τ1 τ2, Row_tell1 se g cnt = some (0, σ1) ∧ M_tell (us (us τ 33 0 0) 32 0 0) g = some (0, τ1) ∧ M_tell τ1 cnt = some (0, τ2) ∧ SS (k + 1) σ1 τ2 := fun w g hg => by
        obtain ⟨σ1, τ1, τ2, t1, t2, t4, t5, t6, t7, t9, -⟩ := tells2 se (us τ 33 0 0) (a := g) (b := cnt) (by omega) (by omega)
        exact ⟨σ1, τ1, τ2, t1, t2, t4, hS0.see ((f5.mono (by decide)).tr ((f67.mono (by decide)).tr ((f8.mono (by decide)).tr (f9.mono (by decide))))) m9 t6 (((fr_sc [33] τ 33 0 (by decide)).mono (by decide)).tr (t9.mono (by decide))) ((Rws.fr (fr_sc [33] _ _ _ (by decide)) (by decide) (by decide) (by decide) _).tr (Rws.fr t9 (by decide) (by decide) (by decide) _)) t5⟩
      have pE : E_same σ z0 z1 = K1 x := by
        unfold E_same
        rw [E_isPlace_y a, bndp_eq, if_neg (by decide), E_isPlace_y b, bndp_eq, if_neg (by decide), e5, bnd_eq, rd_eq (by omega), rd_eq (by omega), a25, opure_eq, ← hK1, jn_eq]
        exact y1
      have pM : M_same τ z0 z1 = K2 x := by
        unfold M_same
        rw [pf_eq, M_isPlace_y a, bndp_eq, if_neg (by decide), M_isPlace_y b, bndp_eq, if_neg (by decide), rd_eq (by omega), rd_eq (by omega), t0, t1', opure_eq, ← hK2, jn_eq]
        exact y2
      rw [pE, pM, hK1, hK2]
      dsimp only
      rw [rd_eq (by omega), rd_eq (by omega), a25, t0, jn_eq, jn_eq, jn_eq, jn_eq]
      by_cases q1 : x = σ 25 z0
      · by_cases q2 : x = σ 25 z1
        · obtain ⟨σ1, τ2, τ3, g1, g2, g3, g4⟩ := fin 1 (-1) (Or.inr ⟨rfl, rfl⟩)
          refine ⟨1, σ1, τ3, ?_, ?_, g4⟩
          · rw [if_pos q1, rd_eq (by omega), a25, if_pos q2]; dsimp only; rw [jn_eq, if_neg (by decide)]; try dsimp only
            rw [eB, bnd_eq, g1, bnd_eq, oif_f (by decide) (by decide)]
          · rw [if_pos q1, rd_eq (by omega), t1', if_pos q2]; dsimp only; rw [jn_eq, eM]; try dsimp only
            rw [pf_eq, jn_eq, if_neg (by decide)]; try dsimp only
            rw [g2, bnd_eq, g3, bnd_eq, oif_f (by decide) (by decide)]
        · obtain ⟨σ1, τ2, τ3, g1, g2, g3, g4⟩ := fin 0 x (Or.inl ⟨rfl, rfl⟩)
          refine ⟨0, σ1, τ3, ?_, ?_, g4⟩
          · rw [if_pos q1, rd_eq (by omega), a25, if_neg q2]; dsimp only; rw [jn_eq, if_pos rfl]; try dsimp only
            rw [eB, bnd_eq, g1, bnd_eq, oif_t rfl (by decide)]
          · rw [if_pos q1, rd_eq (by omega), t1', if_neg q2]; dsimp only; rw [jn_eq, eM]; try dsimp only
            rw [pf_eq, jn_eq, if_pos rfl]; try dsimp only
            rw [g2, bnd_eq, g3, bnd_eq, oif_t rfl (by decide)]
      · obtain ⟨σ1, τ2, τ3, g1, g2, g3, g4⟩ := fin 0 x (Or.inl ⟨rfl, rfl⟩)
        refine ⟨0, σ1, τ3, ?_, ?_, g4⟩
        · rw [if_neg q1]; dsimp only; rw [jn_eq, if_pos rfl]; try dsimp only
          rw [eB, bnd_eq, g1, bnd_eq, oif_t rfl (by decide)]
        · rw [if_neg q1]; dsimp only; rw [jn_eq, eM]; try dsimp only
          rw [pf_eq, jn_eq, if_pos rfl]; try dsimp only
          rw [g2, bnd_eq, g3, bnd_eq, oif_t rfl (by decide)]
    · refine ⟨-1, σ, us τ 33 0 0, ?_, ?_, hS0.thr⟩
      · unfold E_same
        simp (disch := omega) only [↓jn_e, ↓ite_y, ↓ite_n, ↓oadd_eq, ↓osub_eq, ↓omul_eq, ↓odiv_eq, ↓orem_eq, ↓rd_eq, ↓wr_eq, ↓gf_e, ↓pf_e, ↓bnd_e, ↓bndp_e, ↓opure_e, ↓oif_t, ↓oif_f, ↓E_isPlace_y, ↓E_isPlace_n, ↓E_isNumber_y, ↓E_isNumber_n, ↓M_isPlace_y, ↓M_isPlace_n, ↓M_isNumber_y, ↓M_isNumber_n, ↓M_in_y, ↓M_in_n, ↓us_ne]
      · unfold M_same
        simp (disch := omega) only [↓jn_e, ↓ite_y, ↓ite_n, ↓oadd_eq, ↓osub_eq, ↓omul_eq, ↓odiv_eq, ↓orem_eq, ↓rd_eq, ↓wr_eq, ↓gf_e, ↓pf_e, ↓bnd_e, ↓bndp_e, ↓opure_e, ↓oif_t, ↓oif_f, ↓E_isPlace_y, ↓E_isPlace_n, ↓E_isNumber_y, ↓E_isNumber_n, ↓M_isPlace_y, ↓M_isPlace_n, ↓M_isNumber_y, ↓M_isNumber_n, ↓M_in_y, ↓M_in_n, ↓us_ne]
  · refine ⟨-1, σ, us τ 33 0 0, ?_, ?_, hS0.thr⟩
    · unfold E_same
      simp (disch := omega) only [↓jn_e, ↓ite_y, ↓ite_n, ↓oadd_eq, ↓osub_eq, ↓omul_eq, ↓odiv_eq, ↓orem_eq, ↓rd_eq, ↓wr_eq, ↓gf_e, ↓pf_e, ↓bnd_e, ↓bndp_e, ↓opure_e, ↓oif_t, ↓oif_f, ↓E_isPlace_y, ↓E_isPlace_n, ↓E_isNumber_y, ↓E_isNumber_n, ↓M_isPlace_y, ↓M_isPlace_n, ↓M_isNumber_y, ↓M_isNumber_n, ↓M_in_y, ↓M_in_n, ↓us_ne]
    · unfold M_same
      simp (disch := omega) only [↓jn_e, ↓ite_y, ↓ite_n, ↓oadd_eq, ↓osub_eq, ↓omul_eq, ↓odiv_eq, ↓orem_eq, ↓rd_eq, ↓wr_eq, ↓gf_e, ↓pf_e, ↓bnd_e, ↓bndp_e, ↓opure_e, ↓oif_t, ↓oif_f, ↓E_isPlace_y, ↓E_isPlace_n, ↓E_isNumber_y, ↓E_isNumber_n, ↓M_isPlace_y, ↓M_isPlace_n, ↓M_isNumber_y, ↓M_isNumber_n, ↓M_in_y, ↓M_in_n, ↓us_ne]

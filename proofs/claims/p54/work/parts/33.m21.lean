-- MATH 21: LAST TAKEN of E; BACK, LAST of the reference; the steps
theorem lastGone_ex : ∀ (d : Nat) (σ : St) (t n : Int), n < p2 d → 1 ≤ n → n ≤ 255 → TW σ t n → Alloc σ → ∀ f, d < f → (d : Int) + 1 ≤ σ 31 0 → (0 ≤ σ 32 0 ∧ σ 32 0 + d + 1 ≤ 2147483000) →
    ∃ y σ', Pool_lastGone f σ t n = some (y, σ') ∧ TW σ' y (n - 1) ∧ Alloc σ' ∧ Ext σ σ' ∧ Fr [7, 8, 9, 30, 31, 32] σ σ' ∧ σ' 32 0 = σ 32 0 + (dp (n - 1) : Int) ∧ σ' 31 0 + σ' 32 0 = σ 31 0 + σ 32 0 ∧ (dp (n - 1) ≤ d) ∧ EN (onW (n - 1)) σ σ' y (n - 1) ∧
      (∀ x, 0 ≤ x → x < n - 1 → ¬ onW (n - 1) x → sl σ' y x = sl σ t x) ∧ (∀ x, 0 ≤ x → x < n - 1 → nu σ' (sl σ' y x) = nu σ (sl σ t x)) := by
  intro d
  induction d with
  | zero =>
    intro σ t n hp h0 h1 hT hA f hf hfr hm
    unfold p2 at hp
    omega
  | succ d ih =>
    intro σ t n hp h0 h1 hT hA f hf hfr hm
    unfold p2 at hp
    cases f with
    | zero => omega
    | succ f =>
    by_cases hn1 : n = 1
    · subst hn1
      have hd0 : dp (1 - 1) = 0 := rfl
      refine ⟨0, σ, ?_, TW.zero σ, hA, Ext.rf σ, Fr.rf _ _, by rw [hd0]; omega, rfl, by rw [hd0]; omega, ⟨fun x x0 xn => by omega, fun x y x0 xy yn => by omega⟩, fun x x0 xn => by omega, fun x x0 xn => by omega⟩
      unfold Pool_lastGone
      exact if_neg (by omega)
    have hut := hT.root (by omega)
    have hTl := hT.lf (by omega)
    have hTr := hT.rt (by omega)
    obtain ⟨i, hi⟩ : ∃ i, i = n - 1 := ⟨_, rfl⟩
    rw [← hi]
    obtain ⟨a, ha0, ha1, ha⟩ := half i (by omega)
    have fin : ∀ (s s' : Int) (σ1 : St) (l r : Int), (i = 2 * a + 1 ∧ s = lf σ t ∧ l = s' ∧ r = rt σ t ∨ i = 2 * a + 2 ∧ s = rt σ t ∧ l = lf σ t ∧ r = s') → TW σ1 s' a → Alloc σ1 → Ext σ σ1 → Fr [7, 8, 9, 30, 31, 32] σ σ1 → σ1 32 0 = σ 32 0 + (dp a : Int) → σ1 31 0 + σ1 32 0 = σ 31 0 + σ 32 0 → dp a ≤ d → EN (onW a) σ σ1 s' a →
        (∀ x, 0 ≤ x → x < a → ¬ onW a x → sl σ1 s' x = sl σ s x) → (∀ x, 0 ≤ x → x < a → nu σ1 (sl σ1 s' x) = nu σ (sl σ s x)) →
        ∃ y σ', Pool_make σ1 (nu σ t) l r = some (y, σ') ∧ TW σ' y i ∧ Alloc σ' ∧ Ext σ σ' ∧ Fr [7, 8, 9, 30, 31, 32] σ σ' ∧ σ' 32 0 = σ 32 0 + (dp i : Int) ∧ σ' 31 0 + σ' 32 0 = σ 31 0 + σ 32 0 ∧ dp i ≤ d + 1 ∧ EN (onW i) σ σ' y i ∧
          (∀ x, 0 ≤ x → x < i → ¬ onW i x → sl σ' y x = sl σ t x) ∧ (∀ x, 0 ≤ x → x < i → nu σ' (sl σ' y x) = nu σ (sl σ t x)) := by
      intro s s' σ1 l r hs c1 c2 c3 c4 c5 c6 c7 c8 c9 c10
      obtain ⟨y, σ2, e1, hM⟩ := make_eq σ1 (nu σ t) l r c2 (by omega) (by omega)
      have hE2 := hM.ext
      have hM' := hM
      obtain ⟨m1, m2, m3, m4, m5, m6, m7, m8, m9, m10⟩ := hM'
      have hdn : dp i = dp a + 1 := by
        rcases ha with e | e
        · rw [e]; exact (ats_odd (by omega)).1
        · rw [e]; exact (ats_even (by omega)).1
      have hz0 : sl σ2 y 0 = y := sl_0 _ _ (Int.le_refl 0)
      have hyn : ¬ used σ y := fun hu => m1 (c3 y hu).1
      rcases hs with ⟨en, es, el, er⟩ | ⟨en, es, el, er⟩
      · subst el er
        obtain ⟨n1, n2, n3, n4⟩ := hM.node c1 (hTr.ext c3 (by omega)) (by omega) (by omega)
        have hro : ∀ j, 0 ≤ j → sl σ2 y (2 * j + 2) = sl σ (rt σ t) j := fun j j0 => by rw [n3 j j0]; exact sl_ext c3 _ _ j hTr (by omega)
        have e9 : a + (n - 1) / 2 + 1 = i := by omega
        rw [e9] at n1
        refine ⟨y, σ2, e1, n1, m10, c3.tr hE2, c4.tr m9, by omega, by omega, by omega, ⟨fun x x0 xn hw => ?_, fun x z x0 xz zn hw hz => ?_⟩, fun x x0 xn hw => ?_, fun x x0 xn => ?_⟩
        · rw [en, onW_odd (by omega)] at hw
          rcases hw with rfl | ⟨j, rfl, hj⟩
          · rw [hz0]; exact hyn
          · rw [n2 j (by omega)]; exact c8.1 j (by omega) (by omega) hj
        · rw [en, onW_odd (by omega)] at hw hz
          rcases hz with rfl | ⟨j, rfl, hj⟩
          · omega
          · rw [n2 j (by omega)]
            rcases hw with rfl | ⟨i9, rfl, hi9⟩
            · rw [hz0]
              intro q
              exact m1 (q ▸ c1.1 j (by omega) (by omega))
            · rw [n2 i9 (by omega)]
              exact c8.2 i9 j (by omega) (by omega) (by omega) hi9 hj
        · rw [en, onW_odd (by omega)] at hw
          have hx : x ≠ 0 := fun e => hw (Or.inl e)
          obtain ⟨j, hj0, hj1, hj⟩ := half x (by omega)
          rcases hj with rfl | rfl
          · rw [n2 j hj0, sl_odd σ t hj0 rfl, ← es]
            exact c9 j hj0 (by omega) (fun q => hw (Or.inr ⟨j, rfl, q⟩))
          · rw [hro j hj0, sl_even σ t hj0 rfl]
        · by_cases hx : x = 0
          · rw [hx, hz0, n4, sl_0 _ _ (Int.le_refl 0)]
          · obtain ⟨j, hj0, hj1, hj⟩ := half x (by omega)
            rcases hj with rfl | rfl
            · rw [n2 j hj0, sl_odd σ t hj0 rfl, ← es, nu_ext (c1.1 j hj0 (by omega)) hE2]
              exact c10 j hj0 (by omega)
            · rw [hro j hj0, sl_even σ t hj0 rfl]
              exact nu_ext (hTr.1 j hj0 (by omega)) (c3.tr hE2)
      · subst el er
        obtain ⟨n1, n2, n3, n4⟩ := hM.node (hTl.ext c3 (by omega)) c1 (by omega) (by omega)
        have hro : ∀ j, 0 ≤ j → sl σ2 y (2 * j + 1) = sl σ (lf σ t) j := fun j j0 => by rw [n2 j j0]; exact sl_ext c3 _ _ j hTl (by omega)
        have e9 : n / 2 + a + 1 = i := by omega
        rw [e9] at n1
        refine ⟨y, σ2, e1, n1, m10, c3.tr hE2, c4.tr m9, by omega, by omega, by omega, ⟨fun x x0 xn hw => ?_, fun x z x0 xz zn hw hz => ?_⟩, fun x x0 xn hw => ?_, fun x x0 xn => ?_⟩
        · rw [en, onW_even (by omega)] at hw
          rcases hw with rfl | ⟨j, rfl, hj⟩
          · rw [hz0]; exact hyn
          · have hj0 := onW_rng (i := a) (by omega) hj
            rw [n3 j (by omega)]; exact c8.1 j (by omega) (by omega) hj
        · rw [en, onW_even (by omega)] at hw hz
          rcases hz with rfl | ⟨j, rfl, hj⟩
          · omega
          · have hj0 := onW_rng (i := a) (by omega) hj
            rw [n3 j (by omega)]
            rcases hw with rfl | ⟨i9, rfl, hi9⟩
            · rw [hz0]
              intro q
              exact m1 (q ▸ c1.1 j (by omega) (by omega))
            · have hi0 := onW_rng (i := a) (by omega) hi9
              rw [n3 i9 (by omega)]
              exact c8.2 i9 j (by omega) (by omega) (by omega) hi9 hj
        · rw [en, onW_even (by omega)] at hw
          have hx : x ≠ 0 := fun e => hw (Or.inl e)
          obtain ⟨j, hj0, hj1, hj⟩ := half x (by omega)
          rcases hj with rfl | rfl
          · rw [hro j hj0, sl_odd σ t hj0 rfl]
          · rw [n3 j hj0, sl_even σ t hj0 rfl, ← es]
            exact c9 j hj0 (by omega) (fun q => hw (Or.inr ⟨j, rfl, q⟩))
        · by_cases hx : x = 0
          · rw [hx, hz0, n4, sl_0 _ _ (Int.le_refl 0)]
          · obtain ⟨j, hj0, hj1, hj⟩ := half x (by omega)
            rcases hj with rfl | rfl
            · rw [hro j hj0, sl_odd σ t hj0 rfl]
              exact nu_ext (hTl.1 j hj0 (by omega)) (c3.tr hE2)
            · rw [n3 j hj0, sl_even σ t hj0 rfl, ← es, nu_ext (c1.1 j hj0 (by omega)) hE2]
              exact c10 j hj0 (by omega)
    have hnt : ∀ σ1, Ext σ σ1 → nu σ1 t = nu σ t := fun σ1 h => nu_ext hut h
    have e3 : a + 1 - 1 = a := by omega
    rcases ha with en | en
    · have e2 : n / 2 = a + 1 := by omega
      rw [e2] at hTl
      obtain ⟨s', σ1, b1, b2, b3, b4, b5, b6, b7, b8, b9, b10, b11⟩ := ih σ (lf σ t) (a + 1) (by omega) (by omega) (by omega) hTl hA f (by omega) (by omega) (by omega)
      rw [e3] at b2 b6 b8 b9 b10 b11
      obtain ⟨y, σ2, g1, g2⟩ := fin (lf σ t) s' σ1 s' (rt σ t) (Or.inl ⟨en, rfl, rfl, rfl⟩) b2 b3 b4 b5 b6 b7 b8 b9 b10 b11
      refine ⟨y, σ2, ?_, g2⟩
      unfold Pool_lastGone
      have el := E_leftSize_eq (n := n) (by omega)
      rw [e2] at el
      simp (disch := omega) only [↓jn_e, ↓ite_y, ↓ite_n, ↓oadd_eq, ↓osub_eq, ↓omul_eq, ↓odiv_eq, ↓orem_eq, ↓rd_eq, ↓wr_eq, ↓gf_e, ↓pf_e, ↓bnd_e, ↓bndp_e, ↓opure_e, ↓oif_t, ↓oif_f, ↓E_isPlace_y, ↓E_isPlace_n, ↓E_isNumber_y, ↓E_isNumber_n, ↓M_isPlace_y, ↓M_isPlace_n, ↓M_isNumber_y, ↓M_isNumber_n, ↓M_in_y, ↓M_in_n, ↓us_ne, ↓Pool_leftOf_eq, ↓Pool_rightOf_eq, ↓Pool_numberOf_eq, ↓el, ↓b1, hnt σ1 b4, ↓g1]
    · have e2 : (n - 1) / 2 = a + 1 := by omega
      rw [e2] at hTr
      obtain ⟨s', σ1, b1, b2, b3, b4, b5, b6, b7, b8, b9, b10, b11⟩ := ih σ (rt σ t) (a + 1) (by omega) (by omega) (by omega) hTr hA f (by omega) (by omega) (by omega)
      rw [e3] at b2 b6 b8 b9 b10 b11
      obtain ⟨y, σ2, g1, g2⟩ := fin (rt σ t) s' σ1 (lf σ t) s' (Or.inr ⟨en, rfl, rfl, rfl⟩) b2 b3 b4 b5 b6 b7 b8 b9 b10 b11
      refine ⟨y, σ2, ?_, g2⟩
      unfold Pool_lastGone
      have el := E_rightSize_eq (n := n) (by omega)
      rw [e2] at el
      simp (disch := omega) only [↓jn_e, ↓ite_y, ↓ite_n, ↓oadd_eq, ↓osub_eq, ↓omul_eq, ↓odiv_eq, ↓orem_eq, ↓rd_eq, ↓wr_eq, ↓gf_e, ↓pf_e, ↓bnd_e, ↓bndp_e, ↓opure_e, ↓oif_t, ↓oif_f, ↓E_isPlace_y, ↓E_isPlace_n, ↓E_isNumber_y, ↓E_isNumber_n, ↓M_isPlace_y, ↓M_isPlace_n, ↓M_isNumber_y, ↓M_isNumber_n, ↓M_in_y, ↓M_in_n, ↓us_ne, ↓Pool_leftOf_eq, ↓Pool_rightOf_eq, ↓Pool_numberOf_eq, ↓el, ↓b1, hnt σ1 b4, ↓g1]
theorem MN.iff {W V : Int → Prop} {τ τ' : St} {n : Int} (h : MN V τ τ' n) (hw : ∀ x, 0 ≤ x → x < n → W x → V x) : MN W τ τ' n :=
  ⟨fun x x0 xn q => h.1 x x0 xn (hw x x0 xn q), fun x y x0 xy yn q r => h.2 x y x0 xy yn (hw x x0 (by omega) q) (hw y (by omega) yn r)⟩
theorem MN.late {W : Int → Prop} {τ τ0 τ' : St} {n : Int} (h : MN W τ0 τ' n) (e : τ0 30 0 = τ 30 0) : MN W τ τ' n := by
  unfold MN at *
  rw [← e]; exact h
theorem cn_low {f : Int → Int} {n : Int} (hn : 0 ≤ n ∧ n ≤ 255) (h : ∀ x, n ≤ x → x < 255 → f x = 0) : cn f 255 = cn f n.toNat := by
  have := cn_cut (f := f) (m := n.toNat) (255 - n.toNat) (fun x a b => h x (by omega) (by omega))
  rw [show n.toNat + (255 - n.toNat) = 255 by omega] at this
  exact this
theorem backs_ex {τ : St} {n v : Int} (hn : 0 ≤ n ∧ n ≤ 254) (h3 : τ 3 7 = n) (hm : 0 ≤ τ 30 0 ∧ τ 30 0 + 300 ≤ 2147483000) :
    ∃ τ', M_backs τ v = some (0, τ') ∧ Fr [1, 2, 3, 6, 7, 30, 35, 36] τ τ' ∧ Rws [7] τ τ' ∧ τ' 3 7 = n + 1 ∧ (∀ x, 0 ≤ x → x < n → τ' 1 (256 * 7 + x) = τ 1 (256 * 7 + x)) ∧ τ' 1 (256 * 7 + n) = v ∧ MN (onW n) τ τ' (n + 1) ∧ (∀ x, 0 ≤ x → x < n → ¬ onW n x → τ' 2 (256 * 7 + x) = τ 2 (256 * 7 + x)) ∧ τ' 30 0 = τ 30 0 + (dp n : Int) + 1 := by
  obtain ⟨τ1, e1, f1, z1⟩ := clearsNew_ex τ
  obtain ⟨τ2, e2, f2, b2, c2⟩ := marks_ex (i := n) (it := 1) (by omega) (Or.inr rfl) τ1 (fun x a b => Or.inl (z1 x a b))
  have fa : Fr [6, 7, 35, 36] τ τ2 := (f1.mono (by decide)).tr f2
  have h32 : τ2 3 7 = n := by rw [fa 3 (by decide)]; exact h3
  have h31 : τ1 3 7 = n := by rw [f1 3 (by decide)]; exact h3
  obtain ⟨τ4, hτ4⟩ : ∃ τ4, τ4 = us (us τ2 1 (1792 + n) v) 3 7 (n + 1) := ⟨_, rfl⟩
  have f4 : Fr [1, 3] τ2 τ4 := by rw [hτ4]; exact ((Fr.rf _ _).us (by decide)).us (by decide)
  have s4 : τ4 3 7 = n + 1 := by rw [hτ4, us_eq]
  have m4 : τ4 30 0 = τ 30 0 := by rw [f4 30 (by decide), fa 30 (by decide)]
  have e7 : τ4 7 = τ2 7 := f4 7 (by decide)
  have hw : ∀ x, 0 ≤ x → x < 256 → (¬ τ4 7 x = 0 ↔ onW n x) := fun x x0 xn => by
    rw [e7]
    have c := c2 x x0 xn
    have b := b2 x x0 xn
    rw [z1 x x0 xn] at c
    constructor
    · intro q
      rcases c.mp (by omega) with w | w
      · omega
      · exact w.1
    · intro q
      have := c.mpr (Or.inr ⟨q, Or.inl rfl⟩)
      omega
  obtain ⟨τ5, e5, f5, n5, r5, o5, M5, t5⟩ := renews_ex (n := n + 1) (by omega) τ4 s4 (by omega)
  have hcn : cn (τ4 7) (n + 1).toNat = (dp n : Int) + 1 := by
    rw [← cn_low (by omega) (fun x a b => ?_)]
    · exact cn_onW (by omega) (fun x a b => hw x a (by omega))
    · have := mt (fun q => onW_rng (i := n) (by omega) ((hw x (by omega) (by omega)).mp q)) (by omega)
      omega
  have r4 : Rws [7] τ2 τ4 := by
    rw [hτ4]
    refine ⟨fun q hq => ?_, fun p hp => ?_⟩
    · have := hq 7 (by decide)
      rw [us_ne (by decide), us_ni (by omega), us_ne (by decide), us_ne (by decide)]
      exact ⟨rfl, rfl⟩
    · rw [us_ni (fun e => hp (by rw [e]; decide)), us_ne (by decide)]
  refine ⟨τ5, ?_, (fa.mono (by decide)).tr ((f4.mono (by decide)).tr (f5.mono (by decide))), (Rws.fr fa (by decide) (by decide) (by decide) _).tr (r4.tr r5), by rw [f5 3 (by decide), s4], fun x x0 xn => ?_, ?_, (M5.iff (fun x x0 xn q => (hw x x0 (by omega)).mpr q)).late m4, fun x x0 xn q => ?_, by rw [t5, hcn, m4]; omega⟩
  · unfold M_backs
    rw [e1, bnd_eq, rd_eq (by omega), h31, e2, bnd_eq, rd_eq (by omega), h32, oadd_eq (by omega), wr_eq (by omega), rd_eq (by omega), us_ne (by decide), h32, oadd_eq (by omega), wr_eq (by omega), ← hτ4, e5, bnd_eq]
  · rw [n5, hτ4, us_ne (by decide), us_ni (by omega), fa 1 (by decide)]
  · rw [n5, hτ4, us_ne (by decide)]; exact us_eq _ _ _ _
  · rw [o5 x x0 (by omega) (Classical.byContradiction (fun w => q ((hw x x0 (by omega)).mp w))), f4 2 (by decide), fa 2 (by decide)]
theorem goesLast_ex {τ : St} {n : Int} (hn : 1 ≤ n ∧ n ≤ 255) (h3 : τ 3 7 = n) (hm : 0 ≤ τ 30 0 ∧ τ 30 0 + 300 ≤ 2147483000) :
    ∃ τ', M_goesLast τ = some (0, τ') ∧ Fr [1, 2, 3, 6, 7, 30, 35, 36] τ τ' ∧ Rws [7] τ τ' ∧ τ' 3 7 = n - 1 ∧ (∀ x, 0 ≤ x → x < n - 1 → τ' 1 (256 * 7 + x) = τ 1 (256 * 7 + x)) ∧ MN (onW (n - 1)) τ τ' (n - 1) ∧ (∀ x, 0 ≤ x → x < n - 1 → ¬ onW (n - 1) x → τ' 2 (256 * 7 + x) = τ 2 (256 * 7 + x)) ∧ τ' 30 0 = τ 30 0 + (dp (n - 1) : Int) := by
  obtain ⟨i, hi⟩ : ∃ i, i = n - 1 := ⟨_, rfl⟩
  rw [← hi]
  obtain ⟨τ1, e1, f1, z1⟩ := clearsNew_ex τ
  obtain ⟨τ2, e2, f2, b2, c2⟩ := marks_ex (i := i) (it := 0) (by omega) (Or.inl rfl) τ1 (fun x a b => Or.inl (z1 x a b))
  have fa : Fr [6, 7, 35, 36] τ τ2 := (f1.mono (by decide)).tr f2
  have h32 : τ2 3 7 = n := by rw [fa 3 (by decide)]; exact h3
  have h31 : τ1 3 7 = n := by rw [f1 3 (by decide)]; exact h3
  obtain ⟨τ4, hτ4⟩ : ∃ τ4, τ4 = us τ2 3 7 i := ⟨_, rfl⟩
  have f4 : Fr [3] τ2 τ4 := by rw [hτ4]; exact (Fr.rf _ _).us (by decide)
  have s4 : τ4 3 7 = i := by rw [hτ4, us_eq]
  have m4 : τ4 30 0 = τ 30 0 := by rw [f4 30 (by decide), fa 30 (by decide)]
  have e7 : τ4 7 = τ2 7 := f4 7 (by decide)
  have hw : ∀ x, 0 ≤ x → x < 256 → (¬ τ4 7 x = 0 ↔ (onW i x ∧ x ≠ i)) := fun x x0 xn => by
    rw [e7]
    have c := c2 x x0 xn
    have b := b2 x x0 xn
    rw [z1 x x0 xn] at c
    constructor
    · intro q
      rcases c.mp (by omega) with w | w
      · omega
      · exact ⟨w.1, w.2.resolve_left (by omega)⟩
    · intro q
      have := c.mpr (Or.inr ⟨q.1, Or.inr q.2⟩)
      omega
  obtain ⟨τ5, e5, f5, n5, r5, o5, M5, t5⟩ := renews_ex (n := i) (by omega) τ4 s4 (by omega)
  have hcn : cn (τ4 7) i.toNat = (dp i : Int) := by
    have hz : τ4 7 i = 0 := Classical.byContradiction (fun q => ((hw i (by omega) (by omega)).mp q).2 rfl)
    have h1 := cn_set hz 255 (by omega) (by omega)
    have h2 : cn (fun j => if j = i then 1 else τ4 7 j) 255 = (dp i : Int) + 1 := cn_onW (i := i) (by omega) (fun x a b => by
      by_cases e : x = i
      · rw [if_pos e, e]; exact ⟨fun _ => onW_self (by omega), fun _ => by decide⟩
      · rw [if_neg e, hw x a (by omega)]; exact ⟨fun q => q.1, fun q => ⟨q, e⟩⟩)
    rw [← cn_low (by omega) (fun x a b => ?_)]
    · omega
    · refine Classical.byContradiction (fun q => ?_)
      have w := (hw x (by omega) (by omega)).mp q
      have := onW_rng (i := i) (by omega) w.1
      have := w.2
      omega
  have r4 : Rws [7] τ2 τ4 := by
    rw [hτ4]
    exact ⟨fun q hq => ⟨us_ne (by decide), us_ne (by decide)⟩, fun p hp => us_ni (fun e => hp (by rw [e]; decide))⟩
  refine ⟨τ5, ?_, (fa.mono (by decide)).tr ((f4.mono (by decide)).tr (f5.mono (by decide))), (Rws.fr fa (by decide) (by decide) (by decide) _).tr (r4.tr r5), by rw [f5 3 (by decide), s4], fun x x0 xn => ?_, (M5.iff (fun x x0 xn q => (hw x x0 (by omega)).mpr ⟨q, by omega⟩)).late m4, fun x x0 xn q => ?_, by rw [t5, hcn, m4]⟩
  · unfold M_goesLast
    rw [e1, bnd_eq, rd_eq (by omega), h31, osub_eq (by omega), ← hi, e2, bnd_eq, rd_eq (by omega), h32, osub_eq (by omega), ← hi, wr_eq (by omega), ← hτ4, e5, bnd_eq]
  · rw [n5, f4 1 (by decide), fa 1 (by decide)]
  · rw [o5 x x0 (by omega) (Classical.byContradiction (fun w => q ((hw x x0 (by omega)).mp w).1)), f4 2 (by decide), fa 2 (by decide)]
theorem op_back {ρ : Int → Int → Prop} {σ τ : St} {y n v : Int} (hC : Cx ρ σ τ 9) (hI : RI ρ σ τ y n 7) (hn : n ≤ 254) (hv : -999 ≤ v ∧ v ≤ 999) (h30 : τ 30 0 + 300 ≤ 2147483000) :
    ∃ y' σ' τ' ρ', Pool_put σ v y n 1 = some (y', σ') ∧ M_backs τ v = some (0, τ') ∧ Sx ρ σ τ ρ' σ' τ' 8 ∧ RI ρ' σ' τ' y' (n + 1) 7 ∧ Rws [7] τ τ' := by
  have hI' := hI
  obtain ⟨n0, s7, hT, hCo⟩ := hI'
  obtain ⟨hB, hA, hf, hs, hm⟩ := hC
  obtain ⟨y', σ', b1, b2, b3, b4, b5, b6, b7, b8, b9, b10, b11, b12⟩ := backed_ex 8 σ v y n (by rw [p2_8]; omega) n0.1 hn hT hA 12 (by omega) (by omega) (by omega)
  obtain ⟨τ', c1, c2, c3, c4, c5, c6, c7, c8, c9⟩ := backs_ex (v := v) ⟨n0.1, hn⟩ s7 ⟨hm.1, h30⟩
  have h7 := dp_7 (i := n) (by omega)
  have hnum : ∀ x, 0 ≤ x → x < n + 1 → nu σ' (sl σ' y' x) = τ' 1 (256 * 7 + x) ∧ -999 ≤ τ' 1 (256 * 7 + x) ∧ τ' 1 (256 * 7 + x) ≤ 999 := fun x x0 xn => by
    by_cases e : x = n
    · rw [e, b12, c6]; exact ⟨rfl, hv⟩
    · rw [b11 x x0 (by omega), c5 x x0 (by omega)]
      exact hI.num ⟨x0, by omega⟩
  have hold : ∀ x, 0 ≤ x → x < n + 1 → ¬ onW n x → ρ (sl σ' y' x) (τ' 2 (256 * 7 + x)) := fun x x0 xn q => by
    have hx : x ≠ n := fun e => q (by rw [e]; exact onW_self (by omega))
    rw [b10 x x0 (by omega) q, c8 x x0 (by omega) q]
    have c := hCo x x0 (by omega)
    rw [vw1] at c
    exact c.1
  obtain ⟨ρ', hX, hR⟩ := join_ex (W := onW n) (d := 8) hB hm.1 b3 b4 (b5.mono (by decide)) (c2.mono (by decide)) (by unfold Cnt; omega) (by omega) b2 c4 b9 c7 hnum hold
  refine ⟨y', σ', τ', ρ', ?_, c1, hX, hR, c3⟩
  unfold Pool_put
  rw [if_neg (by omega), if_pos rfl, RD_eq, b1, bnd_eq]
theorem op_last {ρ : Int → Int → Prop} {σ τ : St} {y n : Int} (hC : Cx ρ σ τ 9) (hI : RI ρ σ τ y n 7) (hn : 1 ≤ n) (h30 : τ 30 0 + 300 ≤ 2147483000) :
    ∃ y' σ' τ' ρ', Pool_take σ y n 3 = some (y', σ') ∧ M_goesLast τ = some (0, τ') ∧ Sx ρ σ τ ρ' σ' τ' 8 ∧ RI ρ' σ' τ' y' (n - 1) 7 ∧ Rws [7] τ τ' := by
  have hI' := hI
  obtain ⟨n0, s7, hT, hCo⟩ := hI'
  obtain ⟨hB, hA, hf, hs, hm⟩ := hC
  obtain ⟨y', σ', b1, b2, b3, b4, b5, b6, b7, b8, b9, b10, b11⟩ := lastGone_ex 8 σ y n (by rw [p2_8]; omega) hn n0.2 hT hA 12 (by omega) (by omega) (by omega)
  obtain ⟨τ', c1, c2, c3, c4, c5, c7, c8, c9⟩ := goesLast_ex ⟨hn, n0.2⟩ s7 ⟨hm.1, h30⟩
  have h7 := dp_7 (i := n - 1) (by omega)
  have hnum : ∀ x, 0 ≤ x → x < n - 1 → nu σ' (sl σ' y' x) = τ' 1 (256 * 7 + x) ∧ -999 ≤ τ' 1 (256 * 7 + x) ∧ τ' 1 (256 * 7 + x) ≤ 999 := fun x x0 xn => by
    rw [b11 x x0 (by omega), c5 x x0 (by omega)]
    exact hI.num ⟨x0, by omega⟩
  have hold : ∀ x, 0 ≤ x → x < n - 1 → ¬ onW (n - 1) x → ρ (sl σ' y' x) (τ' 2 (256 * 7 + x)) := fun x x0 xn q => by
    rw [b10 x x0 (by omega) q, c8 x x0 (by omega) q]
    have c := hCo x x0 (by omega)
    rw [vw1] at c
    exact c.1
  obtain ⟨ρ', hX, hR⟩ := join_ex (W := onW (n - 1)) (d := 8) hB hm.1 b3 b4 (b5.mono (by decide)) (c2.mono (by decide)) (by unfold Cnt; omega) (by omega) b2 c4 b9 c7 hnum hold
  refine ⟨y', σ', τ', ρ', ?_, c1, hX, hR, c3⟩
  unfold Pool_take
  rw [if_neg (by omega), RD_eq, b1, bnd_eq]

-- MATH 27: marks of E; calls that change a row
theorem ats_mono {i : Int} (h : 0 ≤ i ∧ i < 255) {p r : Nat} (hp : p < r) (hr : r ≤ dp i) : ats i p < ats i r := by
  have mono : ∀ d, p + d ≤ dp i → 0 < d → ats i p < ats i (p + d) := fun d => by
    induction d with
    | zero => intro _ h0; omega
    | succ d ihd =>
      intro h1 h2
      have a := (ats_up h (q := p + d) (by omega)).1
      by_cases hd0 : d = 0
      · subst hd0; exact a
      · exact Int.lt_trans (ihd (by omega) (by omega)) a
  have := mono (r - p) (by omega) (by omega)
  rw [show p + (r - p) = r by omega] at this
  exact this
def Eb (σ : St) : Prop := (∀ x, 0 ≤ x → x < 255 → σ 23 x = 0 ∨ σ 23 x = 1) ∧ (∀ x, 0 < x → x < 255 → σ 23 x = 1 → σ 23 (up x) = 1) ∧ σ 44 0 = cn (σ 23) 255
theorem Eb.chain {σ : St} (h : Eb σ) {i : Int} (hi : 0 ≤ i ∧ i < 255) : ∀ q : Nat, q ≤ dp i → σ 23 (ats i q) = 1 → ∀ p, p ≤ q → σ 23 (ats i p) = 1 := by
  intro q
  induction q with
  | zero => intro _ h1 p hp; have : p = 0 := by omega
            rw [this]; exact h1
  | succ q ih =>
    intro hq h1 p hp
    by_cases e : p = q + 1
    · rw [e]; exact h1
    · have u := ats_up hi (q := q) (by omega)
      have r := ats_rng hi (q := q + 1) hq
      have r0 := ats_rng hi (q := q) (by omega)
      have := h.2.1 _ (by omega) (by omega) h1
      rw [u.2] at this
      exact ih (by omega) this p (by omega)
theorem mark_loop {i : Int} (hi : 0 ≤ i ∧ i < 255) {σ : St} (hE : Eb σ) : ∀ (q m : Nat) (s : St), q ≤ dp i → q + 1 < m → Fr [23, 44] σ s → (∀ x, 0 ≤ x → x < 255 → s 23 x = 0 ∨ s 23 x = 1) → s 44 0 = cn (s 23) 255 → (∀ x, 0 ≤ x → x < 255 → (s 23 x = 1 ↔ (σ 23 x = 1 ∨ ∃ p, q < p ∧ p ≤ dp i ∧ ats i p = x))) →
    ∃ s2, Ways_mark_L4 m s (ats i q) ((dp i : Int) - q) = some (0, s2) ∧ Fr [23, 44] σ s2 ∧ (∀ x, 0 ≤ x → x < 255 → s2 23 x = 0 ∨ s2 23 x = 1) ∧ s2 44 0 = cn (s2 23) 255 ∧ (∀ x, 0 ≤ x → x < 255 → (s2 23 x = 1 ↔ (σ 23 x = 1 ∨ onW i x))) := by
  intro q
  have h7 := dp_7 hi
  induction q with
  | zero =>
    intro m s hq hm hF hb ht hx
    cases m with
    | zero => omega
    | succ m =>
    have b0 := hb 0 (by omega) (by omega)
    show ∃ s2, Ways_mark_L4 (m + 1) s 0 ((dp i : Int) - (0 : Nat)) = some (0, s2) ∧ _
    by_cases h0 : s 23 0 = 0
    · have cr := cn_rng (s 23) 255
      obtain ⟨s2, hs2⟩ : ∃ s2, s2 = us (us s 23 0 1) 44 0 (s 44 0 + 1) := ⟨_, rfl⟩
      have e23 : s2 23 = fun j => if j = 0 then 1 else s 23 j := by rw [hs2, us_f (by decide), us_fun]
      refine ⟨s2, ?_, by rw [hs2]; exact (hF.us (by decide)).us (by decide), fun x x0 xn => ?_, ?_, fun x x0 xn => ?_⟩
      · unfold Ways_mark_L4
        have ea := Shape_above_eq (x := 0) (by omega)
        rw [if_pos rfl] at ea
        simp (disch := omega) only [↓jn_e, ↓ite_y, ↓ite_n, ↓oadd_eq, ↓osub_eq, ↓omul_eq, ↓odiv_eq, ↓orem_eq, ↓rd_eq, ↓wr_eq, ↓gf_e, ↓pf_e, ↓bnd_e, ↓bndp_e, ↓opure_e, ↓oif_t, ↓oif_f, ↓E_isPlace_y, ↓E_isPlace_n, ↓E_isNumber_y, ↓E_isNumber_n, ↓M_isPlace_y, ↓M_isPlace_n, ↓M_isNumber_y, ↓M_isNumber_n, ↓M_in_y, ↓M_in_n, ↓us_ne, ↓ea, ← hs2]
        cases m with
        | zero => omega
        | succ m =>
        unfold Ways_mark_L4
        by_cases c : (dp i : Int) - (0 : Nat) + 1 < 8
        · simp (disch := omega) only [↓jn_e, ↓ite_y, ↓ite_n, ↓oadd_eq, ↓osub_eq, ↓omul_eq, ↓odiv_eq, ↓orem_eq, ↓rd_eq, ↓wr_eq, ↓gf_e, ↓pf_e, ↓bnd_e, ↓bndp_e, ↓opure_e, ↓oif_t, ↓oif_f, ↓E_isPlace_y, ↓E_isPlace_n, ↓E_isNumber_y, ↓E_isNumber_n, ↓M_isPlace_y, ↓M_isPlace_n, ↓M_isNumber_y, ↓M_isNumber_n, ↓M_in_y, ↓M_in_n, ↓us_ne]
        · simp (disch := omega) only [↓jn_e, ↓ite_y, ↓ite_n, ↓oadd_eq, ↓osub_eq, ↓omul_eq, ↓odiv_eq, ↓orem_eq, ↓rd_eq, ↓wr_eq, ↓gf_e, ↓pf_e, ↓bnd_e, ↓bndp_e, ↓opure_e, ↓oif_t, ↓oif_f, ↓E_isPlace_y, ↓E_isPlace_n, ↓E_isNumber_y, ↓E_isNumber_n, ↓M_isPlace_y, ↓M_isPlace_n, ↓M_isNumber_y, ↓M_isNumber_n, ↓M_in_y, ↓M_in_n, ↓us_ne]
      · rw [e23]
        dsimp only
        by_cases e : x = 0
        · rw [if_pos e]; exact Or.inr rfl
        · rw [if_neg e]; exact hb x x0 xn
      · rw [e23, cn_set h0 255 (by omega) (by omega), hs2, us_eq, ht]
      · rw [e23]
        dsimp only
        by_cases e : x = 0
        · rw [if_pos e, e]; exact ⟨fun _ => Or.inr (onW_0 i), fun _ => rfl⟩
        · rw [if_neg e, hx x x0 xn]
          constructor
          · rintro (w | ⟨p, _, p2, p3⟩)
            · exact Or.inl w
            · exact Or.inr ⟨p, p2, p3⟩
          · rintro (w | ⟨p, p2, p3⟩)
            · exact Or.inl w
            · refine Or.inr ⟨p, ?_, p2, p3⟩
              cases p with
              | zero => exact absurd p3.symm e
              | succ p => omega
    · have h1 : s 23 0 = 1 := b0.resolve_left h0
      refine ⟨s, ?_, hF, hb, ht, fun x x0 xn => ?_⟩
      · unfold Ways_mark_L4
        simp (disch := omega) only [↓jn_e, ↓ite_y, ↓ite_n, ↓oadd_eq, ↓osub_eq, ↓omul_eq, ↓odiv_eq, ↓orem_eq, ↓rd_eq, ↓wr_eq, ↓gf_e, ↓pf_e, ↓bnd_e, ↓bndp_e, ↓opure_e, ↓oif_t, ↓oif_f, ↓E_isPlace_y, ↓E_isPlace_n, ↓E_isNumber_y, ↓E_isNumber_n, ↓M_isPlace_y, ↓M_isPlace_n, ↓M_isNumber_y, ↓M_isNumber_n, ↓M_in_y, ↓M_in_n, ↓us_ne]
      · have z := (hx 0 (by omega) (by omega)).mp h1
        have z1 : σ 23 0 = 1 := by
          rcases z with w | ⟨p, p1, p2, p3⟩
          · exact w
          · have := ats_mono hi p1 p2
            have e0 : ats i 0 = 0 := rfl
            omega
        rw [hx x x0 xn]
        constructor
        · rintro (w | ⟨p, _, p2, p3⟩)
          · exact Or.inl w
          · exact Or.inr ⟨p, p2, p3⟩
        · rintro (w | ⟨p, p2, p3⟩)
          · exact Or.inl w
          · cases p with
            | zero => left; rw [← p3]; exact z1
            | succ p => exact Or.inr ⟨p + 1, by omega, p2, p3⟩
  | succ q ih =>
    intro m s hq hm hF hb ht hx
    cases m with
    | zero => omega
    | succ m =>
    have r := ats_rng hi (q := q + 1) hq
    have u := ats_up hi (q := q) (by omega)
    have r0 := ats_rng hi (q := q) (by omega)
    have b0 := hb (ats i (q + 1)) (by omega) (by omega)
    by_cases h0 : s 23 (ats i (q + 1)) = 0
    · have cr := cn_rng (s 23) 255
      obtain ⟨s2, hs2⟩ : ∃ s2, s2 = us (us s 23 (ats i (q + 1)) 1) 44 0 (s 44 0 + 1) := ⟨_, rfl⟩
      have e23 : s2 23 = fun j => if j = ats i (q + 1) then 1 else s 23 j := by rw [hs2, us_f (by decide), us_fun]
      obtain ⟨s3, x1, x2⟩ := ih m s2 (by omega) (by omega) (by rw [hs2]; exact (hF.us (by decide)).us (by decide)) (fun x x0 xn => by
          rw [e23]
          dsimp only
          by_cases e : x = ats i (q + 1)
          · rw [if_pos e]; exact Or.inr rfl
          · rw [if_neg e]; exact hb x x0 xn) (by rw [e23, cn_set h0 255 (by omega) (by omega), hs2, us_eq, ht]) (fun x x0 xn => by
          rw [e23]
          dsimp only
          by_cases e : x = ats i (q + 1)
          · rw [if_pos e, e]; exact ⟨fun _ => Or.inr ⟨q + 1, by omega, hq, rfl⟩, fun _ => rfl⟩
          · rw [if_neg e, hx x x0 xn]
            constructor
            · rintro (w | ⟨p, p1, p2, p3⟩)
              · exact Or.inl w
              · exact Or.inr ⟨p, by omega, p2, p3⟩
            · rintro (w | ⟨p, p1, p2, p3⟩)
              · exact Or.inl w
              · have : p ≠ q + 1 := fun e2 => e (by rw [← p3, e2])
                exact Or.inr ⟨p, by omega, p2, p3⟩)
      refine ⟨s3, ?_, x2⟩
      conv => lhs; unfold Ways_mark_L4
      have ea := Shape_above_eq (x := ats i (q + 1)) (by omega)
      rw [if_neg (by omega), u.2] at ea
      have e9 : (dp i : Int) - ((q + 1 : Nat) : Int) + 1 = (dp i : Int) - (q : Int) := by omega
      simp (disch := omega) only [↓jn_e, ↓ite_y, ↓ite_n, ↓oadd_eq, ↓osub_eq, ↓omul_eq, ↓odiv_eq, ↓orem_eq, ↓rd_eq, ↓wr_eq, ↓gf_e, ↓pf_e, ↓bnd_e, ↓bndp_e, ↓opure_e, ↓oif_t, ↓oif_f, ↓E_isPlace_y, ↓E_isPlace_n, ↓E_isNumber_y, ↓E_isNumber_n, ↓M_isPlace_y, ↓M_isPlace_n, ↓M_isNumber_y, ↓M_isNumber_n, ↓M_in_y, ↓M_in_n, ↓us_ne, ↓ea, ← hs2, e9]
      exact x1
    · have h1 : s 23 (ats i (q + 1)) = 1 := b0.resolve_left h0
      refine ⟨s, ?_, hF, hb, ht, fun x x0 xn => ?_⟩
      · unfold Ways_mark_L4
        simp (disch := omega) only [↓jn_e, ↓ite_y, ↓ite_n, ↓oadd_eq, ↓osub_eq, ↓omul_eq, ↓odiv_eq, ↓orem_eq, ↓rd_eq, ↓wr_eq, ↓gf_e, ↓pf_e, ↓bnd_e, ↓bndp_e, ↓opure_e, ↓oif_t, ↓oif_f, ↓E_isPlace_y, ↓E_isPlace_n, ↓E_isNumber_y, ↓E_isNumber_n, ↓M_isPlace_y, ↓M_isPlace_n, ↓M_isNumber_y, ↓M_isNumber_n, ↓M_in_y, ↓M_in_n, ↓us_ne]
      · have z := (hx _ (by omega) (by omega)).mp h1
        have z1 : σ 23 (ats i (q + 1)) = 1 := by
          rcases z with w | ⟨p, p1, p2, p3⟩
          · exact w
          · have := ats_mono hi p1 p2
            omega
        have zc := hE.chain hi (q + 1) hq z1
        rw [hx x x0 xn]
        constructor
        · rintro (w | ⟨p, _, p2, p3⟩)
          · exact Or.inl w
          · exact Or.inr ⟨p, p2, p3⟩
        · rintro (w | ⟨p, p2, p3⟩)
          · exact Or.inl w
          · by_cases e : p ≤ q + 1
            · left; rw [← p3]; exact zc p e
            · exact Or.inr ⟨p, by omega, p2, p3⟩
theorem mark_ex {i : Int} (hi : 0 ≤ i ∧ i < 255) {σ : St} (hE : Eb σ) : ∃ s2, Ways_mark σ i = some (0, s2) ∧ Fr [23, 44] σ s2 ∧ Eb s2 ∧ (∀ x, 0 ≤ x → x < 255 → (s2 23 x = 1 ↔ (σ 23 x = 1 ∨ onW i x))) := by
  have h7 := dp_7 hi
  obtain ⟨s2, e, f, b, t, x⟩ := mark_loop hi hE (dp i) FU σ (Nat.le_refl _) (by unfold FU; omega) (Fr.rf _ _) hE.1 hE.2.2 (fun x x0 xn => ⟨Or.inl, fun q => q.elim id (fun ⟨p, p1, p2, _⟩ => absurd p1 (by omega))⟩)
  rw [ats_dp hi, Int.sub_self] at e
  refine ⟨s2, e, f, ⟨b, fun y y0 yn q => ?_, t⟩, x⟩
  have us9 := up_spec (x := y) (by omega)
  rw [x (up y) us9.1 (by omega)]
  rcases (x y (by omega) yn).mp q with w | w
  · exact Or.inl (hE.2.1 y y0 yn w)
  · exact Or.inr (onW_up hi w y0)
theorem fillOn_loop (σ : St) : ∀ (m : Nat) (σ1 : St) (x : Int), 0 ≤ x → x ≤ 255 → 255 - x < m → Fr [23] σ σ1 → (∀ z, 0 ≤ z → z < x → σ1 23 z = 0) → ∃ σ2, Jarr_fill_on_L5 0 m σ1 x = some (0, σ2) ∧ Fr [23] σ σ2 ∧ ∀ z, 0 ≤ z → z < 255 → σ2 23 z = 0 := by
  intro m
  induction m with
  | zero => intro σ1 x h0 hxn hm; exfalso; omega
  | succ m ih =>
    intro σ1 x h0 hxn hm hF hz
    unfold Jarr_fill_on_L5
    by_cases hx : x < 255
    · simp (disch := omega) only [ite_y, wr_eq, oadd_eq]
      refine ih _ (x + 1) (by omega) (by omega) (by omega) (hF.us (by decide)) (fun z h1 h2 => ?_)
      by_cases hzx : z = x
      · rw [hzx, us_eq]
      · rw [us_ni hzx]; exact hz z h1 (by omega)
    · simp (disch := omega) only [ite_n]
      exact ⟨σ1, rfl, hF, fun z h1 h2 => hz z h1 (by omega)⟩
theorem waysClear_ex (σ : St) : ∃ s, Ways_clear σ = some (0, s) ∧ Fr [23, 44] σ s ∧ Eb s ∧ ∀ z, 0 ≤ z → z < 255 → s 23 z = 0 := by
  obtain ⟨sa, e, f, z⟩ := fillOn_loop σ FU σ 0 (by omega) (by omega) (by unfold FU; omega) (Fr.rf _ _) (fun z h1 h2 => by omega)
  have e23 : us sa 44 0 0 23 = sa 23 := us_f (by decide)
  refine ⟨us sa 44 0 0, ?_, (f.mono (by decide)).us (by decide), ⟨fun x x0 xn => Or.inl (by rw [e23]; exact z x x0 xn), fun x x0 xn q => ?_, ?_⟩, fun x x0 xn => by rw [e23]; exact z x x0 xn⟩
  · unfold Ways_clear Jarr_fill_on
    rw [e, bnd_eq, pf_eq]
  · rw [e23, z x (by omega) xn] at q; omega
  · rw [us_eq, e23]
    have := cn_cut (f := sa 23) (m := 0) 255 (fun x a b => z x (by omega) (by omega))
    rw [Nat.zero_add] at this
    rw [this]; rfl
theorem markUnlike_loop {n : Int} (hn : 0 ≤ n ∧ n ≤ 255) (σ : St) : ∀ (r m : Nat) (s : St) (c x : Int), x + r = n → 0 ≤ x → r < m → Fr [23, 44] σ s → Eb s → c = cn (fun y => σ 26 y - σ 27 y) x.toNat → (∀ z, 0 ≤ z → z < 255 → (s 23 z = 1 ↔ ∃ y, 0 ≤ y ∧ y < x ∧ σ 26 y ≠ σ 27 y ∧ onW y z)) →
    ∃ s2, E_markUnlike_L11 n m s c x = some (cn (fun y => σ 26 y - σ 27 y) n.toNat, s2) ∧ Fr [23, 44] σ s2 ∧ Eb s2 ∧ (∀ z, 0 ≤ z → z < 255 → (s2 23 z = 1 ↔ ∃ y, 0 ≤ y ∧ y < n ∧ σ 26 y ≠ σ 27 y ∧ onW y z)) := by
  intro r
  induction r with
  | zero =>
    intro m s c x h1 h0 h2 hF hE hc hz
    cases m with
    | zero => omega
    | succ m =>
    have e : x = n := by omega
    subst e
    unfold E_markUnlike_L11
    rw [if_neg (by omega), hc]
    exact ⟨s, rfl, hF, hE, hz⟩
  | succ r ih =>
    intro m s c x h1 h0 h2 hF hE hc hz
    cases m with
    | zero => omega
    | succ m =>
    have e26 : s 26 = σ 26 := hF 26 (by decide)
    have e27 : s 27 = σ 27 := hF 27 (by decide)
    have cs := cn_step (fun y => σ 26 y - σ 27 y) h0
    have cr := cn_rng (fun y => σ 26 y - σ 27 y) x.toNat
    by_cases q : σ 26 x = σ 27 x
    · rw [if_pos (by omega)] at cs
      obtain ⟨s2, x1, x2⟩ := ih m s c (x + 1) (by omega) (by omega) (by omega) hF hE (by omega) (fun z z0 zn => by
        rw [hz z z0 zn]
        exact ⟨fun ⟨y, y0, y1, y2, y3⟩ => ⟨y, y0, by omega, y2, y3⟩, fun ⟨y, y0, y1, y2, y3⟩ => ⟨y, y0, by
          have : y ≠ x := fun e => y2 (by rw [e]; exact q)
          omega, y2, y3⟩⟩)
      refine ⟨s2, ?_, x2⟩
      unfold E_markUnlike_L11
      simp (disch := omega) only [↓jn_e, ↓ite_y, ↓ite_n, ↓oadd_eq, ↓osub_eq, ↓omul_eq, ↓odiv_eq, ↓orem_eq, ↓rd_eq, ↓wr_eq, ↓gf_e, ↓pf_e, ↓bnd_e, ↓bndp_e, ↓opure_e, ↓oif_t, ↓oif_f, ↓E_isPlace_y, ↓E_isPlace_n, ↓E_isNumber_y, ↓E_isNumber_n, ↓M_isPlace_y, ↓M_isPlace_n, ↓M_isNumber_y, ↓M_isNumber_n, ↓M_in_y, ↓M_in_n, ↓us_ne, e26, e27]
      exact x1
    · rw [if_neg (by omega)] at cs
      obtain ⟨s1, e1, f1, b1, z1⟩ := mark_ex (i := x) (by omega) hE
      obtain ⟨s2, x1, x2⟩ := ih m s1 (c + 1) (x + 1) (by omega) (by omega) (by omega) (hF.tr f1) b1 (by omega) (fun z z0 zn => by
        rw [z1 z z0 zn, hz z z0 zn]
        constructor
        · rintro (⟨y, y0, y1, y2, y3⟩ | w)
          · exact ⟨y, y0, by omega, y2, y3⟩
          · exact ⟨x, h0, by omega, q, w⟩
        · rintro ⟨y, y0, y1, y2, y3⟩
          by_cases e : y = x
          · right; rw [e] at y3; exact y3
          · exact Or.inl ⟨y, y0, by omega, y2, y3⟩)
      refine ⟨s2, ?_, x2⟩
      unfold E_markUnlike_L11
      simp (disch := omega) only [↓jn_e, ↓ite_y, ↓ite_n, ↓oadd_eq, ↓osub_eq, ↓omul_eq, ↓odiv_eq, ↓orem_eq, ↓rd_eq, ↓wr_eq, ↓gf_e, ↓pf_e, ↓bnd_e, ↓bndp_e, ↓opure_e, ↓oif_t, ↓oif_f, ↓E_isPlace_y, ↓E_isPlace_n, ↓E_isNumber_y, ↓E_isNumber_n, ↓M_isPlace_y, ↓M_isPlace_n, ↓M_isNumber_y, ↓M_isNumber_n, ↓M_in_y, ↓M_in_n, ↓us_ne, e26, e27, ↓e1]
      exact x1
theorem markUnlike_ex {n : Int} (hn : 0 ≤ n ∧ n ≤ 255) (σ : St) : ∃ s2, E_markUnlike σ n = some (cn (fun y => σ 26 y - σ 27 y) n.toNat, s2) ∧ Fr [23, 44] σ s2 ∧ Eb s2 ∧ (∀ z, 0 ≤ z → z < 255 → (s2 23 z = 1 ↔ ∃ y, 0 ≤ y ∧ y < n ∧ σ 26 y ≠ σ 27 y ∧ onW y z)) := by
  obtain ⟨sa, ea, fa, ba, za⟩ := waysClear_ex σ
  obtain ⟨s2, e2, f2, b2, z2⟩ := markUnlike_loop hn sa n.toNat FU sa 0 0 (by omega) (by omega) (by unfold FU; omega) (Fr.rf _ _) ba rfl (fun z z0 zn => ⟨fun q => by rw [za z z0 zn] at q; omega, fun ⟨y, y0, y1, _⟩ => by omega⟩)
  rw [fa 26 (by decide), fa 27 (by decide)] at e2 z2
  refine ⟨s2, ?_, fa.tr f2, b2, z2⟩
  unfold E_markUnlike
  rw [ea, bnd_eq]; exact e2
theorem readBoth_ex {σ : St} {i j : Int} (hi : 0 ≤ i ∧ i < 6) (hj : 0 ≤ j ∧ j < 6) (ni : 0 ≤ σ 25 i ∧ σ 25 i ≤ 255) (nj : 0 ≤ σ 25 j ∧ σ 25 j ≤ 255) : ∃ s, E_readBoth σ i j = some (0, s) ∧ Fr [12, 26, 27] σ s ∧ (∀ x, 0 ≤ x → x < σ 25 i → s 26 x = nu σ (sl σ (σ 24 i) x)) ∧ (∀ x, 0 ≤ x → x < σ 25 j → s 27 x = nu σ (sl σ (σ 24 j) x)) := by
  obtain ⟨sa, ea, fa, ga⟩ := read_one_eq σ (σ 24 i) (σ 25 i) ni
  have e24 : sa 24 = σ 24 := fa 24 (by decide)
  have e25 : sa 25 = σ 25 := fa 25 (by decide)
  obtain ⟨sb, eb, fb, gb⟩ := read_other_eq sa (sa 24 j) (sa 25 j) (by rw [e25]; exact nj)
  refine ⟨sb, ?_, (fa.mono (by decide)).tr (fb.mono (by decide)), fun x x0 xn => ?_, fun x x0 xn => ?_⟩
  · unfold E_readBoth
    simp (disch := omega) only [↓jn_e, ↓ite_y, ↓ite_n, ↓oadd_eq, ↓osub_eq, ↓omul_eq, ↓odiv_eq, ↓orem_eq, ↓rd_eq, ↓wr_eq, ↓gf_e, ↓pf_e, ↓bnd_e, ↓bndp_e, ↓opure_e, ↓oif_t, ↓oif_f, ↓E_isPlace_y, ↓E_isPlace_n, ↓E_isNumber_y, ↓E_isNumber_n, ↓M_isPlace_y, ↓M_isPlace_n, ↓M_isNumber_y, ↓M_isNumber_n, ↓M_in_y, ↓M_in_n, ↓us_ne, ↓ea, ↓eb]
  · rw [fb 26 (by decide)]; exact ga x x0 xn
  · rw [gb x x0 (by rw [e25]; exact xn), e24, sl_of (fa 8 (by decide)) (fa 9 (by decide)), nu_of (fa 7 (by decide))]
theorem renew_ex {k : Nat} {σ τ : St} {i p : Int} (hS : SS k σ τ) (hk : k < 512) (hi : 0 ≤ i ∧ i < 6) (hp : 0 ≤ p ∧ p < 6) : ∃ τ1 τ2, M_asks τ i = some (0, τ1) ∧ M_begins τ1 = some (0, τ2) ∧ Fr [1, 2, 3, 34] τ τ2 ∧ Rws [6, 7] τ τ2 ∧ τ2 3 7 = σ 25 i ∧ (∀ x, 0 ≤ x → x < σ 25 i → τ2 1 (256 * 7 + x) = τ 1 (256 * i + x) ∧ τ2 1 (256 * 6 + x) = τ 1 (256 * i + x)) ∧
    (∀ τ3, Fr [1, 6, 7, 35, 36] τ2 τ3 → (∀ q, ¬ (256 * 7 ≤ q ∧ q < 256 * 7 + 256) → τ3 1 q = τ2 1 q) → Mk σ τ3 (σ 25 i) → (∀ x, 0 ≤ x → x < σ 25 i → σ 26 x = τ3 1 (256 * 7 + x) ∧ -999 ≤ τ3 1 (256 * 7 + x) ∧ τ3 1 (256 * 7 + x) ≤ 999) →
      (∀ x, 0 ≤ x → x < σ 25 i → σ 23 x = 0 → τ3 1 (256 * 7 + x) = τ 1 (256 * i + x)) → ∃ r σ4 τ4 τ5, E_renew σ i p = some (r, σ4) ∧ M_renews τ3 = some (0, τ4) ∧ M_ends τ4 p = some (r, τ5) ∧ SS (k + 1) σ4 τ5) ∧
    ((∀ x, 0 ≤ x → x < σ 25 i → σ 23 x = 0) → ∃ r σ4 τ5, E_renew σ i p = some (r, σ4) ∧ M_ends τ2 p = some (r, τ5) ∧ SS (k + 1) σ4 τ5) := by
  have hS0 := hS
  obtain ⟨⟨ρ, hW⟩, hT, hr, hnn, hm⟩ := hS
  have hmc := hm.c hk
  have hPi := hW.2.2 i hi.1 hi.2
  obtain ⟨σ1, ρ1, τ1, τ2, e1, e2, e3, hW1, hC, h6, h7, f1, g1, r1, m1, m2⟩ := open_ex hW hmc hi
  have q24 : σ1 24 = σ 24 := f1 24 (by decide)
  have q25 : σ1 25 = σ 25 := f1 25 (by decide)
  have q23 : σ1 23 = σ 23 := f1 23 (by decide)
  have q26 : σ1 26 = σ 26 := f1 26 (by decide)
  have qi : σ1 25 i = σ 25 i := by rw [q25]
  rw [qi] at h6 h7
  have row7 : ∀ x, 0 ≤ x → x < σ 25 i → τ2 1 (256 * 7 + x) = τ 1 (256 * i + x) ∧ τ2 1 (256 * 6 + x) = τ 1 (256 * i + x) := fun x x0 xn => by
    have a := (h7.num ⟨x0, xn⟩).1
    have b := (hW1.2.2 i hi.1 hi.2).num (x := x) ⟨x0, by omega⟩
    have c := r1.at (r := i) (x := x) (by simp; omega) (by have := h7.1; omega)
    have d := (h6.num ⟨x0, xn⟩).1
    rw [← a, ← d, b.1, c.1]
    exact ⟨rfl, rfl⟩
  have n0 := h7.1
  refine ⟨τ1, τ2, e2, e3, g1, r1, h7.2.1, row7, fun τ3 f3 hq hMk hrow hun => ?_, fun hz => ?_⟩
  · have t30 : τ3 30 0 = τ2 30 0 := by rw [f3 30 (by decide)]
    have r3 : Rws [7] τ2 τ3 := ⟨fun q hq2 => ⟨hq q (hq2 7 (by decide)), by rw [f3 2 (by decide)]⟩, fun p hp => by rw [f3 3 (by decide)]⟩
    have h63 := h6.rw r3 (by decide)
    obtain ⟨y, σ3, τ4, ρ3, e4, e5, hX, hI, r4⟩ := op_renew ((hC.mv t30).le (by omega)) h63 (by rw [f3 3 (by decide)]; exact h7.2.1) (by
      unfold Mk at *
      rw [q23]; exact hMk) (fun x x0 xn => by rw [q26]; exact hrow x x0 xn) (fun x x0 xn q => by
      rw [q23] at q
      rw [hun x x0 xn q, hq _ (by omega), (row7 x x0 xn).2]) (fun x x0 xn => by
      rw [f3 2 (by decide)]
      have a := h7.2.2.2 x x0 xn
      have b := h6.2.2.2 x x0 xn
      rw [vw1] at a b
      exact hW1.1.2.1 _ _ _ a.1 b.1)
    have hX' := hX.pre (τ := τ2) hW1.1 hW1.2.1 (f3.mono (by decide)) t30
    obtain ⟨σ4, τ5, e7, e8, hW4, f4, g4, k1, k2, k3⟩ := close_ex hW1 hX' (by omega) (r3.tr r4) (by decide) hI hp ⟨by rw [f1 32 (by decide)], m1, m2⟩ hmc.2
    have q3 : σ3 25 i = σ 25 i := by rw [hX.2.2.2.2.2.1 25 (by decide)]; exact qi
    rw [← q3] at e7
    rw [← qi] at e4
    refine ⟨σ4 32 0 - σ 32 0, σ4, τ4, τ5, ?_, e5, e8, hS0.fin hW4 ((f1.mono (by decide)).tr ((hX.2.2.2.2.2.1.mono (by decide)).tr (f4.mono (by decide)))) ((g1.mono (by decide)).tr ((f3.mono (by decide)).tr ((hX.2.2.2.2.2.2.1.mono (by decide)).tr (g4.mono (by decide))))) k1 ⟨k2, k3⟩⟩
    unfold E_renew
    simp (disch := omega) only [↓jn_e, ↓ite_y, ↓ite_n, ↓oadd_eq, ↓osub_eq, ↓omul_eq, ↓odiv_eq, ↓orem_eq, ↓rd_eq, ↓wr_eq, ↓gf_e, ↓pf_e, ↓bnd_e, ↓bndp_e, ↓opure_e, ↓oif_t, ↓oif_f, ↓E_isPlace_y, ↓E_isPlace_n, ↓E_isNumber_y, ↓E_isNumber_n, ↓M_isPlace_y, ↓M_isPlace_n, ↓M_isNumber_y, ↓M_isNumber_n, ↓M_in_y, ↓M_in_n, ↓us_ne, ↓e1, ↓e4, ↓e7]
  · obtain ⟨y, σ3, ρ3, e4, hX, hI⟩ := op_renew0 (hC.le (by omega)) h7 (fun x x0 xn => by rw [q23]; exact hz x x0 xn)
    obtain ⟨σ4, τ5, e7, e8, hW4, f4, g4, k1, k2, k3⟩ := close_ex (l := []) hW1 hX (by omega) (Rws.rf _ _) (by decide) hI hp ⟨by rw [f1 32 (by decide)], m1, m2⟩ hmc.2
    have q3 : σ3 25 i = σ 25 i := by rw [hX.2.2.2.2.2.1 25 (by decide)]; exact qi
    rw [← q3] at e7
    rw [← qi] at e4
    refine ⟨σ4 32 0 - σ 32 0, σ4, τ5, ?_, e8, hS0.fin hW4 ((f1.mono (by decide)).tr ((hX.2.2.2.2.2.1.mono (by decide)).tr (f4.mono (by decide)))) ((g1.mono (by decide)).tr (g4.mono (by decide))) k1 ⟨k2, k3⟩⟩
    unfold E_renew
    simp (disch := omega) only [↓jn_e, ↓ite_y, ↓ite_n, ↓oadd_eq, ↓osub_eq, ↓omul_eq, ↓odiv_eq, ↓orem_eq, ↓rd_eq, ↓wr_eq, ↓gf_e, ↓pf_e, ↓bnd_e, ↓bndp_e, ↓opure_e, ↓oif_t, ↓oif_f, ↓E_isPlace_y, ↓E_isPlace_n, ↓E_isNumber_y, ↓E_isNumber_n, ↓M_isPlace_y, ↓M_isPlace_n, ↓M_isNumber_y, ↓M_isNumber_n, ↓M_in_y, ↓M_in_n, ↓us_ne, ↓e1, ↓e4, ↓e7]

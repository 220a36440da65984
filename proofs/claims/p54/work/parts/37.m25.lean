-- MATH 25: E: nodes made by index, from the last one on
theorem sl_sub2 (σ : St) (t x : Int) (h0 : 0 ≤ x) (h1 : x < 255) : sl σ t (x + st x) = lf σ (sl σ t x) ∧ sl σ t (x + 2 * st x) = rt σ (sl σ t x) := by
  by_cases hx : x = 0
  · subst hx
    have e : st 0 = 1 := by decide
    rw [e, sl_0 σ t (Int.le_refl 0), sl_odd σ t (j := 0) (by omega) (by omega), sl_even σ t (j := 0) (by omega) (by omega), sl_0 _ _ (Int.le_refl 0), sl_0 _ _ (Int.le_refl 0)]
    exact ⟨rfl, rfl⟩
  · obtain ⟨j, hj0, hj1, hj⟩ := half x (by omega)
    rcases hj with rfl | rfl
    · have ih := sl_sub σ (lf σ t) j hj0 (by omega)
      rw [st_odd (by omega), sl_odd σ t (x := 2 * j + 1) hj0 rfl]
      have hp := st_pos j
      rw [sl_odd σ t (j := j + st j) (by omega) (by omega), sl_odd σ t (j := j + 2 * st j) (by omega) (by omega)]
      exact ih
    · have ih := sl_sub σ (rt σ t) j hj0 (by omega)
      rw [st_even (by omega), sl_even σ t (x := 2 * j + 2) hj0 rfl]
      have hp := st_pos j
      rw [sl_even σ t (j := j + st j) (by omega) (by omega), sl_even σ t (j := j + 2 * st j) (by omega) (by omega)]
      exact ih
theorem sl_big (σ : St) : ∀ (d : Nat) (t : Int), (∀ w, p2 d - 1 ≤ w → w < 2 * p2 d - 1 → lf σ (sl σ t w) = 0 ∧ rt σ (sl σ t w) = 0) → ∀ z, 2 * p2 d - 1 ≤ z → sl σ t z = 0 := by
  intro d
  induction d with
  | zero =>
    intro t h z hz
    unfold p2 at h hz
    have h0 := h 0 (by omega) (by omega)
    rw [sl_0 _ _ (Int.le_refl 0)] at h0
    obtain ⟨j, hj0, hj1, hj⟩ := half z (by omega)
    rcases hj with rfl | rfl
    · rw [sl_odd σ t hj0 rfl, h0.1, sl_zero]
    · rw [sl_even σ t hj0 rfl, h0.2, sl_zero]
  | succ d ih =>
    intro t h z hz
    unfold p2 at h hz
    have hp := p2_pos d
    obtain ⟨j, hj0, hj1, hj⟩ := half z (by omega)
    rcases hj with rfl | rfl
    · rw [sl_odd σ t hj0 rfl]
      refine ih (lf σ t) (fun w w0 w1 => ?_) j (by omega)
      have := h (2 * w + 1) (by omega) (by omega)
      rw [sl_odd σ t (by omega) rfl] at this
      exact this
    · rw [sl_even σ t hj0 rfl]
      refine ih (rt σ t) (fun w w0 w1 => ?_) j (by omega)
      have := h (2 * w + 2) (by omega) (by omega)
      rw [sl_even σ t (by omega) rfl] at this
      exact this
/-- what stands so many strides behind an index -/
def ch (s : St) (m z n : Int) : Int := if z + m * st z < n then s 12 (z + m * st z) else 0
def LB (f u : Int → Int) (a b n : Int) (σ : St) (x : Int) (s : St) : Prop :=
  Alloc s ∧ Ext σ s ∧ Fr [7, 8, 9, 12, 30, 31, 32] σ s ∧ s 31 0 + s 32 0 = σ 31 0 + σ 32 0 ∧ s 32 0 + cn f (x + 1).toNat = σ 32 0 + cn f n.toNat ∧
  (∀ z, 0 ≤ z → z < n → (z ≤ x ∨ f z = 0) → s 12 z = σ 12 z) ∧
  (∀ z, x < z → z < n → ¬ f z = 0 → used s (s 12 z) ∧ ¬ used σ (s 12 z) ∧ s 7 (s 12 z) = u z ∧ s 8 (s 12 z) = ch s a z n ∧ s 9 (s 12 z) = ch s b z n) ∧
  (∀ z y, x < z → z < y → y < n → ¬ f z = 0 → ¬ f y = 0 → s 12 z ≠ s 12 y)
theorem below_eq {s : St} {m z n : Int} (hm : m = 1 ∨ m = 2) (hz : 0 ≤ z ∧ z < n) (hn : n ≤ 255) : Pool_below s z m n = some (ch s m z n) := by
  have hs := st_pos z
  unfold Pool_below ch
  rw [Shape_stride_eq (by omega), bndp_eq]
  rcases hm with e | e
  · subst e
    rw [omul_eq (by omega), oadd_eq (by omega)]
    by_cases q : z + 1 * st z < n
    · rw [if_pos q, if_pos q, rd_eq (by omega)]
    · rw [if_neg q, if_neg q]
  · subst e
    rw [omul_eq (by omega), oadd_eq (by omega)]
    by_cases q : z + 2 * st z < n
    · rw [if_pos q, if_pos q, rd_eq (by omega)]
    · rw [if_neg q, if_neg q]
theorem LB.skip {f u : Int → Int} {a b n x : Int} {σ s : St} (h : LB f u a b n σ x s) (hx : 0 ≤ x ∧ x < n) (hf : f x = 0) : LB f u a b n σ (x - 1) s := by
  obtain ⟨h1, h2, h3, h4, h5, h6, h7, h8⟩ := h
  have cs := cn_step f hx.1
  rw [if_pos hf] at cs
  have e1 : x - 1 + 1 = x := by omega
  refine ⟨h1, h2, h3, h4, by rw [e1]; omega, fun z z0 zn q => h6 z z0 zn (q.elim (fun w => Or.inl (by omega)) Or.inr), fun z zx zn q => h7 z ?_ zn q, fun z y zx zy yn q r => h8 z y ?_ zy yn q r⟩
  · have : z ≠ x := fun e => q (by rw [e]; exact hf)
    omega
  · have : z ≠ x := fun e => q (by rw [e]; exact hf)
    omega
theorem LB.step {f u : Int → Int} {a b n x : Int} {σ s : St} (h : LB f u a b n σ x s) (hx : 0 ≤ x ∧ x < n) (hn : n ≤ 255) (ha : a = 1 ∨ a = 2) (hb : b = 1 ∨ b = 2) (hf : ¬ f x = 0) (hfr : 256 ≤ σ 31 0) (hm : 0 ≤ σ 32 0 ∧ σ 32 0 + 300 ≤ 2147483000) {l r : Int} (hl : l = ch s a x n) (hr : r = ch s b x n) :
    ∃ y s1, Pool_make s (u x) l r = some (y, s1) ∧ LB f u a b n σ (x - 1) (us s1 12 x y) := by
  obtain ⟨h1, h2, h3, h4, h5, h6, h7, h8⟩ := h
  have cs := cn_step f hx.1
  rw [if_neg hf] at cs
  have c1 := cn_rng f (x + 1).toNat
  have c2 := cn_rng f n.toNat
  have c3 := cn_rng f x.toNat
  have c4 : cn f (x + 1).toNat ≤ cn f n.toNat := by
    obtain ⟨e, he⟩ : ∃ e : Nat, n.toNat = (x + 1).toNat + e := ⟨n.toNat - (x + 1).toNat, by omega⟩
    rw [he]
    clear he c2 h5
    induction e with
    | zero => exact Int.le_refl _
    | succ e ih =>
      show _ ≤ cn f ((x + 1).toNat + e) + _
      split <;> omega
  obtain ⟨y, s1, e1, hM⟩ := make_eq s (u x) l r h1 (by omega) (by omega)
  have hE := hM.ext
  obtain ⟨m1, m2, m3, m4, m5, m6, m7, m8, m9, m10⟩ := hM
  have s12 : s1 12 = s 12 := m9 12 (by decide)
  have eu : ∀ z, z ≠ x → us s1 12 x y 12 z = s 12 z := fun z hz => by rw [us_ni hz, s12]
  have ec : ∀ m z, (m = 1 ∨ m = 2) → x ≤ z → ch (us s1 12 x y) m z n = ch s m z n := fun m z hm hz => by
    have hs := st_pos z
    unfold ch
    rcases hm with rfl | rfl
    · rw [eu _ (by omega)]
    · rw [eu _ (by omega)]
  have e0 : x - 1 + 1 = x := by omega
  have uE : ∀ p, used (us s1 12 x y) p ↔ used s1 p := fun p => by
    unfold used
    rw [us_ne (by decide), us_ne (by decide)]
  refine ⟨y, s1, e1, m10.es (us_f (by decide)) (us_f (by decide)) (us_f (by decide)), fun p hp => ?_, (h3.tr (m9.mono (by decide))).us (by decide), ?_, ?_, fun z z0 zn q => ?_, fun z zx zn q => ?_, fun z w zx zy yn q r => ?_⟩
  · have := (h2.tr hE) p hp
    rw [uE, us_ne (by decide), us_ne (by decide), us_ne (by decide)]
    exact this
  · rw [us_ne (by decide), us_ne (by decide)]; omega
  · rw [us_ne (by decide), e0]; omega
  · have hz : z ≠ x := fun e => by
      rcases q with w | w
      · omega
      · exact hf (by rw [← e]; exact w)
    rw [eu z hz]
    exact h6 z z0 zn (q.elim (fun w => Or.inl (by omega)) Or.inr)
  · by_cases e : z = x
    · subst e
      rw [us_eq, uE, us_ne (by decide), us_ne (by decide), us_ne (by decide), ec a z ha (Int.le_refl z), ec b z hb (Int.le_refl z), m4, m5, m6]
      exact ⟨m2, fun hu => m1 (h2 y hu).1, if_pos rfl, (if_pos rfl).trans hl, (if_pos rfl).trans hr⟩
    · have w := h7 z (by omega) zn q
      rw [eu z e, uE, us_ne (by decide), us_ne (by decide), us_ne (by decide), ec a z ha (by omega), ec b z hb (by omega)]
      have w2 := hE _ w.1
      exact ⟨w2.1, w.2.1, w2.2.1.trans w.2.2.1, w2.2.2.1.trans w.2.2.2.1, w2.2.2.2.trans w.2.2.2.2⟩
  · by_cases e : z = x
    · subst e
      rw [us_eq, eu w (by omega)]
      intro e9
      exact m1 (e9 ▸ (h7 w (by omega) yn r).1)
    · rw [eu z e, eu w (by omega)]
      exact h8 z w (by omega) zy yn q r
theorem LB.start {f u : Int → Int} {a b n : Int} {σ : St} (hA : Alloc σ) (hn : 0 ≤ n) : LB f u a b n σ (n - 1) σ :=
  ⟨hA, Ext.rf σ, Fr.rf _ _, rfl, by rw [show n - 1 + 1 = n by omega], fun _ _ _ _ => rfl, fun z zx zn => by omega, fun z y zx zy yn => by omega⟩
/-- the tree that stands then; g: where an index of it lies -/
theorem LB.done {f u g : Int → Int} {a b n t : Int} {σ s : St} (h : LB f u a b n σ (-1) s) (hn : 1 ≤ n ∧ n ≤ 255) (hT : TW σ t n ∨ ∀ z, 0 ≤ z → z < n → ¬ f z = 0) (hcl : ∀ z, 0 < z → z < n → ¬ f z = 0 → ¬ f (up z) = 0) (hg0 : g 0 = 0)
    (hg : ∀ w, 0 ≤ w → w < 255 → g (w + st w) = g w + a * st (g w) ∧ g (w + 2 * st w) = g w + b * st (g w)) (hgn : ∀ w, 0 ≤ w → w < 511 → (0 ≤ g w ∧ (g w < n ↔ w < n))) (hun : ∀ z, 0 ≤ z → z < n → f z = 0 → σ 12 z = sl σ t z ∧ a = 1 ∧ b = 2) (hid : (∀ z, g z = z) ∨ ∀ z, 0 ≤ z → z < n → ¬ f z = 0) :
    TW s (s 12 0) n ∧ ∀ z, 0 ≤ z → z < n → sl s (s 12 0) z = s 12 (g z) := by
  obtain ⟨h1, h2, h3, h4, h5, h6, h7, h8⟩ := h
  -- children of a node below an index
  have kid : ∀ w, 0 ≤ w → w < n → sl s (s 12 0) w = s 12 (g w) → (lf s (s 12 (g w)) = (if w + st w < n then s 12 (g (w + st w)) else 0)) ∧ (rt s (s 12 (g w)) = (if w + 2 * st w < n then s 12 (g (w + 2 * st w)) else 0)) := fun w w0 wn hw => by
    have gw := hgn w w0 (by omega)
    have gn := gw.2.mpr wn
    have sw := st_le (x := w) (by omega)
    have spw := st_pos w
    have g1 := hg w w0 (by omega)
    have n1 := hgn (w + st w) (by omega) (by omega)
    have n2 := hgn (w + 2 * st w) (by omega) (by omega)
    by_cases q : f (g w) = 0
    · have gid : ∀ z, g z = z := by
        rcases hid with e | e
        · exact e
        · exact absurd q (e _ gw.1 gn)
      have hT' : TW σ t n := by
        rcases hT with e | e
        · exact e
        · exact absurd q (e _ gw.1 gn)
      rw [gid] at q ⊢
      have c := hun w w0 wn q
      have es : s 12 w = sl σ t w := (h6 w w0 wn (Or.inr q)).trans c.1
      have hu := hT'.1 w w0 wn
      have x := h2 _ hu
      have sb := sl_sub2 σ t w w0 (by omega)
      rw [es, lf_used x.1, rt_used x.1, x.2.2.1, x.2.2.2, ← lf_used hu, ← rt_used hu, ← sb.1, ← sb.2, gid, gid]
      constructor
      · by_cases c2 : w + st w < n
        · have fz : f (w + st w) = 0 := Classical.byContradiction (fun e => by
            have := hcl _ (by omega) c2 e
            rw [← up_uniq (x := w + st w) (y := w) (by omega) (by omega) (Or.inl rfl)] at this
            exact this q)
          rw [if_pos c2, h6 _ (by omega) c2 (Or.inr fz), (hun _ (by omega) c2 fz).1]
        · rw [if_neg c2]; exact hT'.2 _ (by omega) (by omega)
      · by_cases c2 : w + 2 * st w < n
        · have fz : f (w + 2 * st w) = 0 := Classical.byContradiction (fun e => by
            have := hcl _ (by omega) c2 e
            rw [← up_uniq (x := w + 2 * st w) (y := w) (by omega) (by omega) (Or.inr rfl)] at this
            exact this q)
          rw [if_pos c2, h6 _ (by omega) c2 (Or.inr fz), (hun _ (by omega) c2 fz).1]
        · rw [if_neg c2]; exact hT'.2 _ (by omega) (by omega)
    · have x := h7 (g w) (by omega) gn q
      rw [lf_used x.1, rt_used x.1, x.2.2.2.1, x.2.2.2.2]
      unfold ch
      rw [← g1.1, ← g1.2]
      constructor
      · by_cases c2 : w + st w < n
        · rw [if_pos c2, if_pos (n1.2.mpr c2)]
        · rw [if_neg c2, if_neg (fun e => c2 (n1.2.mp e))]
      · by_cases c2 : w + 2 * st w < n
        · rw [if_pos c2, if_pos (n2.2.mpr c2)]
        · rw [if_neg c2, if_neg (fun e => c2 (n2.2.mp e))]
  have all : ∀ (m : Nat) (z : Int), 0 ≤ z → z < m → z < 255 → (z < n → sl s (s 12 0) z = s 12 (g z)) ∧ (n ≤ z → sl s (s 12 0) z = 0) := fun m => by
    induction m with
    | zero => intro z h0 hz; exfalso; omega
    | succ m ih =>
      intro z z0 zm z5
      by_cases e : z = 0
      · subst e
        exact ⟨fun _ => by rw [sl_0 _ _ (Int.le_refl 0), hg0], fun q => by omega⟩
      · have hu := up_spec (x := z) (by omega)
        have ihu := ih (up z) hu.1 (by omega) (by omega)
        have sb := sl_sub2 s (s 12 0) (up z) hu.1 (by omega)
        by_cases un : up z < n
        · have hs := ihu.1 un
          have kd := kid (up z) hu.1 un hs
          rcases hu.2.2.2 with e2 | e2
          · rw [← e2] at sb kd
            have e3 : sl s (s 12 0) z = (if z < n then s 12 (g z) else 0) := by rw [sb.1, hs]; exact kd.1
            exact ⟨fun q => by rw [e3, if_pos q], fun q => by rw [e3, if_neg (by omega)]⟩
          · rw [← e2] at sb kd
            have e3 : sl s (s 12 0) z = (if z < n then s 12 (g z) else 0) := by rw [sb.2, hs]; exact kd.2
            exact ⟨fun q => by rw [e3, if_pos q], fun q => by rw [e3, if_neg (by omega)]⟩
        · have hs := ihu.2 (by omega)
          refine ⟨fun q => by omega, fun _ => ?_⟩
          rcases hu.2.2.2 with e2 | e2
          · rw [← e2] at sb
            rw [sb.1, hs, lf_zero]
          · rw [← e2] at sb
            rw [sb.2, hs, rt_zero]
  have uall : ∀ z, 0 ≤ z → z < n → used s (s 12 (g z)) := fun z z0 zn => by
    have gw := hgn z z0 (by omega)
    by_cases q : f (g z) = 0
    · have c := hun _ gw.1 (gw.2.mpr zn) q
      have hT' : TW σ t n := by
        rcases hT with e | e
        · exact e
        · exact absurd q (e _ gw.1 (gw.2.mpr zn))
      rw [h6 _ gw.1 (gw.2.mpr zn) (Or.inr q), c.1]
      exact (h2 _ (hT'.1 _ gw.1 (gw.2.mpr zn))).1
    · exact (h7 _ (by omega) (gw.2.mpr zn) q).1
  refine ⟨⟨fun z z0 zn => ?_, fun z z0 zn => ?_⟩, fun z z0 zn => (all 255 z z0 (by omega) (by omega)).1 zn⟩
  · rw [(all 255 z z0 (by omega) (by omega)).1 zn]; exact uall z z0 zn
  · by_cases z5 : z < 255
    · exact (all 255 z z0 (by omega) z5).2 zn
    · refine sl_big s 7 (s 12 0) (fun w w0 w1 => ?_) z (by have : p2 7 = 128 := rfl; omega)
      have e7 : p2 7 = 128 := rfl
      rw [e7] at w0 w1
      by_cases wn : w < n
      · have hs := (all 255 w (by omega) (by omega) (by omega)).1 wn
        have kd := kid w (by omega) wn hs
        have sb : st w = 128 := st_big (by omega)
        rw [sb] at kd
        rw [hs, kd.1, kd.2, if_neg (by omega), if_neg (by omega)]
        exact ⟨rfl, rfl⟩
      · rw [(all 255 w (by omega) (by omega) (by omega)).2 (by omega), lf_zero, rt_zero]
        exact ⟨rfl, rfl⟩

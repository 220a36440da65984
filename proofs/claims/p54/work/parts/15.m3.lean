-- MATH 3: trees that stand, and new nodes upon them
def TW (σ : St) (t n : Int) : Prop := (∀ x, 0 ≤ x → x < n → used σ (sl σ t x)) ∧ (∀ x, 0 ≤ x → n ≤ x → sl σ t x = 0)
def Ext (σ τ : St) : Prop := ∀ a, used σ a → used τ a ∧ τ 7 a = σ 7 a ∧ τ 8 a = σ 8 a ∧ τ 9 a = σ 9 a
theorem Ext.rf (σ : St) : Ext σ σ := fun _ h => ⟨h, rfl, rfl, rfl⟩
theorem Ext.tr {σ τ υ : St} (h : Ext σ τ) (h2 : Ext τ υ) : Ext σ υ := fun a ha => by
  obtain ⟨q1, q2, q3, q4⟩ := h a ha
  obtain ⟨r1, r2, r3, r4⟩ := h2 a q1
  exact ⟨r1, r2.trans q2, r3.trans q3, r4.trans q4⟩
theorem lf_used {σ : St} {t : Int} (h : used σ t) : lf σ t = σ 8 t := if_pos ⟨by have := h.1; omega, h.2.1⟩
theorem rt_used {σ : St} {t : Int} (h : used σ t) : rt σ t = σ 9 t := if_pos ⟨by have := h.1; omega, h.2.1⟩
theorem nu_used {σ : St} {t : Int} (h : used σ t) : nu σ t = σ 7 t := if_pos ⟨by have := h.1; omega, h.2.1⟩
theorem nu_ext {σ τ : St} {a : Int} (h : used σ a) (hE : Ext σ τ) : nu τ a = nu σ a := by
  rw [nu_used h, nu_used (hE a h).1, (hE a h).2.1]
theorem lf_zero (σ : St) : lf σ 0 = 0 := by unfold lf; rw [if_neg (by omega)]
theorem rt_zero (σ : St) : rt σ 0 = 0 := by unfold rt; rw [if_neg (by omega)]
theorem nu_zero (σ : St) : nu σ 0 = 0 := by unfold nu; rw [if_neg (by omega)]
theorem sl_zero (σ : St) (x : Int) : sl σ 0 x = 0 := by
  by_cases hx : x ≤ 0
  · exact sl_0 _ _ hx
  · obtain ⟨j, hj0, hj1, hj⟩ := half x (by omega)
    rcases hj with rfl | rfl
    · rw [sl_odd σ 0 hj0 rfl, lf_zero]; exact sl_zero σ j
    · rw [sl_even σ 0 hj0 rfl, rt_zero]; exact sl_zero σ j
termination_by x.toNat
decreasing_by all_goals omega
theorem TW.lf {σ : St} {t n : Int} (h : TW σ t n) (hn : 0 ≤ n) : TW σ (lf σ t) (n / 2) :=
  ⟨fun x h0 h1 => by rw [← sl_odd σ t h0 rfl]; exact h.1 _ (by omega) (by omega), fun x h0 h1 => by rw [← sl_odd σ t h0 rfl]; exact h.2 _ (by omega) (by omega)⟩
theorem TW.rt {σ : St} {t n : Int} (h : TW σ t n) (hn : 1 ≤ n) : TW σ (rt σ t) ((n - 1) / 2) :=
  ⟨fun x h0 h1 => by rw [← sl_even σ t h0 rfl]; exact h.1 _ (by omega) (by omega), fun x h0 h1 => by rw [← sl_even σ t h0 rfl]; exact h.2 _ (by omega) (by omega)⟩
theorem TW.empty {σ : St} {t : Int} (h : TW σ t 0) : t = 0 := by
  have := h.2 0 (by omega) (by omega)
  rw [sl_0 _ _ (Int.le_refl 0)] at this
  exact this
theorem TW.zero (σ : St) : TW σ 0 0 := ⟨fun x h0 h1 => by omega, fun x _ _ => sl_zero σ x⟩
theorem TW.root {σ : St} {t n : Int} (h : TW σ t n) (hn : 1 ≤ n) : used σ t := by
  have := h.1 0 (by omega) (by omega)
  rw [sl_0 _ _ (Int.le_refl 0)] at this
  exact this
theorem sl_ext {σ τ : St} (hE : Ext σ τ) (t n x : Int) (h : TW σ t n) (hn : 0 ≤ n) : sl τ t x = sl σ t x := by
  by_cases hx : x ≤ 0
  · rw [sl_0 _ _ hx, sl_0 _ _ hx]
  · by_cases hn0 : n = 0
    · subst hn0
      rw [h.empty, sl_zero, sl_zero]
    · have hu := h.root (by omega)
      obtain ⟨q1, q2, q3, q4⟩ := hE t hu
      obtain ⟨j, hj0, hj1, hj⟩ := half x (by omega)
      rcases hj with rfl | rfl
      · rw [sl_odd τ t hj0 rfl, sl_odd σ t hj0 rfl, lf_used q1, q3, ← lf_used hu]
        exact sl_ext hE _ _ j (h.lf hn) (by omega)
      · rw [sl_even τ t hj0 rfl, sl_even σ t hj0 rfl, rt_used q1, q4, ← rt_used hu]
        exact sl_ext hE _ _ j (h.rt (by omega)) (by omega)
termination_by x.toNat
decreasing_by all_goals omega
theorem TW.ext {σ τ : St} {t n : Int} (h : TW σ t n) (hE : Ext σ τ) (hn : 0 ≤ n) : TW τ t n :=
  ⟨fun x h0 h1 => by rw [sl_ext hE t n x h hn]; exact (hE _ (h.1 x h0 h1)).1, fun x h0 h1 => by rw [sl_ext hE t n x h hn]; exact h.2 x h0 h1⟩
theorem Made.ext {σ τ : St} {y v l r : Int} (h : Made σ τ y v l r) : Ext σ τ := by
  obtain ⟨h1, h2, h3, h4, h5, h6, -⟩ := h
  intro a ha
  have hay : a ≠ y := fun e => h1 (e ▸ ha)
  refine ⟨(h3 a).mpr (Or.inl ha), ?_, ?_, ?_⟩
  · rw [h4]; exact if_neg hay
  · rw [h5]; exact if_neg hay
  · rw [h6]; exact if_neg hay
theorem Made.node {σ τ : St} {y v l r a b : Int} (h : Made σ τ y v l r) (hl : TW σ l a) (hr : TW σ r b) (hb : 0 ≤ b) (hab : a = b ∨ a = b + 1) :
    TW τ y (a + b + 1) ∧ (∀ j, 0 ≤ j → sl τ y (2 * j + 1) = sl σ l j) ∧ (∀ j, 0 ≤ j → sl τ y (2 * j + 2) = sl σ r j) ∧ nu τ y = v := by
  have hE := h.ext
  obtain ⟨h1, h2, h3, h4, h5, h6, -⟩ := h
  have e1 : lf τ y = l := by rw [lf_used h2, h5]; exact if_pos rfl
  have e2 : rt τ y = r := by rw [rt_used h2, h6]; exact if_pos rfl
  have o : ∀ j, 0 ≤ j → sl τ y (2 * j + 1) = sl σ l j := fun j hj => by rw [sl_odd τ y hj rfl, e1]; exact sl_ext hE l a j hl (by omega)
  have ev : ∀ j, 0 ≤ j → sl τ y (2 * j + 2) = sl σ r j := fun j hj => by rw [sl_even τ y hj rfl, e2]; exact sl_ext hE r b j hr hb
  refine ⟨⟨fun x h0 hx => ?_, fun x h0 hx => ?_⟩, o, ev, by rw [nu_used h2, h4]; exact if_pos rfl⟩
  · by_cases hx0 : x = 0
    · rw [hx0, sl_0 _ _ (Int.le_refl 0)]; exact h2
    · obtain ⟨j, hj0, hj1, hj⟩ := half x (by omega)
      rcases hj with rfl | rfl
      · rw [o j hj0]; exact (hE _ (hl.1 j hj0 (by omega))).1
      · rw [ev j hj0]; exact (hE _ (hr.1 j hj0 (by omega))).1
  · obtain ⟨j, hj0, hj1, hj⟩ := half x (by omega)
    rcases hj with rfl | rfl
    · rw [o j hj0]; exact hl.2 j hj0 (by omega)
    · rw [ev j hj0]; exact hr.2 j hj0 (by omega)

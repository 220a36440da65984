-- MATH 5: slots and names
def Bi (ρ : Int → Int → Prop) (σ τ : St) : Prop := (∀ a b, ρ a b → used σ a ∧ 1 ≤ b ∧ b ≤ τ 30 0) ∧ (∀ a b c, ρ a b → ρ a c → b = c) ∧ (∀ a b c, ρ a c → ρ b c → a = b)
def FE : List Nat := [7, 8, 9, 12, 30, 31, 32]
def FM : List Nat := [1, 2, 3, 6, 7, 30, 35, 36, 42]
def Cnt (σ τ σ' τ' : St) (d : Int) : Prop := σ' 32 0 - σ 32 0 = τ' 30 0 - τ 30 0 ∧ σ' 31 0 + σ' 32 0 = σ 31 0 + σ 32 0 ∧ 0 ≤ σ' 32 0 - σ 32 0 ∧ σ' 32 0 - σ 32 0 ≤ d
def Sx (ρ : Int → Int → Prop) (σ τ : St) (ρ' : Int → Int → Prop) (σ' τ' : St) (d : Int) : Prop :=
  (∀ a b, ρ a b → ρ' a b) ∧ (∀ a b, ρ' a b → ρ a b ∨ (¬ used σ a ∧ τ 30 0 < b)) ∧ Bi ρ' σ' τ' ∧ Alloc σ' ∧ Ext σ σ' ∧ Fr FE σ σ' ∧ Fr FM τ τ' ∧ Cnt σ τ σ' τ' d
theorem Bi.mono {ρ : Int → Int → Prop} {σ τ τ' : St} (h : Bi ρ σ τ) (h2 : τ 30 0 ≤ τ' 30 0) : Bi ρ σ τ' :=
  ⟨fun a b q => ⟨(h.1 a b q).1, (h.1 a b q).2.1, Int.le_trans (h.1 a b q).2.2 h2⟩, h.2⟩
theorem Sx.rf {ρ : Int → Int → Prop} {σ τ τ' : St} (h : Bi ρ σ τ) (hA : Alloc σ) (hF : Fr FM τ τ') (h3 : τ' 30 0 = τ 30 0) : Sx ρ σ τ ρ σ τ' 0 :=
  ⟨fun _ _ q => q, fun _ _ q => Or.inl q, h.mono (by omega), hA, Ext.rf σ, Fr.rf _ _, hF, by unfold Cnt; omega⟩
theorem Sx.tr {ρ ρ1 ρ2 : Int → Int → Prop} {σ τ σ1 τ1 σ2 τ2 : St} {d e : Int} (h : Sx ρ σ τ ρ1 σ1 τ1 d) (k : Sx ρ1 σ1 τ1 ρ2 σ2 τ2 e) : Sx ρ σ τ ρ2 σ2 τ2 (d + e) := by
  obtain ⟨a1, a2, a3, a4, a5, a6, a7, a8⟩ := h
  obtain ⟨b1, b2, b3, b4, b5, b6, b7, b8⟩ := k
  refine ⟨fun a b q => b1 a b (a1 a b q), fun a b q => ?_, b3, b4, a5.tr b5, a6.tr b6, a7.tr b7, ?_⟩
  · rcases b2 a b q with q1 | ⟨q1, q2⟩
    · exact a2 a b q1
    · refine Or.inr ⟨fun hu => q1 (a5 a hu).1, ?_⟩
      unfold Cnt at a8; omega
  · unfold Cnt at *; omega
theorem Sx.le {ρ ρ1 : Int → Int → Prop} {σ τ σ1 τ1 : St} {d e : Int} (h : Sx ρ σ τ ρ1 σ1 τ1 d) (k : d ≤ e) : Sx ρ σ τ ρ1 σ1 τ1 e := by
  obtain ⟨a1, a2, a3, a4, a5, a6, a7, a8⟩ := h
  exact ⟨a1, a2, a3, a4, a5, a6, a7, by unfold Cnt at *; omega⟩
theorem Sx.late {ρ ρ1 : Int → Int → Prop} {σ τ τ1 σ1 τ2 σ2 : St} {d y v l r : Int} (hB : Bi ρ σ τ) (h : Sx ρ σ τ1 ρ1 σ1 τ2 d) (h1 : τ1 30 0 = τ 30 0 + 1) (h0 : 0 ≤ τ 30 0) (hF : Fr FM τ τ1) (hM : Made σ1 σ2 y v l r) :
    Sx ρ σ τ (fun a b => ρ1 a b ∨ (a = y ∧ b = τ1 30 0)) σ2 τ2 (d + 1) := by
  obtain ⟨a1, a2, a3, a4, a5, a6, a7, a8⟩ := h
  have hE := hM.ext
  obtain ⟨m1, m2, m3, m4, m5, m6, m7, m8, m9, m10⟩ := hM
  have nb : ∀ a, ¬ ρ1 a (τ1 30 0) := fun a q => by
    rcases a2 _ _ q with q1 | q1
    · have := (hB.1 _ _ q1).2.2; omega
    · omega
  have ny : ∀ b, ¬ ρ1 y b := fun b q => m1 (a3.1 _ _ q).1
  unfold Cnt at a8
  refine ⟨fun a b q => Or.inl (a1 a b q), fun a b q => ?_, ⟨fun a b q => ?_, fun a b c q1 q2 => ?_, fun a b c q1 q2 => ?_⟩, m10, a5.tr hE, a6.tr (m9.mono (by decide)), hF.tr a7, by unfold Cnt; omega⟩
  · rcases q with q | ⟨q1, q2⟩
    · rcases a2 a b q with q1 | ⟨q1, q2⟩
      · exact Or.inl q1
      · exact Or.inr ⟨q1, by omega⟩
    · exact Or.inr ⟨fun hu => m1 (q1 ▸ (a5 a hu).1), by omega⟩
  · rcases q with q | ⟨q1, q2⟩
    · exact ⟨(hE a (a3.1 a b q).1).1, (a3.1 a b q).2⟩
    · exact ⟨q1 ▸ m2, by omega, by omega⟩
  · rcases q1 with q1 | ⟨q1, q3⟩
    · rcases q2 with q2 | ⟨q2, q4⟩
      · exact a3.2.1 a b c q1 q2
      · exact absurd (q2 ▸ q1) (ny b)
    · rcases q2 with q2 | ⟨q2, q4⟩
      · exact absurd (q1 ▸ q2) (ny c)
      · omega
  · rcases q1 with q1 | ⟨q1, q3⟩
    · rcases q2 with q2 | ⟨q2, q4⟩
      · exact a3.2.2 a b c q1 q2
      · exact absurd (q4 ▸ q1) (nb a)
    · rcases q2 with q2 | ⟨q2, q4⟩
      · exact absurd (q3 ▸ q2) (nb b)
      · omega
def Co (ρ : Int → Int → Prop) (σ τ : St) (t : Int) (g : Int → Int) (n : Int) : Prop := ∀ x, 0 ≤ x → x < n → ρ (sl σ t x) (τ 2 (g x)) ∧ nu σ (sl σ t x) = τ 1 (g x) ∧ -999 ≤ τ 1 (g x) ∧ τ 1 (g x) ≤ 999
theorem Co.stp {ρ ρ' : Int → Int → Prop} {σ τ σ' τ' : St} {t n : Int} {g g' : Int → Int} (h : Co ρ σ τ t g n) (hT : TW σ t n) (hn : 0 ≤ n) (hi : ∀ a b, ρ a b → ρ' a b) (hE : Ext σ σ') (hg : ∀ x, 0 ≤ x → x < n → τ' 1 (g' x) = τ 1 (g x) ∧ τ' 2 (g' x) = τ 2 (g x)) : Co ρ' σ' τ' t g' n := fun x h0 hx => by
  have e := sl_ext hE t n x hT hn
  have g2 := hg x h0 hx
  have c := h x h0 hx
  rw [e, g2.1, g2.2, nu_ext (hT.1 x h0 hx) hE]
  exact ⟨hi _ _ c.1, c.2⟩

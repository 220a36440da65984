-- MATH 20: new nodes at some indexes: both sides joined; BACK, LAST
/-- new names at some indexes of the row that is made -/
def MN (W : Int → Prop) (τ τ' : St) (n : Int) : Prop := (∀ x, 0 ≤ x → x < n → W x → τ 30 0 < τ' 2 (256 * 7 + x) ∧ τ' 2 (256 * 7 + x) ≤ τ' 30 0) ∧ (∀ x y, 0 ≤ x → x < y → y < n → W x → W y → τ' 2 (256 * 7 + x) ≠ τ' 2 (256 * 7 + y))
def EN (W : Int → Prop) (σ σ' : St) (t n : Int) : Prop := (∀ x, 0 ≤ x → x < n → W x → ¬ used σ (sl σ' t x)) ∧ (∀ x y, 0 ≤ x → x < y → y < n → W x → W y → sl σ' t x ≠ sl σ' t y)
theorem join_ex {ρ : Int → Int → Prop} {W : Int → Prop} {σ τ σ' τ' : St} {t n d : Int} (hB : Bi ρ σ τ) (h30 : 0 ≤ τ 30 0) (hA : Alloc σ') (hE : Ext σ σ') (hF : Fr FE σ σ') (hG : Fr FM τ τ') (hc : Cnt σ τ σ' τ' d) (hn : 0 ≤ n ∧ n ≤ 255) (hT : TW σ' t n) (hs : τ' 3 7 = n) (hEN : EN W σ σ' t n) (hMN : MN W τ τ' n)
    (hnum : ∀ x, 0 ≤ x → x < n → nu σ' (sl σ' t x) = τ' 1 (256 * 7 + x) ∧ -999 ≤ τ' 1 (256 * 7 + x) ∧ τ' 1 (256 * 7 + x) ≤ 999) (hold : ∀ x, 0 ≤ x → x < n → ¬ W x → ρ (sl σ' t x) (τ' 2 (256 * 7 + x))) :
    ∃ ρ', Sx ρ σ τ ρ' σ' τ' d ∧ RI ρ' σ' τ' t n 7 := by
  have hcn : τ 30 0 ≤ τ' 30 0 := by unfold Cnt at hc; omega
  refine ⟨fun a b => ρ a b ∨ ∃ x, 0 ≤ x ∧ x < n ∧ W x ∧ a = sl σ' t x ∧ b = τ' 2 (256 * 7 + x), ⟨fun a b q => Or.inl q, fun a b q => ?_, ⟨fun a b q => ?_, fun a b c q1 q2 => ?_, fun a b c q1 q2 => ?_⟩, hA, hE, hF, hG, hc⟩, hn, hs, hT, fun x x0 xn => ?_⟩
  · rcases q with q | ⟨x, x0, xn, xw, rfl, rfl⟩
    · exact Or.inl q
    · exact Or.inr ⟨hEN.1 x x0 xn xw, (hMN.1 x x0 xn xw).1⟩
  · rcases q with q | ⟨x, x0, xn, xw, rfl, rfl⟩
    · have := hB.1 a b q
      exact ⟨(hE a this.1).1, this.2.1, by omega⟩
    · have := hMN.1 x x0 xn xw
      exact ⟨hT.1 x x0 xn, by omega, this.2⟩
  · rcases q1 with q1 | ⟨x, x0, xn, xw, e1, e2⟩
    · rcases q2 with q2 | ⟨y, y0, yn, yw, e3, e4⟩
      · exact hB.2.1 a b c q1 q2
      · exact absurd (e3 ▸ (hB.1 a b q1).1) (hEN.1 y y0 yn yw)
    · rcases q2 with q2 | ⟨y, y0, yn, yw, e3, e4⟩
      · exact absurd (e1 ▸ (hB.1 a c q2).1) (hEN.1 x x0 xn xw)
      · rcases Int.lt_trichotomy x y with w | w | w
        · exact absurd (e1.symm.trans e3) (hEN.2 x y x0 w yn xw yw)
        · rw [e2, e4, w]
        · exact absurd (e3.symm.trans e1) (hEN.2 y x y0 w xn yw xw)
  · rcases q1 with q1 | ⟨x, x0, xn, xw, e1, e2⟩
    · rcases q2 with q2 | ⟨y, y0, yn, yw, e3, e4⟩
      · exact hB.2.2 a b c q1 q2
      · have := (hB.1 a c q1).2.2
        have := (hMN.1 y y0 yn yw).1
        omega
    · rcases q2 with q2 | ⟨y, y0, yn, yw, e3, e4⟩
      · have := (hB.1 b c q2).2.2
        have := (hMN.1 x x0 xn xw).1
        omega
      · rcases Int.lt_trichotomy x y with w | w | w
        · exact absurd (e2.symm.trans e4) (hMN.2 x y x0 w yn xw yw)
        · rw [e1, e3, w]
        · exact absurd (e4.symm.trans e2) (hMN.2 y x y0 w xn yw xw)
  · rw [vw1]
    refine ⟨?_, hnum x x0 xn⟩
    by_cases w : W x
    · exact Or.inr ⟨x, x0, xn, w, rfl, rfl⟩
    · exact Or.inl (hold x x0 xn w)
theorem cn_step (f : Int → Int) {x : Int} (h : 0 ≤ x) : cn f (x + 1).toNat = cn f x.toNat + (if f x = 0 then 0 else 1) := by
  have e : (x + 1).toNat = x.toNat + 1 := by omega
  rw [e]
  show cn f x.toNat + _ = _
  rw [show ((x.toNat : Nat) : Int) = x by omega]
theorem renews_loop {n : Int} (hn : 0 ≤ n ∧ n ≤ 255) (τ : St) (h3 : τ 3 7 = n) (hm : 0 ≤ τ 30 0 ∧ τ 30 0 + 300 ≤ 2147483000) : ∀ (m : Nat) (τ1 : St) (x : Int), 0 ≤ x → x ≤ n → n - x < m → Fr [1, 2, 30] τ τ1 → τ1 1 = τ 1 → (∀ q, ¬ (256 * 7 ≤ q ∧ q < 256 * 7 + x) → τ1 2 q = τ 2 q) →
      (∀ z, 0 ≤ z → z < x → τ 7 z = 0 → τ1 2 (256 * 7 + z) = τ 2 (256 * 7 + z)) → (∀ z, 0 ≤ z → z < x → ¬ τ 7 z = 0 → τ 30 0 < τ1 2 (256 * 7 + z) ∧ τ1 2 (256 * 7 + z) ≤ τ1 30 0) → (∀ z y, 0 ≤ z → z < y → y < x → ¬ τ 7 z = 0 → ¬ τ 7 y = 0 → τ1 2 (256 * 7 + z) < τ1 2 (256 * 7 + y)) → τ1 30 0 = τ 30 0 + cn (τ 7) x.toNat →
      ∃ τ2, M_renews_L2 m τ1 x = some (0, τ2) ∧ Fr [1, 2, 30] τ τ2 ∧ τ2 1 = τ 1 ∧ (∀ q, ¬ (256 * 7 ≤ q ∧ q < 256 * 7 + n) → τ2 2 q = τ 2 q) ∧ (∀ z, 0 ≤ z → z < n → τ 7 z = 0 → τ2 2 (256 * 7 + z) = τ 2 (256 * 7 + z)) ∧
        (∀ z, 0 ≤ z → z < n → ¬ τ 7 z = 0 → τ 30 0 < τ2 2 (256 * 7 + z) ∧ τ2 2 (256 * 7 + z) ≤ τ2 30 0) ∧ (∀ z y, 0 ≤ z → z < y → y < n → ¬ τ 7 z = 0 → ¬ τ 7 y = 0 → τ2 2 (256 * 7 + z) < τ2 2 (256 * 7 + y)) ∧ τ2 30 0 = τ 30 0 + cn (τ 7) n.toNat := by
  intro m
  induction m with
  | zero => intro τ1 x h0 hxn hm; exfalso; omega
  | succ m ih =>
    intro τ1 x h0 hxn hmm hF a1 a2 a3 a4 a5 a6
    unfold M_renews_L2
    have e3 : τ1 3 7 = n := by rw [hF 3 (by decide)]; exact h3
    rw [rd_eq (by omega), e3]
    by_cases hx : x < n
    · have e7 : τ1 7 = τ 7 := hF 7 (by decide)
      have cr := cn_rng (τ 7) x.toNat
      have cs := cn_step (τ 7) h0
      rw [if_pos hx, rd_eq (by omega), e7, jn_eq]
      by_cases hz : τ 7 x = 0
      · rw [if_pos hz] at cs
        rw [if_pos hz]
        dsimp only
        rw [oadd_eq (by omega)]
        exact ih τ1 (x + 1) (by omega) (by omega) (by omega) hF a1 (fun q hq => a2 q (by omega)) (fun z z0 zn hz1 => by
            by_cases e : z = x
            · rw [e]; exact a2 _ (by omega)
            · exact a3 z z0 (by omega) hz1) (fun z z0 zn hz1 => a4 z z0 (by
            have : z ≠ x := fun e => hz1 (by rw [e]; exact hz)
            omega) hz1) (fun z y z0 zy yn b1 b2 => a5 z y z0 zy (by
            have : y ≠ x := fun e => b2 (by rw [e]; exact hz)
            omega) b1 b2) (by rw [a6, cs]; omega)
      · rw [if_neg hz] at cs
        obtain ⟨τ2, e0, f1, h31, h1v, h1n, h1q⟩ := makes_ex (τ := τ1) (r := 7) (a := x) (v := τ 1 (256 * 7 + x)) (by omega) (by omega) (by omega)
        have en : M_number τ1 7 x = some (τ 1 (256 * 7 + x)) := by rw [M_number_eq (by omega) (by omega), a1]
        rw [if_neg hz, en, bndp_eq, e0, bnd_eq]
        dsimp only
        rw [oadd_eq (by omega)]
        refine ih τ2 (x + 1) (by omega) (by omega) (by omega) (hF.tr f1) ?_ (fun q hq => ?_) (fun z z0 zn hz1 => ?_) (fun z z0 zn hz1 => ?_) (fun z y z0 zy yn b1 b2 => ?_) (by rw [h31, a6, cs]; omega)
        · funext q
          by_cases e : q = 256 * 7 + x
          · rw [e, h1v]
          · rw [(h1q q e).1, a1]
        · rw [(h1q q (by omega)).2]; exact a2 q (by omega)
        · have : z ≠ x := fun e => hz (by rw [← e]; exact hz1)
          rw [(h1q _ (by omega)).2]; exact a3 z z0 (by omega) hz1
        · by_cases e : z = x
          · rw [e, h1n]; omega
          · rw [(h1q _ (by omega)).2]
            have := a4 z z0 (by omega) hz1
            omega
        · by_cases e : y = x
          · rw [e, h1n, (h1q _ (by omega)).2]
            have := a4 z z0 (by omega) b1
            omega
          · rw [(h1q _ (by omega)).2, (h1q _ (by omega)).2]
            exact a5 z y z0 zy (by omega) b1 b2
    · rw [if_neg hx]
      have e : x = n := by omega
      subst e
      exact ⟨τ1, rfl, hF, a1, a2, a3, a4, a5, a6⟩
theorem renews_ex {n : Int} (hn : 0 ≤ n ∧ n ≤ 255) (τ : St) (h3 : τ 3 7 = n) (hm : 0 ≤ τ 30 0 ∧ τ 30 0 + 300 ≤ 2147483000) : ∃ τ2, M_renews τ = some (0, τ2) ∧ Fr [1, 2, 30] τ τ2 ∧ τ2 1 = τ 1 ∧ Rws [7] τ τ2 ∧ (∀ z, 0 ≤ z → z < n → τ 7 z = 0 → τ2 2 (256 * 7 + z) = τ 2 (256 * 7 + z)) ∧ MN (fun x => ¬ τ 7 x = 0) τ τ2 n ∧ τ2 30 0 = τ 30 0 + cn (τ 7) n.toNat := by
  obtain ⟨τ2, e, f, a1, a2, a3, a4, a5, a6⟩ := renews_loop hn τ h3 hm FU τ 0 (by omega) (by omega) (by unfold FU; omega) (Fr.rf _ _) rfl (fun _ _ => rfl) (fun z z0 zn => by omega) (fun z z0 zn => by omega) (fun z y z0 zy yn => by omega) (by show _ = _ + 0; omega)
  exact ⟨τ2, e, f, a1, ⟨fun q hq => ⟨by rw [a1], a2 q (by have := hq 7 (by decide); omega)⟩, fun p _ => by rw [f 3 (by decide)]⟩, a3, ⟨a4, fun x y x0 xy yn b1 b2 => by have := a5 x y x0 xy yn b1 b2; omega⟩, a6⟩
theorem built_loop {n : Int} (hn : 0 ≤ n ∧ n ≤ 255) (τ : St) (h3 : τ 3 7 = n) (hm : 0 ≤ τ 30 0 ∧ τ 30 0 + 300 ≤ 2147483000) : ∀ (m : Nat) (τ1 : St) (x : Int), 0 ≤ x → x ≤ n → n - x < m → Fr [1, 2, 30] τ τ1 → τ1 1 = τ 1 → (∀ q, ¬ (256 * 7 ≤ q ∧ q < 256 * 7 + x) → τ1 2 q = τ 2 q) →
      (∀ z, 0 ≤ z → z < x → τ1 2 (256 * 7 + z) = τ 30 0 + z + 1) → τ1 30 0 = τ 30 0 + x →
      ∃ τ2, M_built_L2 m τ1 x = some (0, τ2) ∧ Fr [1, 2, 30] τ τ2 ∧ τ2 1 = τ 1 ∧ (∀ q, ¬ (256 * 7 ≤ q ∧ q < 256 * 7 + n) → τ2 2 q = τ 2 q) ∧ (∀ z, 0 ≤ z → z < n → τ2 2 (256 * 7 + z) = τ 30 0 + z + 1) ∧ τ2 30 0 = τ 30 0 + n := by
  intro m
  induction m with
  | zero => intro τ1 x h0 hxn hm; exfalso; omega
  | succ m ih =>
    intro τ1 x h0 hxn hmm hF a1 a2 a3 a6
    unfold M_built_L2
    have e3 : τ1 3 7 = n := by rw [hF 3 (by decide)]; exact h3
    rw [rd_eq (by omega), e3]
    by_cases hx : x < n
    · obtain ⟨τ2, e0, f1, h31, h1v, h1n, h1q⟩ := makes_ex (τ := τ1) (r := 7) (a := x) (v := τ 1 (256 * 7 + x)) (by omega) (by omega) (by omega)
      have en : M_number τ1 7 x = some (τ 1 (256 * 7 + x)) := by rw [M_number_eq (by omega) (by omega), a1]
      rw [if_pos hx, en, bndp_eq, e0, bnd_eq, oadd_eq (by omega)]
      refine ih τ2 (x + 1) (by omega) (by omega) (by omega) (hF.tr f1) ?_ (fun q hq => ?_) (fun z z0 zn => ?_) (by omega)
      · funext q
        by_cases e : q = 256 * 7 + x
        · rw [e, h1v]
        · rw [(h1q q e).1, a1]
      · rw [(h1q q (by omega)).2]; exact a2 q (by omega)
      · by_cases e : z = x
        · rw [e, h1n]; omega
        · rw [(h1q _ (by omega)).2]; exact a3 z z0 (by omega)
    · rw [if_neg hx]
      have e : x = n := by omega
      subst e
      exact ⟨τ1, rfl, hF, a1, a2, a3, a6⟩
theorem built_ex {n : Int} (hn : 0 ≤ n ∧ n ≤ 255) (τ : St) (h3 : τ 3 7 = n) (hm : 0 ≤ τ 30 0 ∧ τ 30 0 + 300 ≤ 2147483000) : ∃ τ2, M_built τ = some (0, τ2) ∧ Fr [1, 2, 30] τ τ2 ∧ τ2 1 = τ 1 ∧ Rws [7] τ τ2 ∧ MN (fun _ => True) τ τ2 n ∧ τ2 30 0 = τ 30 0 + n := by
  obtain ⟨τ2, e, f, a1, a2, a3, a6⟩ := built_loop hn τ h3 hm FU τ 0 (by omega) (by omega) (by unfold FU; omega) (Fr.rf _ _) rfl (fun _ _ => rfl) (fun z z0 zn => by omega) (by omega)
  refine ⟨τ2, e, f, a1, ⟨fun q hq => ⟨by rw [a1], a2 q (by have := hq 7 (by decide); omega)⟩, fun p _ => by rw [f 3 (by decide)]⟩, ⟨fun x x0 xn _ => ?_, fun x y x0 xy yn _ _ => ?_⟩, a6⟩
  · rw [a3 x x0 xn]; omega
  · rw [a3 x x0 (by omega), a3 y (by omega) yn]; omega
-- E: BACK, LAST TAKEN
theorem backed_ex : ∀ (d : Nat) (σ : St) (v t n : Int), n < p2 d → 0 ≤ n → n ≤ 254 → TW σ t n → Alloc σ → ∀ f, d < f → (d : Int) + 1 ≤ σ 31 0 → (0 ≤ σ 32 0 ∧ σ 32 0 + d + 1 ≤ 2147483000) →
    ∃ y σ', Pool_backed f σ v t n = some (y, σ') ∧ TW σ' y (n + 1) ∧ Alloc σ' ∧ Ext σ σ' ∧ Fr [7, 8, 9, 30, 31, 32] σ σ' ∧ σ' 32 0 = σ 32 0 + (dp n : Int) + 1 ∧ σ' 31 0 + σ' 32 0 = σ 31 0 + σ 32 0 ∧ (dp n ≤ d) ∧ EN (onW n) σ σ' y (n + 1) ∧
      (∀ x, 0 ≤ x → x ≤ n → ¬ onW n x → sl σ' y x = sl σ t x) ∧ (∀ x, 0 ≤ x → x < n → nu σ' (sl σ' y x) = nu σ (sl σ t x)) ∧ nu σ' (sl σ' y n) = v := by
  intro d
  induction d with
  | zero =>
    intro σ v t n hp h0 h1 hT hA f hf hfr hm
    unfold p2 at hp
    have e : n = 0 := by omega
    subst e
    cases f with
    | zero => omega
    | succ f =>
    obtain ⟨y, σ2, e1, hM⟩ := make_eq σ v 0 0 hA (by omega) (by omega)
    obtain ⟨n1, n2, n3, n4⟩ := hM.node (TW.zero σ) (TW.zero σ) (by omega) (by omega)
    have hE := hM.ext
    obtain ⟨m1, m2, m3, m4, m5, m6, m7, m8, m9, m10⟩ := hM
    have hd0 : dp 0 = 0 := rfl
    refine ⟨y, σ2, ?_, n1, m10, hE, m9, by rw [m8, hd0]; omega, by omega, by omega, ⟨fun x x0 xn _ => ?_, fun x y x0 xy yn => by omega⟩, fun x x0 xn hw => ?_, fun x x0 xn => by omega, ?_⟩
    · unfold Pool_backed
      rw [if_neg (by omega), e1, bnd_eq]
    · have e : x = 0 := by omega
      rw [e, sl_0 _ _ (Int.le_refl 0)]; exact m1
    · have e : x = 0 := by omega
      exact absurd (e ▸ onW_0 0) hw
    · rw [sl_0 _ _ (Int.le_refl 0)]; exact n4
  | succ d ih =>
    intro σ v t n hp h0 h1 hT hA f hf hfr hm
    unfold p2 at hp
    by_cases hn0 : n = 0
    · subst hn0
      obtain ⟨y, σ', b1, b2, b3, b4, b5, b6, b7, b8, b9⟩ := ih σ v t 0 (by have := p2_pos d; omega) (by omega) (by omega) hT hA f (by omega) (by omega) (by omega)
      exact ⟨y, σ', b1, b2, b3, b4, b5, b6, b7, by omega, b9⟩
    cases f with
    | zero => omega
    | succ f =>
    have hut := hT.root (by omega)
    have hTl := hT.lf (by omega)
    have hTr := hT.rt (by omega)
    obtain ⟨a, ha0, ha1, ha⟩ := half n (by omega)
    -- a side is made: join
    have fin : ∀ (s s' : Int) (σ1 : St) (l r : Int), (n = 2 * a + 1 ∧ s = lf σ t ∧ l = s' ∧ r = rt σ t ∨ n = 2 * a + 2 ∧ s = rt σ t ∧ l = lf σ t ∧ r = s') → TW σ1 s' (a + 1) → Alloc σ1 → Ext σ σ1 → Fr [7, 8, 9, 30, 31, 32] σ σ1 → σ1 32 0 = σ 32 0 + (dp a : Int) + 1 → σ1 31 0 + σ1 32 0 = σ 31 0 + σ 32 0 → dp a ≤ d → EN (onW a) σ σ1 s' (a + 1) →
        (∀ x, 0 ≤ x → x ≤ a → ¬ onW a x → sl σ1 s' x = sl σ s x) → (∀ x, 0 ≤ x → x < a → nu σ1 (sl σ1 s' x) = nu σ (sl σ s x)) → nu σ1 (sl σ1 s' a) = v →
        ∃ y σ', Pool_make σ1 (nu σ t) l r = some (y, σ') ∧ TW σ' y (n + 1) ∧ Alloc σ' ∧ Ext σ σ' ∧ Fr [7, 8, 9, 30, 31, 32] σ σ' ∧ σ' 32 0 = σ 32 0 + (dp n : Int) + 1 ∧ σ' 31 0 + σ' 32 0 = σ 31 0 + σ 32 0 ∧ dp n ≤ d + 1 ∧ EN (onW n) σ σ' y (n + 1) ∧
          (∀ x, 0 ≤ x → x ≤ n → ¬ onW n x → sl σ' y x = sl σ t x) ∧ (∀ x, 0 ≤ x → x < n → nu σ' (sl σ' y x) = nu σ (sl σ t x)) ∧ nu σ' (sl σ' y n) = v := by
      intro s s' σ1 l r hs c1 c2 c3 c4 c5 c6 c7 c8 c9 c10 c11
      obtain ⟨y, σ2, e1, hM⟩ := make_eq σ1 (nu σ t) l r c2 (by omega) (by omega)
      have hE2 := hM.ext
      have hM' := hM
      obtain ⟨m1, m2, m3, m4, m5, m6, m7, m8, m9, m10⟩ := hM'
      have hdn : dp n = dp a + 1 := by
        rcases ha with e | e
        · rw [e]; exact (ats_odd (by omega)).1
        · rw [e]; exact (ats_even (by omega)).1
      have hz0 : sl σ2 y 0 = y := sl_0 _ _ (Int.le_refl 0)
      have hyn : ¬ used σ y := fun hu => m1 (c3 y hu).1
      rcases hs with ⟨en, es, el, er⟩ | ⟨en, es, el, er⟩
      · subst el er
        obtain ⟨n1, n2, n3, n4⟩ := hM.node c1 (hTr.ext c3 (by omega)) (by omega) (by omega)
        have hro : ∀ j, 0 ≤ j → sl σ2 y (2 * j + 2) = sl σ (rt σ t) j := fun j j0 => by rw [n3 j j0]; exact sl_ext c3 _ _ j hTr (by omega)
        have e9 : a + 1 + (n - 1) / 2 + 1 = n + 1 := by omega
        rw [e9] at n1
        refine ⟨y, σ2, e1, n1, m10, c3.tr hE2, c4.tr m9, by omega, by omega, by omega, ⟨fun x x0 xn hw => ?_, fun x z x0 xz zn hw hz => ?_⟩, fun x x0 xn hw => ?_, fun x x0 xn => ?_, ?_⟩
        · rw [en, onW_odd (by omega)] at hw
          rcases hw with rfl | ⟨j, rfl, hj⟩
          · rw [hz0]; exact hyn
          · rw [n2 j (by omega)]; exact c8.1 j (by omega) (by omega) hj
        · rw [en, onW_odd (by omega)] at hw hz
          rcases hz with rfl | ⟨j, rfl, hj⟩
          · omega
          · rw [n2 j (by omega)]
            rcases hw with rfl | ⟨i, rfl, hi⟩
            · rw [hz0]
              intro q
              exact m1 (q ▸ c1.1 j (by omega) (by omega))
            · rw [n2 i (by omega)]
              exact c8.2 i j (by omega) (by omega) (by omega) hi hj
        · rw [en, onW_odd (by omega)] at hw
          have hx : x ≠ 0 := fun e => hw (Or.inl e)
          obtain ⟨j, hj0, hj1, hj⟩ := half x (by omega)
          rcases hj with rfl | rfl
          · rw [n2 j hj0, sl_odd σ t hj0 rfl, ← es]
            exact c9 j hj0 (by omega) (fun q => hw (Or.inr ⟨j, rfl, q⟩))
          · rw [hro j hj0, sl_even σ t hj0 rfl]
        · by_cases hx : x = 0
          · rw [hx, hz0, n4, sl_0 _ _ (Int.le_refl 0)]
          · obtain ⟨j, hj0, hj1, hj⟩ := half x (by omega)
            rcases hj with rfl | rfl
            · rw [n2 j hj0, sl_odd σ t hj0 rfl, ← es, nu_ext (c1.1 j hj0 (by omega)) hE2]
              exact c10 j hj0 (by omega)
            · rw [hro j hj0, sl_even σ t hj0 rfl]
              exact nu_ext (hTr.1 j hj0 (by omega)) (c3.tr hE2)
        · conv => lhs; rw [en]
          rw [n2 a ha0, nu_ext (c1.1 a ha0 (by omega)) hE2]; exact c11
      · subst el er
        obtain ⟨n1, n2, n3, n4⟩ := hM.node (hTl.ext c3 (by omega)) c1 (by omega) (by omega)
        have hro : ∀ j, 0 ≤ j → sl σ2 y (2 * j + 1) = sl σ (lf σ t) j := fun j j0 => by rw [n2 j j0]; exact sl_ext c3 _ _ j hTl (by omega)
        have e9 : n / 2 + (a + 1) + 1 = n + 1 := by omega
        rw [e9] at n1
        refine ⟨y, σ2, e1, n1, m10, c3.tr hE2, c4.tr m9, by omega, by omega, by omega, ⟨fun x x0 xn hw => ?_, fun x z x0 xz zn hw hz => ?_⟩, fun x x0 xn hw => ?_, fun x x0 xn => ?_, ?_⟩
        · rw [en, onW_even (by omega)] at hw
          rcases hw with rfl | ⟨j, rfl, hj⟩
          · rw [hz0]; exact hyn
          · have hj0 := onW_rng (i := a) (by omega) hj
            rw [n3 j (by omega)]; exact c8.1 j (by omega) (by omega) hj
        · rw [en, onW_even (by omega)] at hw hz
          rcases hz with rfl | ⟨j, rfl, hj⟩
          · omega
          · have hj0 := onW_rng (i := a) (by omega) hj
            rw [n3 j (by omega)]
            rcases hw with rfl | ⟨i, rfl, hi⟩
            · rw [hz0]
              intro q
              exact m1 (q ▸ c1.1 j (by omega) (by omega))
            · have hi0 := onW_rng (i := a) (by omega) hi
              rw [n3 i (by omega)]
              exact c8.2 i j (by omega) (by omega) (by omega) hi hj
        · rw [en, onW_even (by omega)] at hw
          have hx : x ≠ 0 := fun e => hw (Or.inl e)
          obtain ⟨j, hj0, hj1, hj⟩ := half x (by omega)
          rcases hj with rfl | rfl
          · rw [hro j hj0, sl_odd σ t hj0 rfl]
          · rw [n3 j hj0, sl_even σ t hj0 rfl, ← es]
            exact c9 j hj0 (by omega) (fun q => hw (Or.inr ⟨j, rfl, q⟩))
        · by_cases hx : x = 0
          · rw [hx, hz0, n4, sl_0 _ _ (Int.le_refl 0)]
          · obtain ⟨j, hj0, hj1, hj⟩ := half x (by omega)
            rcases hj with rfl | rfl
            · rw [hro j hj0, sl_odd σ t hj0 rfl]
              exact nu_ext (hTl.1 j hj0 (by omega)) (c3.tr hE2)
            · rw [n3 j hj0, sl_even σ t hj0 rfl, ← es, nu_ext (c1.1 j hj0 (by omega)) hE2]
              exact c10 j hj0 (by omega)
        · conv => lhs; rw [en]
          rw [n3 a ha0, nu_ext (c1.1 a ha0 (by omega)) hE2]; exact c11
    have hnt : ∀ σ1, Ext σ σ1 → nu σ1 t = nu σ t := fun σ1 h => nu_ext hut h
    rcases ha with en | en
    · have e2 : n / 2 = a := by omega
      rw [e2] at hTl
      obtain ⟨s', σ1, b1, b2, b3, b4, b5, b6, b7, b8, b9, b10, b11, b12⟩ := ih σ v (lf σ t) a (by omega) (by omega) (by omega) hTl hA f (by omega) (by omega) (by omega)
      obtain ⟨y, σ2, g1, g2⟩ := fin (lf σ t) s' σ1 s' (rt σ t) (Or.inl ⟨en, rfl, rfl, rfl⟩) b2 b3 b4 b5 b6 b7 b8 b9 b10 b11 b12
      refine ⟨y, σ2, ?_, g2⟩
      unfold Pool_backed
      have el := E_leftSize_eq (n := n) (by omega)
      rw [e2] at el
      simp (disch := omega) only [↓jn_e, ↓ite_y, ↓ite_n, ↓oadd_eq, ↓osub_eq, ↓omul_eq, ↓odiv_eq, ↓orem_eq, ↓rd_eq, ↓wr_eq, ↓gf_e, ↓pf_e, ↓bnd_e, ↓bndp_e, ↓opure_e, ↓oif_t, ↓oif_f, ↓E_isPlace_y, ↓E_isPlace_n, ↓E_isNumber_y, ↓E_isNumber_n, ↓M_isPlace_y, ↓M_isPlace_n, ↓M_isNumber_y, ↓M_isNumber_n, ↓M_in_y, ↓M_in_n, ↓us_ne, ↓Pool_leftOf_eq, ↓Pool_rightOf_eq, ↓Pool_numberOf_eq, ↓el, ↓b1, hnt σ1 b4, ↓g1]
    · have e2 : (n - 1) / 2 = a := by omega
      rw [e2] at hTr
      obtain ⟨s', σ1, b1, b2, b3, b4, b5, b6, b7, b8, b9, b10, b11, b12⟩ := ih σ v (rt σ t) a (by omega) (by omega) (by omega) hTr hA f (by omega) (by omega) (by omega)
      obtain ⟨y, σ2, g1, g2⟩ := fin (rt σ t) s' σ1 (lf σ t) s' (Or.inr ⟨en, rfl, rfl, rfl⟩) b2 b3 b4 b5 b6 b7 b8 b9 b10 b11 b12
      refine ⟨y, σ2, ?_, g2⟩
      unfold Pool_backed
      have el := E_rightSize_eq (n := n) (by omega)
      rw [e2] at el
      simp (disch := omega) only [↓jn_e, ↓ite_y, ↓ite_n, ↓oadd_eq, ↓osub_eq, ↓omul_eq, ↓odiv_eq, ↓orem_eq, ↓rd_eq, ↓wr_eq, ↓gf_e, ↓pf_e, ↓bnd_e, ↓bndp_e, ↓opure_e, ↓oif_t, ↓oif_f, ↓E_isPlace_y, ↓E_isPlace_n, ↓E_isNumber_y, ↓E_isNumber_n, ↓M_isPlace_y, ↓M_isPlace_n, ↓M_isNumber_y, ↓M_isNumber_n, ↓M_in_y, ↓M_in_n, ↓us_ne, ↓Pool_leftOf_eq, ↓Pool_rightOf_eq, ↓Pool_numberOf_eq, ↓el, ↓b1, hnt σ1 b4, ↓g1]

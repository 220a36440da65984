-- MATH 2: reading a tree into a row; a slot is taken
theorem read_one_loop (n : Int) (hn : 0 ≤ n ∧ n ≤ 255) (σ : St) : ∀ (m : Nat) (σ1 : St) (x : Int), 0 ≤ x → x ≤ n → n - x < m → Fr [26] σ σ1 → (∀ z, 0 ≤ z → z < x → σ1 26 z = nu σ (σ 12 z)) →
    ∃ σ2, Pool_read_one_L9 n m σ1 x = some (0, σ2) ∧ Fr [26] σ σ2 ∧ (∀ z, 0 ≤ z → z < n → σ2 26 z = nu σ (σ 12 z)) := by
  intro m
  induction m with
  | zero => intro σ1 x h0 hxn hm; exfalso; omega
  | succ m ih =>
    intro σ1 x h0 hxn hm hF hz
    unfold Pool_read_one_L9
    by_cases hx : x < n
    · simp (disch := omega) only [ite_y, rd_eq, Pool_numberOf_eq, bndp_eq, wr_eq, oadd_eq]
      refine ih _ (x + 1) (by omega) (by omega) (by omega) (hF.us (by decide)) (fun z h1 h2 => ?_)
      by_cases hzx : z = x
      · rw [hzx, us_eq, nu_of (hF 7 (by decide)), hF 12 (by decide)]
      · rw [us_ni hzx]; exact hz z h1 (by omega)
    · simp (disch := omega) only [ite_n]
      exact ⟨σ1, rfl, hF, fun z h1 h2 => hz z h1 (by omega)⟩
theorem read_other_loop (n : Int) (hn : 0 ≤ n ∧ n ≤ 255) (σ : St) : ∀ (m : Nat) (σ1 : St) (x : Int), 0 ≤ x → x ≤ n → n - x < m → Fr [27] σ σ1 → (∀ z, 0 ≤ z → z < x → σ1 27 z = nu σ (σ 12 z)) →
    ∃ σ2, Pool_read_other_L9 n m σ1 x = some (0, σ2) ∧ Fr [27] σ σ2 ∧ (∀ z, 0 ≤ z → z < n → σ2 27 z = nu σ (σ 12 z)) := by
  intro m
  induction m with
  | zero => intro σ1 x h0 hxn hm; exfalso; omega
  | succ m ih =>
    intro σ1 x h0 hxn hm hF hz
    unfold Pool_read_other_L9
    by_cases hx : x < n
    · simp (disch := omega) only [ite_y, rd_eq, Pool_numberOf_eq, bndp_eq, wr_eq, oadd_eq]
      refine ih _ (x + 1) (by omega) (by omega) (by omega) (hF.us (by decide)) (fun z h1 h2 => ?_)
      by_cases hzx : z = x
      · rw [hzx, us_eq, nu_of (hF 7 (by decide)), hF 12 (by decide)]
      · rw [us_ni hzx]; exact hz z h1 (by omega)
    · simp (disch := omega) only [ite_n]
      exact ⟨σ1, rfl, hF, fun z h1 h2 => hz z h1 (by omega)⟩
theorem read_one_eq (σ : St) (t n : Int) (hn : 0 ≤ n ∧ n ≤ 255) : ∃ σ2, Pool_read_one σ t n = some (0, σ2) ∧ Fr [12, 26] σ σ2 ∧ (∀ z, 0 ≤ z → z < n → σ2 26 z = nu σ (sl σ t z)) := by
  obtain ⟨σa, ea, fa, -, ga⟩ := spread_eq σ t n hn
  obtain ⟨σb, eb, fb, gb⟩ := read_one_loop n hn σa FU σa 0 (by omega) (by omega) (by unfold FU; omega) (Fr.rf _ _) (fun z h1 h2 => by omega)
  refine ⟨σb, ?_, (fa.mono (by decide)).tr (fb.mono (by decide)), fun z h1 h2 => ?_⟩
  · unfold Pool_read_one; rw [ea, bnd_eq]; exact eb
  · rw [gb z h1 h2, ga z h1 h2, nu_of (fa 7 (by decide))]
theorem read_other_eq (σ : St) (t n : Int) (hn : 0 ≤ n ∧ n ≤ 255) : ∃ σ2, Pool_read_other σ t n = some (0, σ2) ∧ Fr [12, 27] σ σ2 ∧ (∀ z, 0 ≤ z → z < n → σ2 27 z = nu σ (sl σ t z)) := by
  obtain ⟨σa, ea, fa, -, ga⟩ := spread_eq σ t n hn
  obtain ⟨σb, eb, fb, gb⟩ := read_other_loop n hn σa FU σa 0 (by omega) (by omega) (by unfold FU; omega) (Fr.rf _ _) (fun z h1 h2 => by omega)
  refine ⟨σb, ?_, (fa.mono (by decide)).tr (fb.mono (by decide)), fun z h1 h2 => ?_⟩
  · unfold Pool_read_other; rw [ea, bnd_eq]; exact eb
  · rw [gb z h1 h2, ga z h1 h2, nu_of (fa 7 (by decide))]
/-- how many slots from one on are free -/
def cf (K : Int → Int) : Nat → Int → Int
  | 0, _ => 0
  | m + 1, a => (if K a = 0 then 1 else 0) + cf K m (a + 1)
theorem cf_pos (K : Int → Int) : ∀ (m : Nat) (a : Int), 0 ≤ cf K m a ∧ cf K m a ≤ m := by
  intro m
  induction m with
  | zero => intro a; unfold cf; omega
  | succ m ih =>
    intro a
    unfold cf
    have := ih (a + 1)
    split <;> omega
def cfr (σ : St) : Int := cf (σ 10) (6144 - σ 30 0).toNat (σ 30 0)
def Alloc (σ : St) : Prop := 1 ≤ σ 30 0 ∧ σ 30 0 ≤ 6144 ∧ σ 31 0 ≤ cfr σ
def used (σ : St) (a : Int) : Prop := 1 ≤ a ∧ a < 6144 ∧ (a < σ 30 0 ∨ ¬ σ 10 a = 0)
theorem us_id (σ : St) (f : Nat) (i : Int) : us σ f i (σ f i) = σ := by
  funext g j
  unfold us
  by_cases h : g = f
  · by_cases h2 : j = i
    · rw [if_pos h, if_pos h2, h, h2]
    · rw [if_pos h, if_neg h2]
  · rw [if_neg h]
theorem us_us (σ : St) (f : Nat) (i v w : Int) : us (us σ f i v) f i w = us σ f i w := by
  funext g j
  unfold us
  by_cases h : g = f
  · by_cases h2 : j = i
    · simp [h, h2]
    · simp [h, h2]
  · simp [h]
theorem make_loop (k : St → Option (Int × St)) : ∀ (m : Nat) (σ1 : St), 1 ≤ σ1 30 0 → σ1 30 0 ≤ 6144 → 6144 - σ1 30 0 < m →
    ∃ y, Pool_make_L0 k m σ1 = k (us σ1 30 0 y) ∧ σ1 30 0 ≤ y ∧ y ≤ 6144 ∧ cf (σ1 10) (6144 - y).toNat y = cfr σ1 ∧ (y < 6144 → σ1 10 y = 0) ∧ (∀ z, σ1 30 0 ≤ z → z < y → ¬ σ1 10 z = 0) := by
  intro m
  induction m with
  | zero => intro σ1 h1 h2 hm; exfalso; omega
  | succ m ih =>
    intro σ1 h1 h2 hm
    unfold Pool_make_L0
    simp only [gf_eq]
    by_cases hlt : σ1 30 0 < 6144
    · simp (disch := omega) only [ite_y, rd_eq]
      by_cases hk : σ1 10 (σ1 30 0) = 0
      · rw [if_pos hk]
        exact ⟨σ1 30 0, by rw [us_id], by omega, by omega, rfl, fun _ => hk, fun z a b => by omega⟩
      · rw [if_neg hk]
        simp (disch := omega) only [oadd_eq, pf_eq]
        obtain ⟨y, e, a1, a2, a3, a4, a5⟩ := ih (us σ1 30 0 (σ1 30 0 + 1)) (by rw [us_eq]; omega) (by rw [us_eq]; omega) (by rw [us_eq]; omega)
        rw [us_eq] at a1
        have e10 : us σ1 30 0 (σ1 30 0 + 1) 10 = σ1 10 := us_f (by decide)
        rw [e10] at a3 a4 a5
        refine ⟨y, by rw [e, us_us], by omega, a2, ?_, a4, fun z hz1 hz2 => ?_⟩
        · rw [a3]
          unfold cfr
          rw [us_eq, e10]
          have e9 : (6144 - σ1 30 0).toNat = (6144 - (σ1 30 0 + 1)).toNat + 1 := by omega
          rw [e9, cf, if_neg hk]
          omega
        · by_cases hz : z = σ1 30 0
          · rw [hz]; exact hk
          · exact a5 z (by rw [us_eq]; omega) hz2
    · simp (disch := omega) only [ite_n]
      exact ⟨σ1 30 0, by rw [us_id], by omega, by omega, rfl, fun h => by omega, fun z a b => by omega⟩
/-- what a new node is -/
def Made (σ τ : St) (y v l r : Int) : Prop := ¬ used σ y ∧ used τ y ∧ (∀ a, used τ a ↔ (used σ a ∨ a = y)) ∧ τ 7 = (fun j => if j = y then v else σ 7 j) ∧ τ 8 = (fun j => if j = y then l else σ 8 j) ∧ τ 9 = (fun j => if j = y then r else σ 9 j) ∧ τ 31 0 = σ 31 0 - 1 ∧ τ 32 0 = σ 32 0 + 1 ∧ Fr [7, 8, 9, 30, 31, 32] σ τ ∧ Alloc τ
theorem make_eq (σ : St) (v l r : Int) (hA : Alloc σ) (hf : 1 ≤ σ 31 0) (hm : 0 ≤ σ 32 0 ∧ σ 32 0 ≤ 2147483000) : ∃ y τ, Pool_make σ v l r = some (y, τ) ∧ Made σ τ y v l r := by
  obtain ⟨h1, h2, h3⟩ := hA
  unfold Pool_make
  rw [jn_eq]
  obtain ⟨y, e, a1, a2, a3, a4, a5⟩ := make_loop (fun (s1 : St) => gf s1 30 fun v3 => if v3 < 6144 then (gf s1 30 fun v4 => wr s1 7 6144 v4 v fun s5 => wr s5 8 6144 v4 l fun s6 => wr s6 9 6144 v4 r fun s7 => gf s7 30 fun v8 => oadd v8 1 fun v9 => pf s7 30 v9 fun s10 => gf s10 31 fun v11 => osub v11 1 fun v12 => pf s10 31 v12 fun s13 => gf s13 32 fun v14 => oadd v14 1 fun v15 => pf s13 32 v15 fun s16 => some (v4, s16)) else (some (0, s1))) FU σ h1 h2 (by unfold FU; omega)
  rw [e]
  have hfr : σ 31 0 ≤ 6144 := by
    have := (cf_pos (σ 10) (6144 - σ 30 0).toNat (σ 30 0)).2
    unfold cfr at h3
    omega
  have hy : y < 6144 := by
    rcases Int.lt_or_le y 6144 with h | h
    · exact h
    · have : y = 6144 := by omega
      rw [this] at a3
      have h0 : cf (σ 10) (6144 - 6144 : Int).toNat 6144 = 0 := rfl
      rw [h0] at a3
      omega
  simp only [gf_eq, us_eq]
  simp (disch := omega) only [ite_y, wr_eq, pf_eq]
  simp (disch := decide) only [us_ne, us_eq]
  simp (disch := omega) only [oadd_eq, osub_eq]
  have hky := a4 hy
  refine ⟨y, _, rfl, ?_⟩
  obtain ⟨τ, hτ⟩ : ∃ τ, τ = us (us (us (us (us (us (us σ 30 0 y) 7 y v) 8 y l) 9 y r) 30 0 (y + 1)) 31 0 (σ 31 0 - 1)) 32 0 (σ 32 0 + 1) := ⟨_, rfl⟩
  rw [← hτ]
  have e30 : τ 30 0 = y + 1 := by rw [hτ]; simp (disch := decide) only [us_ne, us_eq]
  have e31 : τ 31 0 = σ 31 0 - 1 := by rw [hτ]; simp (disch := decide) only [us_ne, us_eq]
  have e32 : τ 32 0 = σ 32 0 + 1 := by rw [hτ]; simp (disch := decide) only [us_eq]
  have e10 : τ 10 = σ 10 := by rw [hτ]; simp (disch := decide) only [us_f]
  refine ⟨fun hu => ?_, ⟨by omega, hy, by rw [e30]; omega⟩, fun a => ?_, ?_, ?_, ?_, e31, e32, ?_, ?_⟩
  · obtain ⟨-, -, hu⟩ := hu
    rcases hu with hu | hu
    · omega
    · exact hu hky
  · unfold used
    rw [e30, e10]
    constructor
    · rintro ⟨b1, b2, b3⟩
      by_cases hay : a = y
      · exact Or.inr hay
      · refine Or.inl ⟨b1, b2, ?_⟩
        by_cases hn : a < σ 30 0
        · exact Or.inl hn
        · refine Or.inr ?_
          rcases b3 with b3 | b3
          · exact a5 a (by omega) (by omega)
          · exact b3
    · rintro (⟨b1, b2, b3⟩ | rfl)
      · exact ⟨b1, b2, b3.elim (fun q => Or.inl (by omega)) Or.inr⟩
      · exact ⟨by omega, hy, Or.inl (by omega)⟩
  · rw [hτ]; simp (disch := decide) only [us_f (g := 7)]; funext j; by_cases h : j = y <;> simp [us, h]
  · rw [hτ]; simp (disch := decide) only [us_f (g := 8)]; funext j; by_cases h : j = y <;> simp [us, h]
  · rw [hτ]; simp (disch := decide) only [us_f (g := 9)]; funext j; by_cases h : j = y <;> simp [us, h]
  · rw [hτ]
    exact (((((((Fr.rf _ _).us (by decide)).us (by decide)).us (by decide)).us (by decide)).us (by decide)).us (by decide)).us (by decide)
  · refine ⟨by omega, by omega, ?_⟩
    unfold cfr
    rw [e30, e31, e10]
    have e9 : (6144 - y).toNat = (6144 - (y + 1)).toNat + 1 := by omega
    rw [e9, cf, if_pos hky] at a3
    omega

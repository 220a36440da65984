-- MATH 26: BUILT, CHANGED: both sides
theorem built_loopE {K : St → Option (Int × St)} {n : Int} {u : Int → Int} (hn : 0 ≤ n ∧ n ≤ 255) {σ : St} (hu : ∀ x, 0 ≤ x → x < n → σ 28 x = u x) (hfr : 256 ≤ σ 31 0) (hm : 0 ≤ σ 32 0 ∧ σ 32 0 + 300 ≤ 2147483000) : ∀ (r m : Nat) (s : St) (x : Int), x + 1 = r → x < n → r < m → LB (fun _ => 1) u 1 2 n σ x s →
    ∃ s2, Pool_built_fresh_L4 K n m s x = K s2 ∧ LB (fun _ => 1) u 1 2 n σ (-1) s2 := by
  intro r
  induction r with
  | zero =>
    intro m s x h1 h2 h3 hL
    cases m with
    | zero => omega
    | succ m =>
    unfold Pool_built_fresh_L4
    rw [if_pos (by omega)]
    have e : x = -1 := by omega
    exact ⟨s, rfl, e ▸ hL⟩
  | succ r ih =>
    intro m s x h1 h2 h3 hL
    cases m with
    | zero => omega
    | succ m =>
    have e28 : s 28 = σ 28 := hL.2.2.1 28 (by decide)
    obtain ⟨y, s1, e1, hL1⟩ := hL.step (by omega) hn.2 (Or.inl rfl) (Or.inr rfl) (by decide) hfr hm rfl rfl
    obtain ⟨s2, e2, hL2⟩ := ih m _ (x - 1) (by omega) (by omega) (by omega) hL1
    refine ⟨s2, ?_, hL2⟩
    unfold Pool_built_fresh_L4
    have e3 : x + -1 = x - 1 := by omega
    rw [if_neg (by omega), rd_eq (by omega), e28, hu x (by omega) h2, below_eq (Or.inl rfl) (by omega) hn.2, bndp_eq, below_eq (Or.inr rfl) (by omega) hn.2, bndp_eq, e1, bnd_eq, wr_eq (by omega), oadd_eq (by omega), e3]
    exact e2
theorem cn_all {f : Int → Int} : ∀ m : Nat, (∀ x : Int, 0 ≤ x → x < m → ¬ f x = 0) → cn f m = m := by
  intro m
  induction m with
  | zero => intro h; rfl
  | succ m ih =>
    intro h
    show cn f m + _ = _
    rw [if_neg (h m (by omega) (by omega)), ih (fun x a b => h x a (by omega))]
    omega
theorem op_built {ρ : Int → Int → Prop} {σ τ : St} {n : Int} (hC : Cx ρ σ τ 400) (hn : 0 ≤ n ∧ n ≤ 255) (h7 : τ 3 7 = n) (hrow : ∀ x, 0 ≤ x → x < n → σ 28 x = τ 1 (256 * 7 + x) ∧ -999 ≤ τ 1 (256 * 7 + x) ∧ τ 1 (256 * 7 + x) ≤ 999) :
    ∃ y σ' τ' ρ', Pool_built_fresh σ n = some (y, σ') ∧ M_built τ = some (0, τ') ∧ Sx ρ σ τ ρ' σ' τ' 255 ∧ RI ρ' σ' τ' y n 7 ∧ Rws [7] τ τ' := by
  obtain ⟨hB, hA, hf, hs, hm⟩ := hC
  obtain ⟨τ', c1, c2, c3, c4, c5, c6⟩ := built_ex hn τ h7 ⟨hm.1, by omega⟩
  obtain ⟨s, e1, hL⟩ := built_loopE (K := fun (s2 : St) => bndp (Pool_rootOf s2 n) fun v4 => some (v4, s2)) (u := fun x => τ 1 (256 * 7 + x)) hn (fun x x0 xn => (hrow x x0 xn).1) (by omega) (by omega) n.toNat FU σ (n - 1) (by omega) (by omega) (by unfold FU; omega) (LB.start hA hn.1)
  have hL' := hL
  obtain ⟨l1, l2, l3, l4, l5, l6, l7, l8⟩ := hL'
  have ca : cn (fun _ => (1 : Int)) n.toNat = n := by rw [cn_all _ (fun _ _ _ => by decide)]; omega
  have c0 : cn (fun _ => (1 : Int)) (-1 + 1 : Int).toNat = 0 := rfl
  rw [ca, c0] at l5
  have hcnt : Cnt σ τ s τ' 255 := by unfold Cnt; omega
  have eP : Pool_built_fresh σ n = (fun (s2 : St) => bndp (Pool_rootOf s2 n) fun v4 => some (v4, s2)) s := by
    unfold Pool_built_fresh
    rw [osub_eq (by omega), jn_eq]
    exact e1
  by_cases h0 : n = 0
  · subst h0
    obtain ⟨ρ', hX, hR⟩ := join_ex (W := fun _ => True) (t := 0) hB hm.1 l1 l2 (l3.mono (by decide)) (c2.mono (by decide)) hcnt hn (TW.zero s) (by rw [c2 3 (by decide)]; exact h7) ⟨fun x x0 xn => by omega, fun x y x0 xy yn => by omega⟩ c5 (fun x x0 xn => by omega) (fun x x0 xn => by omega)
    refine ⟨0, s, τ', ρ', ?_, c1, hX, hR, c4⟩
    rw [eP]
    show bndp (Pool_rootOf s 0) _ = _
    unfold Pool_rootOf
    rw [if_neg (by omega), bndp_eq]
  · have q1 : ¬ ((1 : Int) = 0) := by decide
    have hd := hL.done (g := fun z => z) (t := 0) (by omega) (Or.inr (fun _ _ _ => by decide)) (fun _ _ _ _ => by decide) rfl (fun w _ _ => ⟨by omega, by omega⟩) (fun w w0 _ => ⟨w0, Iff.rfl⟩) (fun z _ _ q => absurd q (by decide)) (Or.inl (fun _ => rfl))
    have hEN : EN (fun _ => True) σ s (s 12 0) n := ⟨fun x x0 xn _ => by rw [hd.2 x x0 xn]; exact (l7 x (by omega) xn q1).2.1, fun x y x0 xy yn _ _ => by
      rw [hd.2 x x0 (by omega), hd.2 y (by omega) yn]; exact l8 x y (by omega) xy yn q1 q1⟩
    have hnum : ∀ x, 0 ≤ x → x < n → nu s (sl s (s 12 0) x) = τ' 1 (256 * 7 + x) ∧ -999 ≤ τ' 1 (256 * 7 + x) ∧ τ' 1 (256 * 7 + x) ≤ 999 := fun x x0 xn => by
      have w := l7 x (by omega) xn q1
      rw [hd.2 x x0 xn, nu_used w.1, w.2.2.1, c3]
      exact ⟨rfl, (hrow x x0 xn).2⟩
    obtain ⟨ρ', hX, hR⟩ := join_ex (W := fun _ => True) hB hm.1 l1 l2 (l3.mono (by decide)) (c2.mono (by decide)) hcnt hn hd.1 (by rw [c2 3 (by decide)]; exact h7) hEN c5 hnum (fun x _ _ q => absurd trivial q)
    refine ⟨s 12 0, s, τ', ρ', ?_, c1, hX, hR, c4⟩
    rw [eP]
    show bndp (Pool_rootOf s n) _ = _
    unfold Pool_rootOf
    rw [if_pos (by omega), rd_eq (by omega), bndp_eq]
theorem SS.ask0 {k : Nat} {σ τ σ' τ' : St} (h : SS k σ τ) (hE : Fr (13 :: 34 :: SE) σ σ') (hM : Fr (5 :: 32 :: SM) τ τ') (hR : Rws [6, 7, 8, 9] τ τ') (hr : Rw σ' τ') : SS k σ' τ' := by
  obtain ⟨⟨ρ, hW⟩, hT, -, hn, hm⟩ := h
  refine ⟨⟨ρ, hW.mv hE (by decide) hR (by decide) (by rw [hM 30 (by decide)])⟩, hT.fr hE hM (by decide) (by decide), hr, ?_, ?_⟩
  · unfold Sn at *
    rw [hE 11 (by decide), hE 33 (by decide)]; exact hn
  · unfold Mb at *
    rw [hE 32 (by decide), hM 30 (by decide)]; exact hm
theorem SS.asq0 {k : Nat} {σ τ σ' τ' : St} (h : SS k σ τ) (hE : Fr SE σ σ') (hM : Fr SM τ τ') (hR : Rws [6, 7, 8, 9] τ τ') : SS k σ' τ' :=
  h.ask0 (hE.mono (by decide)) (hM.mono (by decide)) hR (h.2.2.1.fr hE hM (by decide) (by decide))
theorem SS.thr0 {k : Nat} {σ τ : St} (h : SS k σ τ) : SS k σ (us τ 33 0 0) :=
  h.asq0 (Fr.rf _ _) (fr_sc _ _ _ _ (by decide)) (Rws.fr (fr_sc [33] _ _ _ (by decide)) (by decide) (by decide) (by decide) _)
theorem SS.up {k : Nat} {σ τ : St} (h : SS k σ τ) : SS (k + 1) σ τ := h.asq (Fr.rf _ _) (Fr.rf _ _) (Rws.rf _ _)
theorem build_ex {k : Nat} {σ τ : St} {n p : Int} (hS : SS k σ τ) (hk : k < 512) (hn : 0 ≤ n ∧ n ≤ 255) (h7 : τ 3 7 = n) (hrow : ∀ x, 0 ≤ x → x < n → σ 28 x = τ 1 (256 * 7 + x) ∧ -999 ≤ τ 1 (256 * 7 + x) ∧ τ 1 (256 * 7 + x) ≤ 999) (hp : 0 ≤ p ∧ p < 6) :
    ∃ σ4 τ1 τ4, E_build σ p n = some (n, σ4) ∧ M_built τ = some (0, τ1) ∧ M_takes τ1 7 p = some (0, τ4) ∧ τ4 3 p = n ∧ SS (k + 1) σ4 τ4 := by
  have hS0 := hS
  obtain ⟨⟨ρ, hW⟩, hT, hr, hnn, hm⟩ := hS
  have hmc := hm.c hk
  obtain ⟨σ1, ρ1, e1, hW1, hf, f1⟩ := begin_ex hW
  have h32 : σ1 32 0 = σ 32 0 := by rw [f1 32 (by decide)]
  have hC : Cx ρ1 σ1 τ 400 := ⟨hW1.1, hW1.2.1, by omega, by omega, by omega⟩
  obtain ⟨y, σ3, τ3, ρ3, e4, e5, hX, hI, r3⟩ := op_built hC hn h7 (fun x x0 xn => by rw [f1 28 (by decide)]; exact hrow x x0 xn)
  obtain ⟨σ4, τ4, e7, e8, hW4, f4, g4, r4, s4⟩ := keep_ends hW1 hX r3 (by decide) (w := 7) (by omega) hI hp
  have hcn := hX.cnt
  have x1 : σ4 32 0 = σ3 32 0 := by rw [f4 32 (by decide)]
  have x2 : τ4 30 0 = τ3 30 0 := by rw [g4 30 (by decide)]
  refine ⟨σ4, τ3, τ4, ?_, e5, e8, s4, hS0.fin hW4 ((f1.mono (by decide)).tr ((hX.2.2.2.2.2.1.mono (by decide)).tr (f4.mono (by decide)))) ((hX.2.2.2.2.2.2.1.mono (by decide)).tr (g4.mono (by decide))) (by omega) (by omega)⟩
  unfold E_build
  rw [e1, bnd_eq, e4, bnd_eq, e7, bnd_eq]
theorem builds_ex {k : Nat} {σ τ : St} {n p : Int} (hS : SS k σ τ) (hk : k < 512) (hn : 0 ≤ n ∧ n ≤ 255) (h7 : τ 3 7 = n) (hrow : ∀ x, 0 ≤ x → x < n → σ 28 x = τ 1 (256 * 7 + x) ∧ -999 ≤ τ 1 (256 * 7 + x) ∧ τ 1 (256 * 7 + x) ≤ 999) (hp : 0 ≤ p ∧ p < 6) :
    ∃ σ4 τ4, E_build σ p n = some (n, σ4) ∧ M_builds τ p = some (n, τ4) ∧ SS (k + 1) σ4 τ4 := by
  obtain ⟨σ4, τ1, τ4, e1, e2, e3, e4, h⟩ := build_ex hS hk hn h7 hrow hp
  refine ⟨σ4, τ4, e1, ?_, h⟩
  unfold M_builds
  rw [e2, bnd_eq, e3, bnd_eq, rd_eq (by omega), e4]
-- CHANGED
theorem Ways_has_eq {σ : St} {x : Int} (h : 0 ≤ x ∧ x < 255) : Ways_has σ x = some (if σ 23 x = 0 then 0 else 1) := by
  unfold Ways_has
  rw [if_neg (by omega), if_pos (by omega), rd_eq (by omega)]
  split <;> rfl
theorem changed_loopE {K : St → Option (Int × St)} {n : Int} {f u : Int → Int} (hn : 0 ≤ n ∧ n ≤ 255) {σ : St} (hf : ∀ x, 0 ≤ x → x < n → (σ 23 x = 0 ↔ f x = 0)) (hu : ∀ x, 0 ≤ x → x < n → σ 26 x = u x) (hfr : 256 ≤ σ 31 0) (hm : 0 ≤ σ 32 0 ∧ σ 32 0 + 300 ≤ 2147483000) : ∀ (r m : Nat) (s : St) (x : Int), x + 1 = r → x < n → r < m → LB f u 1 2 n σ x s →
    ∃ s2, Pool_changed_one_L11 K n m s x = K s2 ∧ LB f u 1 2 n σ (-1) s2 := by
  intro r
  induction r with
  | zero =>
    intro m s x h1 h2 h3 hL
    cases m with
    | zero => omega
    | succ m =>
    unfold Pool_changed_one_L11
    rw [if_pos (by omega)]
    have e : x = -1 := by omega
    exact ⟨s, rfl, e ▸ hL⟩
  | succ r ih =>
    intro m s x h1 h2 h3 hL
    cases m with
    | zero => omega
    | succ m =>
    have e26 : s 26 = σ 26 := hL.2.2.1 26 (by decide)
    have e23 : s 23 = σ 23 := hL.2.2.1 23 (by decide)
    have e3 : x + -1 = x - 1 := by omega
    have ew := Ways_has_eq (σ := s) (x := x) (by omega)
    rw [e23] at ew
    by_cases hz : f x = 0
    · obtain ⟨s2, e2, hL2⟩ := ih m _ (x - 1) (by omega) (by omega) (by omega) (hL.skip (by omega) hz)
      refine ⟨s2, ?_, hL2⟩
      rw [if_pos ((hf x (by omega) h2).mpr hz)] at ew
      unfold Pool_changed_one_L11
      simp (disch := omega) only [↓jn_e, ↓ite_y, ↓ite_n, ↓oadd_eq, ↓osub_eq, ↓omul_eq, ↓odiv_eq, ↓orem_eq, ↓rd_eq, ↓wr_eq, ↓gf_e, ↓pf_e, ↓bnd_e, ↓bndp_e, ↓opure_e, ↓oif_t, ↓oif_f, ↓E_isPlace_y, ↓E_isPlace_n, ↓E_isNumber_y, ↓E_isNumber_n, ↓M_isPlace_y, ↓M_isPlace_n, ↓M_isNumber_y, ↓M_isNumber_n, ↓M_in_y, ↓M_in_n, ↓us_ne, ↓ew, e3]
      exact e2
    · obtain ⟨y, s1, e1, hL1⟩ := hL.step (by omega) hn.2 (Or.inl rfl) (Or.inr rfl) hz hfr hm rfl rfl
      obtain ⟨s2, e2, hL2⟩ := ih m _ (x - 1) (by omega) (by omega) (by omega) hL1
      refine ⟨s2, ?_, hL2⟩
      rw [if_neg (fun q => hz ((hf x (by omega) h2).mp q))] at ew
      unfold Pool_changed_one_L11
      have b1 : Pool_below s x 1 n = some (ch s 1 x n) := below_eq (Or.inl rfl) (by omega) hn.2
      have b2 : Pool_below s x 2 n = some (ch s 2 x n) := below_eq (Or.inr rfl) (by omega) hn.2
      have e4 := hu x (by omega) h2
      rw [← e26] at e4
      rw [← e4] at e1
      simp (disch := omega) only [↓jn_e, ↓ite_y, ↓ite_n, ↓oadd_eq, ↓osub_eq, ↓omul_eq, ↓odiv_eq, ↓orem_eq, ↓rd_eq, ↓wr_eq, ↓gf_e, ↓pf_e, ↓bnd_e, ↓bndp_e, ↓opure_e, ↓oif_t, ↓oif_f, ↓E_isPlace_y, ↓E_isPlace_n, ↓E_isNumber_y, ↓E_isNumber_n, ↓M_isPlace_y, ↓M_isPlace_n, ↓M_isNumber_y, ↓M_isNumber_n, ↓M_in_y, ↓M_in_n, ↓us_ne, ↓ew, ↓b1, ↓b2, ↓e1, e3]
      exact e2
/-- marks of both sides are alike -/
def Mk (σ τ : St) (n : Int) : Prop := (∀ x, 0 ≤ x → x < n → (σ 23 x = 0 ↔ τ 7 x = 0)) ∧ (∀ x, 0 < x → x < n → ¬ σ 23 x = 0 → ¬ σ 23 (up x) = 0)
theorem used_fr {σ σ' : St} {m : List Nat} (h : Fr m σ σ') (a : 10 ∉ m) (b : 30 ∉ m) (p : Int) : used σ' p ↔ used σ p := by
  unfold used
  rw [h 10 a, h 30 b]
theorem changed_ex {σ : St} {y n : Int} (hA : Alloc σ) (hn : 0 ≤ n ∧ n ≤ 255) (hT : TW σ y n) (hcl : ∀ x, 0 < x → x < n → ¬ σ 23 x = 0 → ¬ σ 23 (up x) = 0) (hfr : 256 ≤ σ 31 0) (hm : 0 ≤ σ 32 0 ∧ σ 32 0 + 300 ≤ 2147483000) :
    ∃ y' s, Pool_changed_one σ y n = some (y', s) ∧ TW s y' n ∧ Alloc s ∧ Ext σ s ∧ Fr [7, 8, 9, 12, 30, 31, 32] σ s ∧ s 31 0 + s 32 0 = σ 31 0 + σ 32 0 ∧ s 32 0 = σ 32 0 + cn (σ 23) n.toNat ∧ EN (fun x => ¬ σ 23 x = 0) σ s y' n ∧
      (∀ x, 0 ≤ x → x < n → σ 23 x = 0 → sl s y' x = sl σ y x) ∧ (∀ x, 0 ≤ x → x < n → ¬ σ 23 x = 0 → nu s (sl s y' x) = σ 26 x) := by
  obtain ⟨σa, ea, fa, -, ga⟩ := spread_eq σ y n hn
  have ua := used_fr fa (by decide) (by decide)
  have sa : ∀ z, sl σa y z = sl σ y z := fun z => sl_of (fa 8 (by decide)) (fa 9 (by decide)) y z
  have hAa := hA.es (fa 10 (by decide)) (fa 30 (by decide)) (fa 31 (by decide))
  have hTa : TW σa y n := hT.of (fa 8 (by decide)) (fa 9 (by decide)) (fun x x0 xn => (ua _).mpr (hT.1 x x0 xn))
  have e23 : σa 23 = σ 23 := fa 23 (by decide)
  have e26 : σa 26 = σ 26 := fa 26 (by decide)
  have e31 : σa 31 = σ 31 := fa 31 (by decide)
  have e32 : σa 32 = σ 32 := fa 32 (by decide)
  obtain ⟨s, e1, hL⟩ := changed_loopE (K := fun (s4 : St) => bndp (Pool_rootOf s4 n) fun v6 => some (v6, s4)) (f := σ 23) (u := σ 26) (σ := σa) hn (fun x _ _ => by rw [e23]) (fun x _ _ => by rw [e26]) (by rw [e31]; exact hfr) (by rw [e32]; exact hm) n.toNat FU σa (n - 1) (by omega) (by omega) (by unfold FU; omega) (LB.start hAa hn.1)
  have eP : Pool_changed_one σ y n = (fun (s4 : St) => bndp (Pool_rootOf s4 n) fun v6 => some (v6, s4)) s := by
    unfold Pool_changed_one
    rw [ea, bnd_eq, osub_eq (by omega), jn_eq]
    exact e1
  have hL' := hL
  obtain ⟨l1, l2, l3, l4, l5, l6, l7, l8⟩ := hL'
  have c0 : cn (σ 23) (-1 + 1 : Int).toNat = 0 := rfl
  rw [c0, e32] at l5
  rw [e31, e32] at l4
  have hE : Ext σ s := fun p hp => by
    have := l2 p ((ua p).mpr hp)
    rw [fa 7 (by decide), fa 8 (by decide), fa 9 (by decide)] at this
    exact this
  have hF : Fr [7, 8, 9, 12, 30, 31, 32] σ s := (fa.mono (by decide)).tr l3
  by_cases h0 : n = 0
  · subst h0
    refine ⟨0, s, ?_, TW.zero s, l1, hE, hF, l4, by omega, ⟨fun x x0 xn => by omega, fun x y x0 xy yn => by omega⟩, fun x x0 xn => by omega, fun x x0 xn => by omega⟩
    rw [eP]
    show bndp (Pool_rootOf s 0) _ = _
    unfold Pool_rootOf
    rw [if_neg (by omega), bndp_eq]
  · have hd := hL.done (g := fun z => z) (t := y) (by omega) (Or.inl hTa) hcl rfl (fun w _ _ => ⟨by omega, by omega⟩) (fun w w0 _ => ⟨w0, Iff.rfl⟩) (fun z z0 zn _ => ⟨by rw [ga z z0 zn, sa], rfl, rfl⟩) (Or.inl (fun _ => rfl))
    refine ⟨s 12 0, s, ?_, hd.1, l1, hE, hF, l4, by omega, ⟨fun x x0 xn q => ?_, fun x z x0 xz zn q r => ?_⟩, fun x x0 xn q => ?_, fun x x0 xn q => ?_⟩
    · rw [eP]
      show bndp (Pool_rootOf s n) _ = _
      unfold Pool_rootOf
      rw [if_pos (by omega), rd_eq (by omega), bndp_eq]
    · rw [hd.2 x x0 xn]
      exact fun hu => (l7 x (by omega) xn q).2.1 ((ua _).mpr hu)
    · rw [hd.2 x x0 (by omega), hd.2 z (by omega) zn]; exact l8 x z (by omega) xz zn q r
    · rw [hd.2 x x0 xn, l6 x x0 xn (Or.inr q), ga x x0 xn]
    · have w := l7 x (by omega) xn q
      rw [hd.2 x x0 xn, nu_used w.1, w.2.2.1]
theorem op_renew {ρ : Int → Int → Prop} {σ τ : St} {y n : Int} (hC : Cx ρ σ τ 400) (hI : RI ρ σ τ y n 6) (h3 : τ 3 7 = n) (hK : Mk σ τ n) (hrow : ∀ x, 0 ≤ x → x < n → σ 26 x = τ 1 (256 * 7 + x) ∧ -999 ≤ τ 1 (256 * 7 + x) ∧ τ 1 (256 * 7 + x) ≤ 999)
    (hun : ∀ x, 0 ≤ x → x < n → σ 23 x = 0 → τ 1 (256 * 7 + x) = τ 1 (256 * 6 + x)) (hno : ∀ x, 0 ≤ x → x < n → τ 2 (256 * 7 + x) = τ 2 (256 * 6 + x)) :
    ∃ y' σ' τ' ρ', Pool_changed_one σ y n = some (y', σ') ∧ M_renews τ = some (0, τ') ∧ Sx ρ σ τ ρ' σ' τ' 255 ∧ RI ρ' σ' τ' y' n 7 ∧ Rws [7] τ τ' := by
  have hI' := hI
  obtain ⟨hn, s6, hT, hCo⟩ := hI'
  obtain ⟨hB, hA, hf, hs, hm⟩ := hC
  obtain ⟨y', s, e1, t1, t2, t3, t4, t5, t6, t7, t8, t9⟩ := changed_ex hA hn hT hK.2 (by omega) (by omega)
  obtain ⟨τ', c1, c2, c3, c4, c5, c6, c7⟩ := renews_ex hn τ h3 ⟨hm.1, by omega⟩
  have ce : cn (σ 23) n.toNat = cn (τ 7) n.toNat := cn_ext _ (fun x a b => hK.1 x a (by omega))
  have cr := cn_rng (τ 7) n.toNat
  have hold : ∀ x, 0 ≤ x → x < n → ¬ ¬ σ 23 x = 0 → ρ (sl s y' x) (τ' 2 (256 * 7 + x)) := fun x x0 xn q => by
    have q := Classical.byContradiction q
    rw [t8 x x0 xn q, c5 x x0 xn ((hK.1 x x0 xn).mp q), hno x x0 xn]
    have c := hCo x x0 xn
    rw [vw1] at c
    exact c.1
  have hnum : ∀ x, 0 ≤ x → x < n → nu s (sl s y' x) = τ' 1 (256 * 7 + x) ∧ -999 ≤ τ' 1 (256 * 7 + x) ∧ τ' 1 (256 * 7 + x) ≤ 999 := fun x x0 xn => by
    rw [c3]
    have r := hrow x x0 xn
    refine ⟨?_, r.2⟩
    by_cases q : σ 23 x = 0
    · rw [t8 x x0 xn q, nu_ext (hT.1 x x0 xn) t3, hun x x0 xn q]
      exact (hI.num ⟨x0, xn⟩).1
    · rw [t9 x x0 xn q, r.1]
  obtain ⟨ρ', hX, hR⟩ := join_ex (W := fun x => ¬ σ 23 x = 0) (d := 255) hB hm.1 t2 t3 (t4.mono (by decide)) (c2.mono (by decide)) (by unfold Cnt; omega) hn t1 (by rw [c2 3 (by decide)]; exact h3) t7 (c6.iff (fun x x0 xn q r => q ((hK.1 x x0 xn).mpr r))) hnum hold
  exact ⟨y', s, τ', ρ', e1, c1, hX, hR, c4⟩
/-- nothing is marked -/
theorem op_renew0 {ρ : Int → Int → Prop} {σ τ : St} {y n : Int} (hC : Cx ρ σ τ 400) (hI : RI ρ σ τ y n 7) (hz : ∀ x, 0 ≤ x → x < n → σ 23 x = 0) :
    ∃ y' σ' ρ', Pool_changed_one σ y n = some (y', σ') ∧ Sx ρ σ τ ρ' σ' τ 255 ∧ RI ρ' σ' τ y' n 7 := by
  have hI' := hI
  obtain ⟨hn, s6, hT, hCo⟩ := hI'
  obtain ⟨hB, hA, hf, hs, hm⟩ := hC
  obtain ⟨y', s, e1, t1, t2, t3, t4, t5, t6, t7, t8, t9⟩ := changed_ex hA hn hT (fun x x0 xn q => absurd (hz x (by omega) xn) q) (by omega) (by omega)
  have ce : cn (σ 23) n.toNat = 0 := by
    have := cn_cut (f := σ 23) (m := 0) n.toNat (fun x a b => hz x (by omega) (by omega))
    rw [Nat.zero_add] at this
    rw [this]; rfl
  obtain ⟨ρ', hX, hR⟩ := join_ex (W := fun _ => False) (τ := τ) (τ' := τ) (d := 255) hB hm.1 t2 t3 (t4.mono (by decide)) (Fr.rf _ _) (by unfold Cnt; omega) hn t1 s6 ⟨fun _ _ _ q => absurd q id, fun _ _ _ _ _ q => absurd q id⟩ ⟨fun _ _ _ q => absurd q id, fun _ _ _ _ _ q => absurd q id⟩ (fun x x0 xn => by
    rw [t8 x x0 xn (hz x x0 xn), nu_ext (hT.1 x x0 xn) t3]
    exact hI.num ⟨x0, xn⟩) (fun x x0 xn _ => by
    rw [t8 x x0 xn (hz x x0 xn)]
    have c := hCo x x0 xn
    rw [vw1] at c
    exact c.1)
  exact ⟨y', s, ρ', e1, hX, hR⟩

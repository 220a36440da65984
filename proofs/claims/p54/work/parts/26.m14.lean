-- MATH 14: calls that make: their frame; the row that is told; FRONT, PUSH, FIRST
def AE : List Nat := [7, 8, 9, 10, 24, 25, 30, 31, 32, 12, 15, 16, 17, 18, 19, 20, 21, 22, 23, 26, 27, 28, 29, 36, 37, 38, 39, 40, 41, 42, 43, 44]
def AM : List Nat := [1, 2, 3, 30, 6, 7, 8, 9, 10, 11, 12, 13, 14, 33, 34, 35, 36, 37, 38, 39, 40, 41, 42, 43, 44, 45]
theorem SS.finr {k : Nat} {ρ : Int → Int → Prop} {σ τ σ' τ' : St} (h : SS k σ τ) (hW : Wd ρ σ' τ') (hE : Fr (13 :: 34 :: AE) σ σ') (hM : Fr (5 :: 32 :: AM) τ τ') (hr : Rw σ' τ') (h32 : σ' 32 0 = τ' 30 0) (hb : 0 ≤ σ' 32 0 - σ 32 0 ∧ σ' 32 0 - σ 32 0 ≤ 4096) : SS (k + 1) σ' τ' := by
  obtain ⟨-, hT, -, hn, hm⟩ := h
  refine ⟨⟨ρ, hW⟩, hT.fr hE hM (by decide) (by decide), hr, hn.fr hE (by decide), h32, ?_, ?_⟩
  · unfold Mb at hm; omega
  · unfold Mb at hm; omega
theorem SS.fin {k : Nat} {ρ : Int → Int → Prop} {σ τ σ' τ' : St} (h : SS k σ τ) (hW : Wd ρ σ' τ') (hE : Fr AE σ σ') (hM : Fr AM τ τ') (h32 : σ' 32 0 = τ' 30 0) (hb : 0 ≤ σ' 32 0 - σ 32 0 ∧ σ' 32 0 - σ 32 0 ≤ 4096) : SS (k + 1) σ' τ' :=
  h.finr hW (hE.mono (by decide)) (hM.mono (by decide)) (h.2.2.1.fr hE hM (by decide) (by decide)) h32 hb
theorem Wd.sc {ρ : Int → Int → Prop} {σ τ : St} {f : Nat} {v : Int} (h : Wd ρ σ τ) (hf : f ∉ [1, 2, 3, 30]) : Wd ρ σ (us τ f 0 v) := by
  have a : ∀ g ∈ [1, 2, 3, 30], us τ f 0 v g = τ g := fun g hg => us_f (fun e => hf (by rw [← e]; exact hg))
  exact h.mv (m := []) (Fr.rf _ _) (by decide) (l := []) (Rws.of (a 1 (by decide)) (a 2 (by decide)) (a 3 (by decide))) (by decide) (by rw [a 30 (by decide)])
theorem open_ex {ρ : Int → Int → Prop} {σ τ : St} (hW : Wd ρ σ τ) (hm : σ 32 0 = τ 30 0 ∧ 0 ≤ σ 32 0 ∧ σ 32 0 ≤ 2097152) {i : Int} (hi : 0 ≤ i ∧ i < 6) :
    ∃ σ1 ρ1 τ1 τ2, E_begin σ = some (σ 32 0, σ1) ∧ M_asks τ i = some (0, τ1) ∧ M_begins τ1 = some (0, τ2) ∧ Wd ρ1 σ1 τ2 ∧ Cx ρ1 σ1 τ2 4096 ∧ RI ρ1 σ1 τ2 (σ1 24 i) (σ1 25 i) 6 ∧ RI ρ1 σ1 τ2 (σ1 24 i) (σ1 25 i) 7 ∧
      Fr [10, 12, 30, 31] σ σ1 ∧ Fr [1, 2, 3, 34] τ τ2 ∧ Rws [6, 7] τ τ2 ∧ τ2 30 0 = σ 32 0 ∧ τ2 34 0 = σ 32 0 := by
  obtain ⟨σ1, ρ1, e1, hW1, hf, f1⟩ := begin_ex hW
  have hP := hW1.2.2 i hi.1 hi.2
  have n0 := hP.1
  have s0 := hP.2.1
  obtain ⟨τ1, e2, g2, r2, s6, s7, c6, c7⟩ := asks_ex τ i hi (by omega)
  rw [s0] at s6 s7 c6 c7
  have h30 : τ1 30 0 = τ 30 0 := by rw [g2 30 (by decide)]
  have hW2 : Wd ρ1 σ1 τ1 := hW1.mv (m := []) (Fr.rf _ _) (by decide) r2 (by decide) h30
  have h32 : σ1 32 0 = σ 32 0 := by rw [f1 32 (by decide)]
  have r0 : ∀ l, Rws l τ1 (us τ1 34 0 (τ1 30 0)) := fun l => Rws.of (us_f (by decide)) (us_f (by decide)) (us_f (by decide))
  refine ⟨σ1, ρ1, τ1, us τ1 34 0 (τ1 30 0), e1, e2, rfl, hW2.sc (by decide), ⟨hW2.1.mono (by rw [us_ne (by decide)]; omega), hW2.2.1, hf, by omega, ?_⟩, (hP.cp s6 c6).rw (r0 []) (by decide), (hP.cp s7 c7).rw (r0 []) (by decide), f1, (g2.mono (by decide)).us (by decide), r2.tr (r0 _), by rw [us_ne (by decide)]; omega, by rw [us_eq]; omega⟩
  rw [us_ne (by decide)]; omega
theorem close_ex {ρ ρ' : Int → Int → Prop} {σ τ σ' τ' : St} {d y n k c : Int} {l : List Int} (hW : Wd ρ σ τ) (hX : Sx ρ σ τ ρ' σ' τ' d) (hd : d ≤ 4096) (hR : Rws l τ τ') (hl : ∀ p ∈ l, 6 ≤ p) (hI : RI ρ' σ' τ' y n 7) (hk : 0 ≤ k ∧ k < 6) (hc : σ 32 0 = c ∧ τ 30 0 = c ∧ τ 34 0 = c) (hc0 : 0 ≤ c ∧ c ≤ 2097152) :
    ∃ σ2 τ2, E_keep σ' k y n = some (n, σ2) ∧ M_ends τ' k = some (σ2 32 0 - c, τ2) ∧ Wd ρ' σ2 τ2 ∧ Fr [24, 25] σ' σ2 ∧ Fr [1, 2, 3] τ' τ2 ∧ σ2 32 0 = τ2 30 0 ∧ 0 ≤ σ2 32 0 - c ∧ σ2 32 0 - c ≤ 4096 := by
  obtain ⟨σ2, τ2, e1, e2, hW2, f2, g2, r2, s2⟩ := keep_ends hW hX hR hl (w := 7) (by omega) hI hk
  have hcn := hX.cnt
  have a1 : σ2 32 0 = σ' 32 0 := by rw [f2 32 (by decide)]
  have a2 : τ2 30 0 = τ' 30 0 := by rw [g2 30 (by decide)]
  have a3 : τ2 34 0 = c := by rw [g2 34 (by decide), hX.2.2.2.2.2.2.1 34 (by decide)]; exact hc.2.2
  refine ⟨σ2, τ2, e1, ?_, hW2, f2, g2, by omega, by omega, by omega⟩
  unfold M_ends
  rw [e2, bnd_eq]
  simp (disch := omega) only [gf_eq, osub_eq, a3]
  congr 2; omega
-- the row that is told
theorem Row_add_ex {σ : St} {v : Int} (h : 0 ≤ σ 34 0 ∧ σ 34 0 < 16) (hv : -2147483648 ≤ v ∧ v ≤ 2147483647) : ∃ σ', Row_add σ v = some (0, σ') ∧ Fr [13, 34] σ σ' ∧ σ' 34 0 = σ 34 0 + 1 ∧ σ' 13 (σ 34 0) = v ∧ ∀ j, j ≠ σ 34 0 → σ' 13 j = σ 13 j := by
  have e : Row_add σ v = some (0, us (us σ 13 (σ 34 0) v) 34 0 (σ 34 0 + 1)) := by
    unfold Row_add
    simp (disch := omega) only [gf_eq, ite_y, wrL_eq, pf_eq]
    simp (disch := decide) only [us_ne]
    simp (disch := omega) only [oadd_eq]
  refine ⟨_, e, ((Fr.rf _ _).us (by decide)).us (by decide), us_eq _ _ _ _, ?_, fun j hj => ?_⟩
  · rw [us_ne (by decide), us_eq]
  · rw [us_ne (by decide), us_ni hj]
theorem M_tell_ex {τ : St} {v : Int} (h : 0 ≤ τ 32 0 ∧ τ 32 0 < 32) (hv : -2147483648 ≤ v ∧ v ≤ 2147483647) : ∃ τ', M_tell τ v = some (0, τ') ∧ Fr [5, 32] τ τ' ∧ τ' 32 0 = τ 32 0 + 1 ∧ τ' 5 (τ 32 0) = v ∧ ∀ j, j ≠ τ 32 0 → τ' 5 j = τ 5 j := by
  have e : M_tell τ v = some (0, us (us τ 5 (τ 32 0) v) 32 0 (τ 32 0 + 1)) := by
    unfold M_tell
    simp (disch := omega) only [gf_eq, wrL_eq, pf_eq]
    simp (disch := decide) only [us_ne]
    simp (disch := omega) only [oadd_eq]
  refine ⟨_, e, ((Fr.rf _ _).us (by decide)).us (by decide), us_eq _ _ _ _, ?_, fun j hj => ?_⟩
  · rw [us_ne (by decide), us_eq]
  · rw [us_ne (by decide), us_ni hj]
theorem Rw.add {σ τ : St} {v : Int} (h : Rw σ τ) (hl : σ 34 0 < 16) (hv : -2147483648 ≤ v ∧ v ≤ 2147483647) : ∃ σ' τ', Row_add σ v = some (0, σ') ∧ M_tell τ v = some (0, τ') ∧ Rw σ' τ' ∧ Fr [13, 34] σ σ' ∧ Fr [5, 32] τ τ' ∧ σ' 34 0 = σ 34 0 + 1 := by
  obtain ⟨h1, h2, h3⟩ := h
  obtain ⟨σ', e1, f1, a1, a2, a3⟩ := Row_add_ex (σ := σ) (v := v) (by omega) hv
  obtain ⟨τ', e2, f2, b1, b2, b3⟩ := M_tell_ex (τ := τ) (v := v) (by omega) hv
  refine ⟨σ', τ', e1, e2, ⟨by omega, by omega, fun j j0 jn => ?_⟩, f1, f2, a1⟩
  by_cases e : j = σ 34 0
  · rw [e, a2, h1, b2]
  · rw [a3 j e, b3 j (by omega), h3 j j0 (by omega)]
theorem Rw.nil (σ τ : St) : Rw (us σ 34 0 0) (us τ 32 0 0) := ⟨by rw [us_eq, us_eq], by rw [us_eq]; omega, fun j j0 jn => by rw [us_eq] at jn; omega⟩
theorem tells1 (σ τ : St) {a : Int} (ha : -2147483648 ≤ a ∧ a ≤ 2147483647) : ∃ σ' τ', Row_tell σ a = some (0, σ') ∧ M_tell (us τ 32 0 0) a = some (0, τ') ∧ Rw σ' τ' ∧ Fr [13, 34] σ σ' ∧ Fr [5, 32] τ τ' ∧ σ' 34 0 = 1 := by
  obtain ⟨σ1, τ1, e1, e2, r1, f1, g1, n1⟩ := (Rw.nil σ τ).add (v := a) (by rw [us_eq]; omega) ha
  refine ⟨σ1, τ1, ?_, e2, r1, ((Fr.rf _ σ).us (by decide)).tr f1, ((Fr.rf _ τ).us (by decide)).tr g1, by rw [n1, us_eq]; rfl⟩
  unfold Row_tell Row_clear
  simp only [pf_eq, bnd_eq, e1]
theorem tells2 (σ τ : St) {a b : Int} (ha : -2147483648 ≤ a ∧ a ≤ 2147483647) (hb : -2147483648 ≤ b ∧ b ≤ 2147483647) : ∃ σ' τ1 τ', Row_tell1 σ a b = some (0, σ') ∧ M_tell (us τ 32 0 0) a = some (0, τ1) ∧ M_tell τ1 b = some (0, τ') ∧ Rw σ' τ' ∧ Fr [13, 34] σ σ' ∧ Fr [5, 32] τ τ1 ∧ Fr [5, 32] τ τ' ∧ σ' 34 0 = 2 := by
  obtain ⟨σ1, τ1, e1, e2, r1, f1, g1, n1⟩ := tells1 σ τ ha
  obtain ⟨σ2, τ2, e3, e4, r2, f2, g2, n2⟩ := r1.add (v := b) (by omega) hb
  refine ⟨σ2, τ1, τ2, ?_, e2, e4, r2, f1.tr f2, g1, g1.tr g2, by omega⟩
  unfold Row_tell1
  simp only [e1, bnd_eq, e3]
theorem tells3 (σ τ : St) {a b c : Int} (ha : -2147483648 ≤ a ∧ a ≤ 2147483647) (hb : -2147483648 ≤ b ∧ b ≤ 2147483647) (hc : -2147483648 ≤ c ∧ c ≤ 2147483647) : ∃ σ' τ1 τ2 τ', Row_tell2 σ a b c = some (0, σ') ∧ M_tell (us τ 32 0 0) a = some (0, τ1) ∧ M_tell τ1 b = some (0, τ2) ∧ M_tell τ2 c = some (0, τ') ∧ Rw σ' τ' ∧ Fr [13, 34] σ σ' ∧ Fr [5, 32] τ τ1 ∧ Fr [5, 32] τ τ2 ∧ Fr [5, 32] τ τ' := by
  obtain ⟨σ1, τ1, τ2, e1, e2, e3, r1, f1, g1, g2, n1⟩ := tells2 σ τ ha hb
  obtain ⟨σ3, τ3, e4, e5, r2, f2, g3, n2⟩ := r1.add (v := c) (by omega) hc
  refine ⟨σ3, τ1, τ2, τ3, ?_, e2, e3, e5, r2, f1.tr f2, g1, g2, g2.tr g3⟩
  unfold Row_tell2
  simp only [e1, bnd_eq, e4]
-- numbers by index
theorem numberAt_loop (K : Int → Option Int) (σ : St) : ∀ (m : Nat) (t x : Int), 0 ≤ x → x < m → x ≤ 2147483647 → Pool_numberAt_L5 K σ m t x = K (sl σ t x) := by
  intro m
  induction m with
  | zero => intro t x h0 h1; exfalso; omega
  | succ m ih =>
    intro t x h0 h1 h2
    unfold Pool_numberAt_L5
    by_cases hx : x ≤ 0
    · simp (disch := omega) only [ite_n]
      rw [sl_0 _ _ hx]
    · obtain ⟨j, hj0, hj1, hj⟩ := half x (by omega)
      rcases hj with rfl | rfl
      · simp (disch := omega) only [↓ite_y, ↓orem_eq, ↓jn_eq, ↓Pool_leftOf_eq, ↓bndp_eq, ↓osub_eq, ↓odiv_eq]
        rw [sl_odd σ t hj0 rfl, ih _ _ (by omega) (by omega) (by omega)]
        congr 2; omega
      · simp (disch := omega) only [↓ite_y, ↓ite_n, ↓orem_eq, ↓jn_eq, ↓Pool_rightOf_eq, ↓bndp_eq, ↓osub_eq, ↓odiv_eq]
        rw [sl_even σ t hj0 rfl, ih _ _ (by omega) (by omega) (by omega)]
        congr 2; omega
theorem numberAt_eq (σ : St) (t : Int) {x : Int} (hx : 0 ≤ x ∧ x < 255) : Pool_numberAt σ t x = some (nu σ (sl σ t x)) := by
  unfold Pool_numberAt
  rw [jn_eq, numberAt_loop _ σ FU t x hx.1 (by unfold FU; omega) (by omega)]
  simp only [Pool_numberOf_eq, bndp_eq]
theorem RI.num {ρ : Int → Int → Prop} {σ τ : St} {t n r x : Int} (h : RI ρ σ τ t n r) (hx : 0 ≤ x ∧ x < n) : nu σ (sl σ t x) = τ 1 (256 * r + x) ∧ -999 ≤ τ 1 (256 * r + x) ∧ τ 1 (256 * r + x) ≤ 999 := by
  have c := h.2.2.2 x hx.1 hx.2
  rw [vw1] at c
  exact c.2
theorem op_front {ρ : Int → Int → Prop} {σ τ : St} {y n v : Int} (hC : Cx ρ σ τ 12) (hI : RI ρ σ τ y n 6) (hn : n ≤ 254) (hv : -999 ≤ v ∧ v ≤ 999) :
    ∃ y' σ' τ' ρ', Pool_put σ v y n 0 = some (y', σ') ∧ M_fronts RD τ 0 1 n 0 1 v = some (0, τ') ∧ τ' 3 6 = n ∧ Sx ρ σ τ ρ' σ' (us τ' 3 7 (n + 1)) 12 ∧ RI ρ' σ' (us τ' 3 7 (n + 1)) y' (n + 1) 7 ∧ Rws [7] τ (us τ' 3 7 (n + 1)) := by
  obtain ⟨hB, hA, hf, hs, hm⟩ := hC
  obtain ⟨n0, s6, hT, hCo⟩ := hI
  unfold Pool_put
  simp (disch := omega) only [ite_y, RD_eq]
  obtain ⟨y', σ', τ2, ρ', g1, g2, g3, g4, g5, g6, g7⟩ := front_step 12 σ τ ρ v y n 0 1 0 1 hB hA (by omega) (by omega) (by omega) (by rw [p2_12]; omega) (by omega) hT (by omega) (by omega) (by omega) (Vok01 _ (by omega)) (Vok01 _ (by omega)) hCo hv
  rw [g1, g2, bnd_eq]
  have r2 : Rws [7] τ τ2 := g6.rws (by omega) (g7 3 (by decide))
  have r3 : Rws [7] τ2 (us τ2 3 7 (n + 1)) := ⟨fun q _ => ⟨us_ne (by decide), us_ne (by decide)⟩, fun p hp => us_ni (by simp at hp; exact hp)⟩
  have f3 : Fr FM τ2 (us τ2 3 7 (n + 1)) := (Fr.rf _ _).us (by decide)
  refine ⟨y', σ', τ2, ρ', rfl, rfl, by rw [g7 3 (by decide), s6], (g3.post f3 (us_ne (by decide))).le (by omega), ⟨by omega, us_eq _ _ _ _, g4, ?_⟩, r2.tr r3⟩
  exact Co.stp (g := vw 7 0 1) g5 g4 (by omega) (fun _ _ q => q) (Ext.rf σ') (fun x x0 xn => ⟨us_ne (by decide), us_ne (by decide)⟩)

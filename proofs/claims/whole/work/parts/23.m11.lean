-- MATH 11: SIFT, both sides
theorem sift_stop {σ τ τ1 : St} {ρ : Int → Int → Prop} {v l r n at_ sp e : Int} (hB : Bi ρ σ τ) (hA : Alloc σ) (hf : 1 ≤ σ 31 0) (hs : 0 ≤ σ 32 0 ∧ σ 32 0 ≤ 2147483000) (hm : 0 ≤ τ 30 0) (he : 0 ≤ e)
    (hn : 1 ≤ n ∧ n ≤ 255) (hTl : TW σ l (n / 2)) (hTr : TW σ r ((n - 1) / 2)) (hsp : 1 ≤ sp)
    (hCl : Co ρ σ τ l (vw 7 (at_ + sp) (2 * sp)) (n / 2)) (hCr : Co ρ σ τ r (vw 7 (at_ + 2 * sp) (2 * sp)) ((n - 1) / 2)) (hv : -999 ≤ v ∧ v ≤ 999)
    (f1 : Fr [1, 2, 30] τ τ1) (h31 : τ1 30 0 = τ 30 0 + 1) (h1v : τ1 1 (256 * 7 + at_) = v) (h1n : τ1 2 (256 * 7 + at_) = τ 30 0 + 1) (h1q : ∀ q, q ≠ 256 * 7 + at_ → τ1 1 q = τ 1 q ∧ τ1 2 q = τ 2 q) :
    ∃ y σ' ρ', Pool_make σ v l r = some (y, σ') ∧ Sx ρ σ τ ρ' σ' τ1 (e + 1) ∧ TW σ' y n ∧ Co ρ' σ' τ1 y (vw 7 at_ sp) n ∧ Keep7 τ τ1 at_ sp n := by
  obtain ⟨y, σ2, e1, hM⟩ := make_eq σ v l r hA hf hs
  have c0 : ∀ j, j ≠ 0 → τ1 1 (vw 7 at_ sp j) = τ 1 (vw 7 at_ sp j) ∧ τ1 2 (vw 7 at_ sp j) = τ 2 (vw 7 at_ sp j) := fun j hj => h1q _ (by
    have := vw_ne (r := 7) (a := at_) (b := sp) (j := j) (k := 0) (by omega) hj
    rw [vw_0] at this
    exact this)
  obtain ⟨ρ2, q1, q2, q3⟩ := fin_node (g := vw 7 at_ sp) hB (Sx.rf (hB.mono (τ' := τ1) (by omega)) hA (Fr.rf _ _) rfl) h31 hm (f1.mono (by decide)) hM hTl hTr (by omega) (by omega) hv
    (by rw [vw_0, h1v]) (by rw [vw_0, h1n, h31])
    (fun x x0 xn => by
      have c := hCl x x0 xn
      have k := c0 (2 * x + 1) (by omega)
      rw [← vw_o, ← k.1, ← k.2] at c
      exact c)
    (fun x x0 xn => by
      have c := hCr x x0 xn
      have k := c0 (2 * x + 2) (by omega)
      rw [← vw_e, ← k.1, ← k.2] at c
      exact c)
  have e3 : n / 2 + (n - 1) / 2 + 1 = n := by omega
  rw [e3] at q2 q3
  refine ⟨y, σ2, ρ2, e1, q1.le (by omega), q2, q3, fun q hq => h1q q ?_⟩
  have := hq 0 (by omega) (by omega)
  rw [vw_0] at this
  exact this
theorem sift_step : ∀ (e d m : Nat) (σ τ : St) (ρ : Int → Int → Prop) (v l r n at_ sp : Int), e < d → e + 2 ≤ m → Bi ρ σ τ → Alloc σ → (e : Int) + 1 ≤ σ 31 0 → (0 ≤ σ 32 0 ∧ σ 32 0 + e + 1 ≤ 2147483000) → (0 ≤ τ 30 0 ∧ τ 30 0 + e + 1 ≤ 2147483000) →
    n < 2 * p2 e → (1 ≤ n ∧ n ≤ 255) → TW σ l (n / 2) → TW σ r ((n - 1) / 2) → 0 ≤ at_ → (1 ≤ sp ∧ sp ≤ 512) → Vok at_ sp n →
    Co ρ σ τ l (vw 7 (at_ + sp) (2 * sp)) (n / 2) → Co ρ σ τ r (vw 7 (at_ + 2 * sp) (2 * sp)) ((n - 1) / 2) → (-999 ≤ v ∧ v ≤ 999) →
    ∃ y σ' τ' ρ', Pool_sifted d σ v l r e = some (y, σ') ∧ M_sifts_L16 v m τ at_ sp n 1 = some (0, τ') ∧ Sx ρ σ τ ρ' σ' τ' (e + 1) ∧ TW σ' y n ∧ Co ρ' σ' τ' y (vw 7 at_ sp) n ∧ Keep7 τ τ' at_ sp n ∧ Fr [1, 2, 30] τ τ' := by
  intro e
  induction e with
  | zero =>
    intro d m σ τ ρ v l r n at_ sp hd hmf hB hA hf hs hm hp hn hTl hTr hat hsp hV hCl hCr hv
    unfold p2 at hp
    have hV0 := hV 0 (by omega) (by omega)
    have en : n = 1 := by omega
    subst en
    have el : l = 0 := hTl.empty
    have er : r = 0 := hTr.empty
    obtain ⟨τ1, e0, f1, h31, h1v, h1n, h1q⟩ := makes_ex (τ := τ) (r := 7) (a := at_) (v := v) (by omega) (by omega) (by omega)
    obtain ⟨y, σ', ρ', g1, g2, g3, g4, g5⟩ := sift_stop (e := ((0 : Nat) : Int)) hB hA (by omega) (by omega) (by omega) (by omega) hn hTl hTr (by omega) hCl hCr hv f1 h31 h1v h1n h1q
    refine ⟨y, σ', τ1, ρ', ?_, ?_, g2, g3, g4, g5, f1⟩
    · cases d with
      | zero => omega
      | succ d =>
        unfold Pool_sifted
        simp (disch := omega) only [jn_eq, ite_y, ite_n]
        rw [g1]
        rfl
    · cases m with
      | zero => omega
      | succ m =>
        cases m with
        | zero => omega
        | succ m =>
          unfold M_sifts_L16
          simp (disch := omega) only [↓jn_eq, ↓ite_y, ↓ite_n, ↓oadd_eq, ↓omul_eq, ↓M_leftSize_eq, ↓M_rightSize_eq, ↓bndp_eq, ↓oif_f, ↓oif_t, ↓e0, ↓bnd_eq]
          unfold M_sifts_L16
          exact if_pos rfl
  | succ e ih =>
    intro d m σ τ ρ v l r n at_ sp hd hmf hB hA hf hs hm hp hn hTl hTr hat hsp hV hCl hCr hv
    unfold p2 at hp
    have hV0 := hV 0 (by omega) (by omega)
    have stop : ∀ τ1, Fr [1, 2, 30] τ τ1 → τ1 30 0 = τ 30 0 + 1 → τ1 1 (256 * 7 + at_) = v → τ1 2 (256 * 7 + at_) = τ 30 0 + 1 → (∀ q, q ≠ 256 * 7 + at_ → τ1 1 q = τ 1 q ∧ τ1 2 q = τ 2 q) → Pool_sifted d σ v l r ((e + 1 : Nat) : Int) = Pool_make σ v l r → M_sifts_L16 v m τ at_ sp n 1 = some (0, τ1) →
        ∃ y σ' τ' ρ', Pool_sifted d σ v l r ((e + 1 : Nat) : Int) = some (y, σ') ∧ M_sifts_L16 v m τ at_ sp n 1 = some (0, τ') ∧ Sx ρ σ τ ρ' σ' τ' (((e + 1 : Nat) : Int) + 1) ∧ TW σ' y n ∧ Co ρ' σ' τ' y (vw 7 at_ sp) n ∧ Keep7 τ τ' at_ sp n ∧ Fr [1, 2, 30] τ τ' := fun τ1 f1 h31 h1v h1n h1q a1 a2 => by
      obtain ⟨y, σ', ρ', g1, g2, g3, g4, g5⟩ := sift_stop (e := ((e + 1 : Nat) : Int)) hB hA (by omega) (by omega) (by omega) (by omega) hn hTl hTr (by omega) hCl hCr hv f1 h31 h1v h1n h1q
      exact ⟨y, σ', τ1, ρ', a1.trans g1, a2, g2, g3, g4, g5, f1⟩
    sorry

-- MATH 11: SIFT, both sides
theorem E_sift_stop {d : Nat} {σ : St} {v l r e : Int} (h1 : ¬ (l ≠ 0 ∧ nu σ l < v)) (h2 : ¬ (r ≠ 0 ∧ nu σ r < v)) : Pool_sifted (d + 1) σ v l r e = Pool_make σ v l r := by
  have fin : (bnd (Pool_make σ v l r) fun a b => some (a, b)) = Pool_make σ v l r := by
    cases Pool_make σ v l r with
    | none => rfl
    | some z => rfl
  unfold Pool_sifted
  by_cases hl : l = 0
  · by_cases hr : r = 0
    · simp (disch := omega) only [↓jn_eq, ↓ite_y, ↓ite_n]
      by_cases he : 0 < e
      · rw [if_pos he]; exact fin
      · rw [if_neg he]; exact fin
    · simp (disch := omega) only [↓jn_eq, ↓ite_y, ↓ite_n, ↓Pool_numberOf_eq, ↓bndp_eq]
      by_cases he : 0 < e
      · rw [if_pos he]; exact fin
      · rw [if_neg he]; exact fin
  · by_cases hr : r = 0
    · simp (disch := omega) only [↓jn_eq, ↓ite_y, ↓ite_n, ↓Pool_numberOf_eq, ↓bndp_eq]
      by_cases he : 0 < e
      · rw [if_pos he]; exact fin
      · rw [if_neg he]; exact fin
    · simp (disch := omega) only [↓jn_eq, ↓ite_y, ↓ite_n, ↓Pool_numberOf_eq, ↓bndp_eq]
      by_cases he : 0 < e
      · rw [if_pos he]; exact fin
      · rw [if_neg he]; exact fin
theorem E_sift_left {d : Nat} {σ : St} {v l r e : Int} (he : 0 < e ∧ e ≤ 100) (hl : l ≠ 0) (h1 : nu σ l < v ∨ (r ≠ 0 ∧ nu σ r < v)) (h2 : ¬ (r ≠ 0 ∧ nu σ r < nu σ l)) :
    Pool_sifted (d + 1) σ v l r e = bnd (Pool_sifted d σ v (lf σ l) (rt σ l) (e - 1)) fun y s => bnd (Pool_make s (nu s l) y r) fun a b => some (a, b) := by
  conv => lhs; unfold Pool_sifted
  by_cases hr : r = 0
  · simp (disch := omega) only [↓jn_eq, ↓ite_y, ↓ite_n, ↓Pool_numberOf_eq, ↓bndp_eq, ↓Pool_leftOf_eq, ↓Pool_rightOf_eq, ↓osub_eq]
  · by_cases c1 : nu σ l < v
    · by_cases c2 : nu σ r < v
      · simp (disch := omega) only [↓jn_eq, ↓ite_y, ↓ite_n, ↓Pool_numberOf_eq, ↓bndp_eq, ↓Pool_leftOf_eq, ↓Pool_rightOf_eq, ↓osub_eq]
      · simp (disch := omega) only [↓jn_eq, ↓ite_y, ↓ite_n, ↓Pool_numberOf_eq, ↓bndp_eq, ↓Pool_leftOf_eq, ↓Pool_rightOf_eq, ↓osub_eq]
    · exfalso; omega
theorem E_sift_right {d : Nat} {σ : St} {v l r e : Int} (he : 0 < e ∧ e ≤ 100) (hl : l ≠ 0) (hr : r ≠ 0) (h1 : nu σ l < v ∨ nu σ r < v) (h2 : nu σ r < nu σ l) :
    Pool_sifted (d + 1) σ v l r e = bnd (Pool_sifted d σ v (lf σ r) (rt σ r) (e - 1)) fun y s => bnd (Pool_make s (nu s r) l y) fun a b => some (a, b) := by
  conv => lhs; unfold Pool_sifted
  have c2 : nu σ r < v := by omega
  by_cases c1 : nu σ l < v
  · simp (disch := omega) only [↓jn_eq, ↓ite_y, ↓ite_n, ↓Pool_numberOf_eq, ↓bndp_eq, ↓Pool_leftOf_eq, ↓Pool_rightOf_eq, ↓osub_eq]
  · simp (disch := omega) only [↓jn_eq, ↓ite_y, ↓ite_n, ↓Pool_numberOf_eq, ↓bndp_eq, ↓Pool_leftOf_eq, ↓Pool_rightOf_eq, ↓osub_eq]
theorem M_sift_stop {m : Nat} {τ τ1 : St} {v at_ sp n p q : Int} (ha : 0 ≤ at_ ∧ at_ < 256) (hs : 1 ≤ sp ∧ sp ≤ 512) (hn : 1 ≤ n ∧ n ≤ 255) (hL : 1 ≤ n / 2 → M_number τ 7 (at_ + sp) = some p) (hR : 1 ≤ (n - 1) / 2 → M_number τ 7 (at_ + 2 * sp) = some q)
    (h1 : ¬ (1 ≤ n / 2 ∧ p < v)) (h2 : ¬ (1 ≤ (n - 1) / 2 ∧ q < v)) (e0 : M_makes τ 7 at_ v = some (0, τ1)) : M_sifts_L16 v (m + 2) τ at_ sp n 1 = some (0, τ1) := by
  have fin : ∀ a b c, M_sifts_L16 v (m + 1) τ1 a b c 0 = some (0, τ1) := fun a b c => by
    unfold M_sifts_L16
    exact if_pos rfl
  unfold M_sifts_L16
  by_cases cl : 1 ≤ n / 2
  · have n1 := hL cl
    by_cases cr : 1 ≤ (n - 1) / 2
    · have n2 := hR cr
      clear hL hR
      by_cases c3 : q < p
      · simp (disch := omega) only [↓jn_eq, ↓ite_y, ↓ite_n, ↓oadd_eq, ↓omul_eq, ↓M_leftSize_eq, ↓M_rightSize_eq, ↓bndp_eq, ↓oif_f, ↓oif_t, ↓e0, ↓bnd_eq, ↓n1, ↓n2, fin]
      · simp (disch := omega) only [↓jn_eq, ↓ite_y, ↓ite_n, ↓oadd_eq, ↓omul_eq, ↓M_leftSize_eq, ↓M_rightSize_eq, ↓bndp_eq, ↓oif_f, ↓oif_t, ↓e0, ↓bnd_eq, ↓n1, ↓n2, fin]
    · clear hL hR
      simp (disch := omega) only [↓jn_eq, ↓ite_y, ↓ite_n, ↓oadd_eq, ↓omul_eq, ↓M_leftSize_eq, ↓M_rightSize_eq, ↓bndp_eq, ↓oif_f, ↓oif_t, ↓e0, ↓bnd_eq, ↓n1, fin]
  · clear hL hR
    simp (disch := omega) only [↓jn_eq, ↓ite_y, ↓ite_n, ↓oadd_eq, ↓omul_eq, ↓M_leftSize_eq, ↓M_rightSize_eq, ↓bndp_eq, ↓oif_f, ↓oif_t, ↓e0, ↓bnd_eq, fin]
theorem M_sift_left {m : Nat} {τ τ1 : St} {v at_ sp n p q : Int} (ha : 0 ≤ at_ ∧ at_ < 256) (hs : 1 ≤ sp ∧ sp ≤ 512) (hn : 1 ≤ n ∧ n ≤ 255) (hL : 1 ≤ n / 2) (n1 : M_number τ 7 (at_ + sp) = some p) (hR : 1 ≤ (n - 1) / 2 → M_number τ 7 (at_ + 2 * sp) = some q)
    (h1 : p < v ∨ (1 ≤ (n - 1) / 2 ∧ q < v)) (h2 : ¬ (1 ≤ (n - 1) / 2 ∧ q < p)) (e0 : M_makes τ 7 at_ p = some (0, τ1)) : M_sifts_L16 v (m + 1) τ at_ sp n 1 = M_sifts_L16 v m τ1 (at_ + sp) (sp * 2) (n / 2) 1 := by
  conv => lhs; unfold M_sifts_L16
  by_cases cr : 1 ≤ (n - 1) / 2
  · have n2 := hR cr
    clear hR
    by_cases c1 : p < v
    · simp (disch := omega) only [↓jn_eq, ↓ite_y, ↓ite_n, ↓oadd_eq, ↓omul_eq, ↓M_leftSize_eq, ↓M_rightSize_eq, ↓bndp_eq, ↓oif_f, ↓oif_t, ↓e0, ↓bnd_eq, ↓n1, ↓n2]
    · exfalso; omega
  · clear hR
    simp (disch := omega) only [↓jn_eq, ↓ite_y, ↓ite_n, ↓oadd_eq, ↓omul_eq, ↓M_leftSize_eq, ↓M_rightSize_eq, ↓bndp_eq, ↓oif_f, ↓oif_t, ↓e0, ↓bnd_eq, ↓n1]
theorem M_sift_right {m : Nat} {τ τ1 : St} {v at_ sp n p q : Int} (ha : 0 ≤ at_ ∧ at_ < 256) (hs : 1 ≤ sp ∧ sp ≤ 512) (hn : 1 ≤ n ∧ n ≤ 255) (hL : 1 ≤ n / 2) (n1 : M_number τ 7 (at_ + sp) = some p) (hR : 1 ≤ (n - 1) / 2 → M_number τ 7 (at_ + 2 * sp) = some q)
    (h1 : p < v ∨ (1 ≤ (n - 1) / 2 ∧ q < v)) (h2 : 1 ≤ (n - 1) / 2 ∧ q < p) (e0 : M_makes τ 7 at_ q = some (0, τ1)) : M_sifts_L16 v (m + 1) τ at_ sp n 1 = M_sifts_L16 v m τ1 (at_ + 2 * sp) (sp * 2) ((n - 1) / 2) 1 := by
  conv => lhs; unfold M_sifts_L16
  have n2 := hR h2.1
  clear hR
  by_cases c1 : p < v
  · simp (disch := omega) only [↓jn_eq, ↓ite_y, ↓ite_n, ↓oadd_eq, ↓omul_eq, ↓M_leftSize_eq, ↓M_rightSize_eq, ↓bndp_eq, ↓oif_f, ↓oif_t, ↓e0, ↓bnd_eq, ↓n1, ↓n2]
  · simp (disch := omega) only [↓jn_eq, ↓ite_y, ↓ite_n, ↓oadd_eq, ↓omul_eq, ↓M_leftSize_eq, ↓M_rightSize_eq, ↓bndp_eq, ↓oif_f, ↓oif_t, ↓e0, ↓bnd_eq, ↓n1, ↓n2]
theorem sift_stop {σ τ τ1 : St} {ρ : Int → Int → Prop} {v l r n at_ sp e : Int} (hB : Bi ρ σ τ) (hA : Alloc σ) (hf : 1 ≤ σ 31 0) (hs : 0 ≤ σ 32 0 ∧ σ 32 0 ≤ 2147483000) (hm : 0 ≤ τ 30 0) (he : 0 ≤ e)
    (hn : 1 ≤ n ∧ n ≤ 255) (hTl : TW σ l (n / 2)) (hTr : TW σ r ((n - 1) / 2)) (hsp : 1 ≤ sp)
    (hCl : Co ρ σ τ l (vw 7 (at_ + sp) (2 * sp)) (n / 2)) (hCr : Co ρ σ τ r (vw 7 (at_ + 2 * sp) (2 * sp)) ((n - 1) / 2)) (hv : -999 ≤ v ∧ v ≤ 999)
    (f1 : Fr [1, 2, 30] τ τ1) (h31 : τ1 30 0 = τ 30 0 + 1) (h1v : τ1 1 (256 * 7 + at_) = v) (h1n : τ1 2 (256 * 7 + at_) = τ 30 0 + 1) (h1q : ∀ q, q ≠ 256 * 7 + at_ → τ1 1 q = τ 1 q ∧ τ1 2 q = τ 2 q) :
    ∃ y σ' ρ', Pool_make σ v l r = some (y, σ') ∧ Sx ρ σ τ ρ' σ' τ1 (e + 1) ∧ TW σ' y n ∧ Co ρ' σ' τ1 y (vw 7 at_ sp) n ∧ Keep7 τ τ1 at_ sp n := by
  obtain ⟨y, σ2, e1, hM⟩ := make_eq σ v l r hA hf hs
  have c0 : ∀ j, j ≠ 0 → τ1 1 (vw 7 at_ sp j) = τ 1 (vw 7 at_ sp j) ∧ τ1 2 (vw 7 at_ sp j) = τ 2 (vw 7 at_ sp j) := fun j hj => h1q _ (by
    have := vw_ne (r := 7) (a := at_) (b := sp) (j := j) (k := 0) (by omega) hj
    rw [vw_0] at this
    exact this)
  obtain ⟨ρ2, q1, q2, q3⟩ := fin_node (g := vw 7 at_ sp) hB (Sx.rf (hB.mono (τ' := τ1) (by omega)) hA (Fr.rf _ _) rfl) h31 hm (f1.mono (by decide)) hM hTl hTr (by omega) (by omega) hv
    (by rw [vw_0, h1v]) (by rw [vw_0, h1n, h31])
    (fun x x0 xn => by
      have c := hCl x x0 xn
      have k := c0 (2 * x + 1) (by omega)
      rw [← vw_o, ← k.1, ← k.2] at c
      exact c)
    (fun x x0 xn => by
      have c := hCr x x0 xn
      have k := c0 (2 * x + 2) (by omega)
      rw [← vw_e, ← k.1, ← k.2] at c
      exact c)
  have e3 : n / 2 + (n - 1) / 2 + 1 = n := by omega
  rw [e3] at q2 q3
  refine ⟨y, σ2, ρ2, e1, q1.le (by omega), q2, q3, fun q hq => h1q q ?_⟩
  have := hq 0 (by omega) (by omega)
  rw [vw_0] at this
  exact this
theorem sift_step : ∀ (e d m : Nat) (σ τ : St) (ρ : Int → Int → Prop) (v l r n at_ sp : Int), e ≤ 8 → e < d → e + 2 ≤ m → Bi ρ σ τ → Alloc σ → (e : Int) + 1 ≤ σ 31 0 → (0 ≤ σ 32 0 ∧ σ 32 0 + e + 1 ≤ 2147483000) → (0 ≤ τ 30 0 ∧ τ 30 0 + e + 1 ≤ 2147483000) →
    n < 2 * p2 e → (1 ≤ n ∧ n ≤ 255) → TW σ l (n / 2) → TW σ r ((n - 1) / 2) → 0 ≤ at_ → (1 ≤ sp ∧ sp ≤ 512) → Vok at_ sp n →
    Co ρ σ τ l (vw 7 (at_ + sp) (2 * sp)) (n / 2) → Co ρ σ τ r (vw 7 (at_ + 2 * sp) (2 * sp)) ((n - 1) / 2) → (-999 ≤ v ∧ v ≤ 999) →
    ∃ y σ' τ' ρ', Pool_sifted d σ v l r e = some (y, σ') ∧ M_sifts_L16 v m τ at_ sp n 1 = some (0, τ') ∧ Sx ρ σ τ ρ' σ' τ' (e + 1) ∧ TW σ' y n ∧ Co ρ' σ' τ' y (vw 7 at_ sp) n ∧ Keep7 τ τ' at_ sp n ∧ Fr [1, 2, 30] τ τ' := by
  intro e
  induction e with
  | zero =>
    intro d m σ τ ρ v l r n at_ sp he8 hd hmf hB hA hf hs hm hp hn hTl hTr hat hsp hV hCl hCr hv
    unfold p2 at hp
    have hV0 := hV 0 (by omega) (by omega)
    have en : n = 1 := by omega
    subst en
    have el : l = 0 := hTl.empty
    have er : r = 0 := hTr.empty
    obtain ⟨τ1, e0, f1, h31, h1v, h1n, h1q⟩ := makes_ex (τ := τ) (r := 7) (a := at_) (v := v) (by omega) (by omega) (by omega)
    obtain ⟨y, σ', ρ', g1, g2, g3, g4, g5⟩ := sift_stop (e := ((0 : Nat) : Int)) hB hA (by omega) (by omega) (by omega) (by omega) hn hTl hTr (by omega) hCl hCr hv f1 h31 h1v h1n h1q
    refine ⟨y, σ', τ1, ρ', ?_, ?_, g2, g3, g4, g5, f1⟩
    · cases d with
      | zero => omega
      | succ d =>
        unfold Pool_sifted
        simp (disch := omega) only [jn_eq, ite_y, ite_n]
        rw [g1]
        rfl
    · cases m with
      | zero => omega
      | succ m =>
        cases m with
        | zero => omega
        | succ m =>
          unfold M_sifts_L16
          simp (disch := omega) only [↓jn_eq, ↓ite_y, ↓ite_n, ↓oadd_eq, ↓omul_eq, ↓M_leftSize_eq, ↓M_rightSize_eq, ↓bndp_eq, ↓oif_f, ↓oif_t, ↓e0, ↓bnd_eq]
          unfold M_sifts_L16
          exact if_pos rfl
  | succ e ih =>
    intro d m σ τ ρ v l r n at_ sp he8 hd hmf hB hA hf hs hm hp hn hTl hTr hat hsp hV hCl hCr hv
    unfold p2 at hp
    have hV0 := hV 0 (by omega) (by omega)
    have stop : ∀ τ1, Fr [1, 2, 30] τ τ1 → τ1 30 0 = τ 30 0 + 1 → τ1 1 (256 * 7 + at_) = v → τ1 2 (256 * 7 + at_) = τ 30 0 + 1 → (∀ q, q ≠ 256 * 7 + at_ → τ1 1 q = τ 1 q ∧ τ1 2 q = τ 2 q) → Pool_sifted d σ v l r ((e + 1 : Nat) : Int) = Pool_make σ v l r → M_sifts_L16 v m τ at_ sp n 1 = some (0, τ1) →
        ∃ y σ' τ' ρ', Pool_sifted d σ v l r ((e + 1 : Nat) : Int) = some (y, σ') ∧ M_sifts_L16 v m τ at_ sp n 1 = some (0, τ') ∧ Sx ρ σ τ ρ' σ' τ' (((e + 1 : Nat) : Int) + 1) ∧ TW σ' y n ∧ Co ρ' σ' τ' y (vw 7 at_ sp) n ∧ Keep7 τ τ' at_ sp n ∧ Fr [1, 2, 30] τ τ' := fun τ1 f1 h31 h1v h1n h1q a1 a2 => by
      obtain ⟨y, σ', ρ', g1, g2, g3, g4, g5⟩ := sift_stop (e := ((e + 1 : Nat) : Int)) hB hA (by omega) (by omega) (by omega) (by omega) hn hTl hTr (by omega) hCl hCr hv f1 h31 h1v h1n h1q
      exact ⟨y, σ', τ1, ρ', a1.trans g1, a2, g2, g3, g4, g5, f1⟩
    have goL : ∀ (d1 m1 : Nat), e < d1 → e + 2 ≤ m1 → 1 ≤ n / 2 → ∀ τ1, Fr [1, 2, 30] τ τ1 → τ1 30 0 = τ 30 0 + 1 → τ1 1 (256 * 7 + at_) = nu σ l → τ1 2 (256 * 7 + at_) = τ 30 0 + 1 → (∀ q, q ≠ 256 * 7 + at_ → τ1 1 q = τ 1 q ∧ τ1 2 q = τ 2 q) →
        ∃ y1 σ3 y σ' τ' ρ', Pool_sifted d1 σ v (lf σ l) (rt σ l) (e : Int) = some (y1, σ3) ∧ nu σ3 l = nu σ l ∧ Pool_make σ3 (nu σ l) y1 r = some (y, σ') ∧ M_sifts_L16 v m1 τ1 (at_ + sp) (2 * sp) (n / 2) 1 = some (0, τ') ∧ Sx ρ σ τ ρ' σ' τ' (((e + 1 : Nat) : Int) + 1) ∧ TW σ' y n ∧ Co ρ' σ' τ' y (vw 7 at_ sp) n ∧ Keep7 τ τ' at_ sp n ∧ Fr [1, 2, 30] τ τ' := fun d1 m1 hd1 hm1 ha τ1 f1 h31 h1v h1n h1q => by
      have hul := hTl.root (by omega)
      have hV1 := hV 1 (by omega) (by omega)
      have Vl : Vok (at_ + sp) (2 * sp) (n / 2) := hV.o (fun k a b => by omega) (by omega)
      have c0 : ∀ j, j ≠ 0 → τ1 1 (vw 7 at_ sp j) = τ 1 (vw 7 at_ sp j) ∧ τ1 2 (vw 7 at_ sp j) = τ 2 (vw 7 at_ sp j) := fun j hj => h1q _ (by
        have := vw_ne (r := 7) (a := at_) (b := sp) (j := j) (k := 0) (by omega) hj
        rw [vw_0] at this
        exact this)
      have hC1 : Co ρ σ τ1 l (vw 7 (at_ + sp) (2 * sp)) (n / 2) := fun x x0 xn => by
        have c := hCl x x0 xn
        have k := c0 (2 * x + 1) (by omega)
        rw [vw_o] at k
        rw [← k.1, ← k.2] at c
        exact c
      have cl := hCl 0 (by omega) (by omega)
      rw [sl_0 _ _ (Int.le_refl 0)] at cl
      obtain ⟨y1, σ3, τ3, ρ3, g1, g2, g3, g4, g5, g6, g7⟩ := ih d1 m1 σ τ1 ρ v (lf σ l) (rt σ l) (n / 2) (at_ + sp) (2 * sp) (by omega) hd1 hm1 (hB.mono (by omega)) hA (by omega) (by omega) (by omega) (by omega) (by omega) (hTl.lf (by omega)) (hTl.rt (by omega)) (by omega) (by omega) Vl
        (fun x x0 xn => by
          have c := hC1 (2 * x + 1) (by omega) (by omega)
          rw [sl_odd σ l x0 rfl, vw_o] at c
          exact c)
        (fun x x0 xn => by
          have c := hC1 (2 * x + 2) (by omega) (by omega)
          rw [sl_even σ l x0 rfl, vw_e] at c
          exact c) hv
      have g3' := g3
      obtain ⟨s1, s2, s3, s4, s5, s6, s7, s8⟩ := g3'
      unfold Cnt at s8
      obtain ⟨y, σ4, e4, hM⟩ := make_eq σ3 (nu σ l) y1 r s4 (by omega) (by omega)
      have k3 : ∀ q, (∀ j, 0 ≤ j → j < n / 2 → q ≠ vw 7 at_ sp (2 * j + 1)) → τ3 1 q = τ1 1 q ∧ τ3 2 q = τ1 2 q := fun q hq => g6 q (fun j j0 jn => by rw [← vw_o]; exact hq j j0 jn)
      have k0 := k3 (vw 7 at_ sp 0) (fun j _ _ => vw_ne (by omega) (by omega))
      obtain ⟨ρ4, q1, q2, q3⟩ := fin_node (g := vw 7 at_ sp) hB g3 h31 (by omega) (f1.mono (by decide)) hM g4 (hTr.ext s5 (by omega)) (by omega) (by omega) (by rw [cl.2.1]; exact cl.2.2)
        (by rw [k0.1, vw_0, h1v]) (by rw [k0.2, vw_0, h1n, h31])
        (fun x x0 xn => by
          have c := g5 x x0 xn
          rw [← vw_o] at c
          exact c)
        (by
          refine Co.stp (g := vw 7 (at_ + 2 * sp) (2 * sp)) (σ := σ) (τ := τ) (ρ := ρ) hCr hTr (by omega) s1 s5 (fun x x0 xn => ?_)
          have k := k3 (vw 7 at_ sp (2 * x + 2)) (fun j _ _ => vw_ne (by omega) (by omega))
          have k' := c0 (2 * x + 2) (by omega)
          rw [k.1, k.2, k'.1, k'.2, vw_e]
          exact ⟨rfl, rfl⟩)
      have e3 : n / 2 + (n - 1) / 2 + 1 = n := by omega
      rw [e3] at q2 q3
      refine ⟨y1, σ3, y, σ4, τ3, ρ4, g1, nu_ext hul s5, e4, g2, q1.le (by omega), q2, q3, fun q hq => ?_, f1.tr g7⟩
      have a3 := k3 q (fun j j0 jn => hq (2 * j + 1) (by omega) (by omega))
      have a1 := h1q q (by have := hq 0 (by omega) (by omega); rw [vw_0] at this; exact this)
      exact ⟨a3.1.trans a1.1, a3.2.trans a1.2⟩
    have goR : ∀ (d1 m1 : Nat), e < d1 → e + 2 ≤ m1 → 1 ≤ (n - 1) / 2 → ∀ τ1, Fr [1, 2, 30] τ τ1 → τ1 30 0 = τ 30 0 + 1 → τ1 1 (256 * 7 + at_) = nu σ r → τ1 2 (256 * 7 + at_) = τ 30 0 + 1 → (∀ q, q ≠ 256 * 7 + at_ → τ1 1 q = τ 1 q ∧ τ1 2 q = τ 2 q) →
        ∃ y1 σ3 y σ' τ' ρ', Pool_sifted d1 σ v (lf σ r) (rt σ r) (e : Int) = some (y1, σ3) ∧ nu σ3 r = nu σ r ∧ Pool_make σ3 (nu σ r) l y1 = some (y, σ') ∧ M_sifts_L16 v m1 τ1 (at_ + 2 * sp) (2 * sp) ((n - 1) / 2) 1 = some (0, τ') ∧ Sx ρ σ τ ρ' σ' τ' (((e + 1 : Nat) : Int) + 1) ∧ TW σ' y n ∧ Co ρ' σ' τ' y (vw 7 at_ sp) n ∧ Keep7 τ τ' at_ sp n ∧ Fr [1, 2, 30] τ τ' := fun d1 m1 hd1 hm1 ha τ1 f1 h31 h1v h1n h1q => by
      have hul := hTr.root (by omega)
      have hV1 := hV 2 (by omega) (by omega)
      have Vl : Vok (at_ + 2 * sp) (2 * sp) ((n - 1) / 2) := hV.e (fun k a b => by omega) (by omega)
      have c0 : ∀ j, j ≠ 0 → τ1 1 (vw 7 at_ sp j) = τ 1 (vw 7 at_ sp j) ∧ τ1 2 (vw 7 at_ sp j) = τ 2 (vw 7 at_ sp j) := fun j hj => h1q _ (by
        have := vw_ne (r := 7) (a := at_) (b := sp) (j := j) (k := 0) (by omega) hj
        rw [vw_0] at this
        exact this)
      have hC1 : Co ρ σ τ1 r (vw 7 (at_ + 2 * sp) (2 * sp)) ((n - 1) / 2) := fun x x0 xn => by
        have c := hCr x x0 xn
        have k := c0 (2 * x + 2) (by omega)
        rw [vw_e] at k
        rw [← k.1, ← k.2] at c
        exact c
      have cl := hCr 0 (by omega) (by omega)
      rw [sl_0 _ _ (Int.le_refl 0)] at cl
      obtain ⟨y1, σ3, τ3, ρ3, g1, g2, g3, g4, g5, g6, g7⟩ := ih d1 m1 σ τ1 ρ v (lf σ r) (rt σ r) ((n - 1) / 2) (at_ + 2 * sp) (2 * sp) (by omega) hd1 hm1 (hB.mono (by omega)) hA (by omega) (by omega) (by omega) (by omega) (by omega) (hTr.lf (by omega)) (hTr.rt (by omega)) (by omega) (by omega) Vl
        (fun x x0 xn => by
          have c := hC1 (2 * x + 1) (by omega) (by omega)
          rw [sl_odd σ r x0 rfl, vw_o] at c
          exact c)
        (fun x x0 xn => by
          have c := hC1 (2 * x + 2) (by omega) (by omega)
          rw [sl_even σ r x0 rfl, vw_e] at c
          exact c) hv
      have g3' := g3
      obtain ⟨s1, s2, s3, s4, s5, s6, s7, s8⟩ := g3'
      unfold Cnt at s8
      obtain ⟨y, σ4, e4, hM⟩ := make_eq σ3 (nu σ r) l y1 s4 (by omega) (by omega)
      have k3 : ∀ q, (∀ j, 0 ≤ j → j < (n - 1) / 2 → q ≠ vw 7 at_ sp (2 * j + 2)) → τ3 1 q = τ1 1 q ∧ τ3 2 q = τ1 2 q := fun q hq => g6 q (fun j j0 jn => by rw [← vw_e]; exact hq j j0 jn)
      have k0 := k3 (vw 7 at_ sp 0) (fun j _ _ => vw_ne (by omega) (by omega))
      obtain ⟨ρ4, q1, q2, q3⟩ := fin_node (g := vw 7 at_ sp) hB g3 h31 (by omega) (f1.mono (by decide)) hM (hTl.ext s5 (by omega)) g4 (by omega) (by omega) (by rw [cl.2.1]; exact cl.2.2)
        (by rw [k0.1, vw_0, h1v]) (by rw [k0.2, vw_0, h1n, h31])
        (by
          refine Co.stp (g := vw 7 (at_ + sp) (2 * sp)) (σ := σ) (τ := τ) (ρ := ρ) hCl hTl (by omega) s1 s5 (fun x x0 xn => ?_)
          have k := k3 (vw 7 at_ sp (2 * x + 1)) (fun j _ _ => vw_ne (by omega) (by omega))
          have k' := c0 (2 * x + 1) (by omega)
          rw [k.1, k.2, k'.1, k'.2, vw_o]
          exact ⟨rfl, rfl⟩)
        (fun x x0 xn => by
          have c := g5 x x0 xn
          rw [← vw_e] at c
          exact c)
      have e3 : n / 2 + (n - 1) / 2 + 1 = n := by omega
      rw [e3] at q2 q3
      refine ⟨y1, σ3, y, σ4, τ3, ρ4, g1, nu_ext hul s5, e4, g2, q1.le (by omega), q2, q3, fun q hq => ?_, f1.tr g7⟩
      have a3 := k3 q (fun j j0 jn => hq (2 * j + 2) (by omega) (by omega))
      have a1 := h1q q (by have := hq 0 (by omega) (by omega); rw [vw_0] at this; exact this)
      exact ⟨a3.1.trans a1.1, a3.2.trans a1.2⟩
    have enl : 1 ≤ n / 2 → l ≠ 0 := fun h => by have := (hTl.root h).1; omega
    have enr : 1 ≤ (n - 1) / 2 → r ≠ 0 := fun h => by have := (hTr.root h).1; omega
    have ezl : ¬ 1 ≤ n / 2 → l = 0 := fun h => by rw [show n / 2 = 0 by omega] at hTl; exact hTl.empty
    have ezr : ¬ 1 ≤ (n - 1) / 2 → r = 0 := fun h => by rw [show (n - 1) / 2 = 0 by omega] at hTr; exact hTr.empty
    have n1 : 1 ≤ n / 2 → M_number τ 7 (at_ + sp) = some (nu σ l) := fun h => by
      have hV1 := hV 1 (by omega) (by omega)
      have cl := hCl 0 (by omega) (by omega)
      rw [sl_0 _ _ (Int.le_refl 0), vw_0] at cl
      rw [M_number_eq (by omega) (by omega), cl.2.1]
    have n2 : 1 ≤ (n - 1) / 2 → M_number τ 7 (at_ + 2 * sp) = some (nu σ r) := fun h => by
      have hV2 := hV 2 (by omega) (by omega)
      have cr := hCr 0 (by omega) (by omega)
      rw [sl_0 _ _ (Int.le_refl 0), vw_0] at cr
      rw [M_number_eq (by omega) (by omega), cr.2.1]
    cases d with
    | zero => omega
    | succ d =>
    cases m with
    | zero => omega
    | succ m =>
    have ee : ((e + 1 : Nat) : Int) - 1 = (e : Int) := by omega
    by_cases s1 : (1 ≤ n / 2 ∧ nu σ l < v) ∨ (1 ≤ (n - 1) / 2 ∧ nu σ r < v)
    · have hl1 : 1 ≤ n / 2 := by omega
      by_cases s2 : 1 ≤ (n - 1) / 2 ∧ nu σ r < nu σ l
      · obtain ⟨τ1, e0, f1, h31, h1v, h1n, h1q⟩ := makes_ex (τ := τ) (r := 7) (a := at_) (v := nu σ r) (by omega) (by omega) (by omega)
        obtain ⟨y1, σ3, y, σ4, τ3, ρ4, g1, g2, g3, g4, g5, g6, g7, g8, g9⟩ := goR d m (by omega) (by omega) s2.1 τ1 f1 h31 h1v h1n h1q
        refine ⟨y, σ4, τ3, ρ4, ?_, ?_, g5, g6, g7, g8, g9⟩
        · rw [E_sift_right (by omega) (enl hl1) (enr s2.1) (by omega) s2.2, ee, g1, bnd_eq, g2, g3]
          rfl
        · rw [M_sift_right (by omega) hsp hn hl1 (n1 hl1) n2 (by omega) s2 e0, Int.mul_comm sp 2]
          exact g4
      · obtain ⟨τ1, e0, f1, h31, h1v, h1n, h1q⟩ := makes_ex (τ := τ) (r := 7) (a := at_) (v := nu σ l) (by omega) (by omega) (by omega)
        obtain ⟨y1, σ3, y, σ4, τ3, ρ4, g1, g2, g3, g4, g5, g6, g7, g8, g9⟩ := goL d m (by omega) (by omega) hl1 τ1 f1 h31 h1v h1n h1q
        refine ⟨y, σ4, τ3, ρ4, ?_, ?_, g5, g6, g7, g8, g9⟩
        · rw [E_sift_left (by omega) (enl hl1) (by rcases s1 with q | q; exact Or.inl q.2; exact Or.inr ⟨enr q.1, q.2⟩) (fun q => s2 ⟨by
            rcases Int.lt_or_le ((n - 1) / 2) 1 with w | w
            · exact absurd (ezr (by omega)) q.1
            · exact w, q.2⟩), ee, g1, bnd_eq, g2, g3]
          rfl
        · rw [M_sift_left (by omega) hsp hn hl1 (n1 hl1) n2 (by omega) s2 e0, Int.mul_comm sp 2]
          exact g4
    · obtain ⟨τ1, e0, f1, h31, h1v, h1n, h1q⟩ := makes_ex (τ := τ) (r := 7) (a := at_) (v := v) (by omega) (by omega) (by omega)
      refine stop τ1 f1 h31 h1v h1n h1q (E_sift_stop (fun q => s1 (Or.inl ⟨?_, q.2⟩)) (fun q => s1 (Or.inr ⟨?_, q.2⟩))) ?_
      · rcases Int.lt_or_le (n / 2) 1 with w | w
        · exact absurd (ezl (by omega)) q.1
        · exact w
      · rcases Int.lt_or_le ((n - 1) / 2) 1 with w | w
        · exact absurd (ezr (by omega)) q.1
        · exact w
      · cases m with
        | zero => omega
        | succ m => exact M_sift_stop (by omega) hsp hn n1 n2 (fun q => s1 (Or.inl q)) (fun q => s1 (Or.inr q)) e0

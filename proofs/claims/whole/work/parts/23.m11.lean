-- MATH 11: SIFT, both sides
theorem E_sift_stop {d : Nat} {σ : St} {v l r e : Int} (h1 : ¬ (l ≠ 0 ∧ nu σ l < v)) (h2 : ¬ (r ≠ 0 ∧ nu σ r < v)) : Pool_sifted (d + 1) σ v l r e = Pool_make σ v l r := by
  have fin : (bnd (Pool_make σ v l r) fun a b => some (a, b)) = Pool_make σ v l r := by
    cases Pool_make σ v l r with
    | none => rfl
    | some z => rfl
  unfold Pool_sifted
  by_cases hl : l = 0
  · by_cases hr : r = 0
    · simp (disch := omega) only [↓jn_eq, ↓ite_y, ↓ite_n]
      by_cases he : 0 < e
      · rw [if_pos he]; exact fin
      · rw [if_neg he]; exact fin
    · simp (disch := omega) only [↓jn_eq, ↓ite_y, ↓ite_n, ↓Pool_numberOf_eq, ↓bndp_eq]
      by_cases he : 0 < e
      · rw [if_pos he]; exact fin
      · rw [if_neg he]; exact fin
  · by_cases hr : r = 0
    · simp (disch := omega) only [↓jn_eq, ↓ite_y, ↓ite_n, ↓Pool_numberOf_eq, ↓bndp_eq]
      by_cases he : 0 < e
      · rw [if_pos he]; exact fin
      · rw [if_neg he]; exact fin
    · simp (disch := omega) only [↓jn_eq, ↓ite_y, ↓ite_n, ↓Pool_numberOf_eq, ↓bndp_eq]
      by_cases he : 0 < e
      · rw [if_pos he]; exact fin
      · rw [if_neg he]; exact fin
theorem E_sift_left {d : Nat} {σ : St} {v l r e : Int} (he : 0 < e ∧ e ≤ 100) (hl : l ≠ 0) (h1 : nu σ l < v ∨ (r ≠ 0 ∧ nu σ r < v)) (h2 : ¬ (r ≠ 0 ∧ nu σ r < nu σ l)) :
    Pool_sifted (d + 1) σ v l r e = bnd (Pool_sifted d σ v (lf σ l) (rt σ l) (e - 1)) fun y s => bnd (Pool_make s (nu s l) y r) fun a b => some (a, b) := by
  unfold Pool_sifted
  by_cases hr : r = 0
  · simp (disch := omega) only [↓jn_eq, ↓ite_y, ↓ite_n, ↓Pool_numberOf_eq, ↓bndp_eq, ↓Pool_leftOf_eq, ↓Pool_rightOf_eq, ↓osub_eq]
  · by_cases c1 : nu σ l < v
    · by_cases c2 : nu σ r < v
      · simp (disch := omega) only [↓jn_eq, ↓ite_y, ↓ite_n, ↓Pool_numberOf_eq, ↓bndp_eq, ↓Pool_leftOf_eq, ↓Pool_rightOf_eq, ↓osub_eq]
      · simp (disch := omega) only [↓jn_eq, ↓ite_y, ↓ite_n, ↓Pool_numberOf_eq, ↓bndp_eq, ↓Pool_leftOf_eq, ↓Pool_rightOf_eq, ↓osub_eq]
    · exfalso; omega
theorem E_sift_right {d : Nat} {σ : St} {v l r e : Int} (he : 0 < e ∧ e ≤ 100) (hl : l ≠ 0) (hr : r ≠ 0) (h1 : nu σ l < v ∨ nu σ r < v) (h2 : nu σ r < nu σ l) :
    Pool_sifted (d + 1) σ v l r e = bnd (Pool_sifted d σ v (lf σ r) (rt σ r) (e - 1)) fun y s => bnd (Pool_make s (nu s r) l y) fun a b => some (a, b) := by
  unfold Pool_sifted
  have c2 : nu σ r < v := by omega
  by_cases c1 : nu σ l < v
  · simp (disch := omega) only [↓jn_eq, ↓ite_y, ↓ite_n, ↓Pool_numberOf_eq, ↓bndp_eq, ↓Pool_leftOf_eq, ↓Pool_rightOf_eq, ↓osub_eq]
  · simp (disch := omega) only [↓jn_eq, ↓ite_y, ↓ite_n, ↓Pool_numberOf_eq, ↓bndp_eq, ↓Pool_leftOf_eq, ↓Pool_rightOf_eq, ↓osub_eq]
theorem M_sift_stop {m : Nat} {τ τ1 : St} {v at_ sp n p q : Int} (ha : 0 ≤ at_ ∧ at_ < 256) (hs : 1 ≤ sp ∧ sp ≤ 512) (hn : 1 ≤ n ∧ n ≤ 255) (hL : 1 ≤ n / 2 → M_number τ 7 (at_ + sp) = some p) (hR : 1 ≤ (n - 1) / 2 → M_number τ 7 (at_ + 2 * sp) = some q)
    (h1 : ¬ (1 ≤ n / 2 ∧ p < v)) (h2 : ¬ (1 ≤ (n - 1) / 2 ∧ q < v)) (e0 : M_makes τ 7 at_ v = some (0, τ1)) : M_sifts_L16 v (m + 2) τ at_ sp n 1 = some (0, τ1) := by
  have fin : ∀ a b c, M_sifts_L16 v (m + 1) τ1 a b c 0 = some (0, τ1) := fun a b c => by
    unfold M_sifts_L16
    exact if_pos rfl
  unfold M_sifts_L16
  by_cases cl : 1 ≤ n / 2
  · have n1 := hL cl
    by_cases cr : 1 ≤ (n - 1) / 2
    · have n2 := hR cr
      clear hL hR
      by_cases c3 : q < p
      · simp (disch := omega) only [↓jn_eq, ↓ite_y, ↓ite_n, ↓oadd_eq, ↓omul_eq, ↓M_leftSize_eq, ↓M_rightSize_eq, ↓bndp_eq, ↓oif_f, ↓oif_t, ↓e0, ↓bnd_eq, ↓n1, ↓n2, fin]
      · simp (disch := omega) only [↓jn_eq, ↓ite_y, ↓ite_n, ↓oadd_eq, ↓omul_eq, ↓M_leftSize_eq, ↓M_rightSize_eq, ↓bndp_eq, ↓oif_f, ↓oif_t, ↓e0, ↓bnd_eq, ↓n1, ↓n2, fin]
    · clear hL hR
      simp (disch := omega) only [↓jn_eq, ↓ite_y, ↓ite_n, ↓oadd_eq, ↓omul_eq, ↓M_leftSize_eq, ↓M_rightSize_eq, ↓bndp_eq, ↓oif_f, ↓oif_t, ↓e0, ↓bnd_eq, ↓n1, fin]
  · clear hL hR
    simp (disch := omega) only [↓jn_eq, ↓ite_y, ↓ite_n, ↓oadd_eq, ↓omul_eq, ↓M_leftSize_eq, ↓M_rightSize_eq, ↓bndp_eq, ↓oif_f, ↓oif_t, ↓e0, ↓bnd_eq, fin]

-- MATH 4: the reference's rows
theorem M_makes_eq {τ : St} {r a v : Int} (hr : 0 ≤ r ∧ r ≤ 9) (ha : 0 ≤ a ∧ a < 256) (hm : 0 ≤ τ 30 0 ∧ τ 30 0 ≤ 2147483000) :
    M_makes τ r a v = some (0, us (us (us τ 30 0 (τ 30 0 + 1)) 1 (256 * r + a) v) 2 (256 * r + a) (τ 30 0 + 1)) := by
  unfold M_makes
  simp only [gf_eq]
  simp (disch := omega) only [oadd_eq, omul_eq, pf_eq, wr_eq]
  simp (disch := decide) only [us_ne, us_eq]
theorem M_number_eq {τ : St} {r a : Int} (hr : 0 ≤ r ∧ r ≤ 9) (ha : 0 ≤ a ∧ a < 256) : M_number τ r a = some (τ 1 (256 * r + a)) := by
  unfold M_number
  simp (disch := omega) only [oadd_eq, omul_eq, rd_eq]
theorem M_node_eq {τ : St} {r a : Int} (hr : 0 ≤ r ∧ r ≤ 9) (ha : 0 ≤ a ∧ a < 256) : M_node τ r a = some (τ 2 (256 * r + a)) := by
  unfold M_node
  simp (disch := omega) only [oadd_eq, omul_eq, rd_eq]
theorem mul_step {b k : Int} : b * (k + 1) = b * k + b := by rw [Int.mul_add, Int.mul_one]
theorem mul_ne {b k j : Int} (hb : 1 ≤ b) (h : k ≠ j) : b * k ≠ b * j := fun e => h (Int.eq_of_mul_eq_mul_left (by omega) e)
theorem shares_loop (τ : St) (fr sa sp n to at_ by_ : Int) (hf : 0 ≤ fr ∧ fr ≤ 9) (ht : 0 ≤ to ∧ to ≤ 9) (hft : fr ≠ to) (hb : 1 ≤ by_ ∧ by_ ≤ 512) (hsp : 0 ≤ sp ∧ sp ≤ 512) (hsa : 0 ≤ sa ∧ sa ≤ 2048) (hat : 0 ≤ at_ ∧ at_ ≤ 2048) (hn : 0 ≤ n ∧ n ≤ 255)
    (hs : ∀ k, 0 ≤ k → k < n → 0 ≤ sp * k ∧ sa + sp * k < 256) (hd : ∀ k, 0 ≤ k → k < n → 0 ≤ by_ * k ∧ at_ + by_ * k < 256) :
    ∀ (m : Nat) (τ1 : St) (x : Int), 0 ≤ x → x ≤ n → n - x < m → Fr [1, 2] τ τ1 →
      (∀ k, 0 ≤ k → k < x → τ1 1 (256 * to + at_ + by_ * k) = τ 1 (256 * fr + sa + sp * k) ∧ τ1 2 (256 * to + at_ + by_ * k) = τ 2 (256 * fr + sa + sp * k)) →
      (∀ q, (∀ k, 0 ≤ k → k < x → q ≠ 256 * to + at_ + by_ * k) → τ1 1 q = τ 1 q ∧ τ1 2 q = τ 2 q) →
      ∃ τ2, M_shares_L3 fr sa sp n to at_ by_ m τ1 x = some (0, τ2) ∧ Fr [1, 2] τ τ2 ∧
        (∀ k, 0 ≤ k → k < n → τ2 1 (256 * to + at_ + by_ * k) = τ 1 (256 * fr + sa + sp * k) ∧ τ2 2 (256 * to + at_ + by_ * k) = τ 2 (256 * fr + sa + sp * k)) ∧
        (∀ q, (∀ k, 0 ≤ k → k < n → q ≠ 256 * to + at_ + by_ * k) → τ2 1 q = τ 1 q ∧ τ2 2 q = τ 2 q) := by
  intro m
  induction m with
  | zero => intro τ1 x h0 hxn hm; exfalso; omega
  | succ m ih =>
    intro τ1 x h0 hxn hm hF hk hq
    unfold M_shares_L3
    by_cases hx : x < n
    · have b1 := hs x h0 hx
      have b2 := hd x h0 hx
      simp (disch := omega) only [ite_y, oadd_eq, omul_eq, rd_eq, wr_eq]
      have hsrc : ∀ k, 0 ≤ k → k < x → 256 * fr + sa + sp * x ≠ 256 * to + at_ + by_ * k := fun k q1 q2 => by
        have := hd k q1 (by omega)
        omega
      have hsx : τ1 1 (256 * fr + sa + sp * x) = τ 1 (256 * fr + sa + sp * x) ∧ τ1 2 (256 * fr + sa + sp * x) = τ 2 (256 * fr + sa + sp * x) := hq _ hsrc
      refine ih _ (x + 1) (by omega) (by omega) (by omega) ((hF.us (by decide)).us (by decide)) (fun k q1 q2 => ?_) (fun q hq2 => ?_)
      · by_cases hkx : k = x
        · subst hkx
          simp (disch := decide) only [us_ne, us_eq]
          exact hsx
        · have hne := mul_ne (b := by_) (by omega) hkx
          have h2 := hk k q1 (by omega)
          constructor
          · rw [us_ne (by decide), us_ni (by omega)]; exact h2.1
          · rw [us_ni (by omega), us_ne (by decide)]; exact h2.2
      · have h2 := hq q (fun k q1 q2 => hq2 k q1 (by omega))
        have h3 := hq2 x h0 (by omega)
        constructor
        · rw [us_ne (by decide), us_ni h3]; exact h2.1
        · rw [us_ni h3, us_ne (by decide)]; exact h2.2
    · simp (disch := omega) only [ite_n]
      exact ⟨τ1, rfl, hF, fun k q1 q2 => hk k q1 (by omega), fun q h => hq q (fun k q1 q2 => h k q1 (by omega))⟩
theorem M_shares_eq (τ : St) (fr sa sp n to at_ by_ : Int) (hf : 0 ≤ fr ∧ fr ≤ 9) (ht : 0 ≤ to ∧ to ≤ 9) (hft : fr ≠ to) (hb : 1 ≤ by_ ∧ by_ ≤ 512) (hsp : 0 ≤ sp ∧ sp ≤ 512) (hsa : 0 ≤ sa ∧ sa ≤ 2048) (hat : 0 ≤ at_ ∧ at_ ≤ 2048) (hn : 0 ≤ n ∧ n ≤ 255)
    (hs : ∀ k, 0 ≤ k → k < n → 0 ≤ sp * k ∧ sa + sp * k < 256) (hd : ∀ k, 0 ≤ k → k < n → 0 ≤ by_ * k ∧ at_ + by_ * k < 256) :
    ∃ τ2, M_shares τ fr sa sp n to at_ by_ = some (0, τ2) ∧ Fr [1, 2] τ τ2 ∧
      (∀ k, 0 ≤ k → k < n → τ2 1 (256 * to + at_ + by_ * k) = τ 1 (256 * fr + sa + sp * k) ∧ τ2 2 (256 * to + at_ + by_ * k) = τ 2 (256 * fr + sa + sp * k)) ∧
      (∀ q, (∀ k, 0 ≤ k → k < n → q ≠ 256 * to + at_ + by_ * k) → τ2 1 q = τ 1 q ∧ τ2 2 q = τ 2 q) := by
  unfold M_shares
  exact shares_loop τ fr sa sp n to at_ by_ hf ht hft hb hsp hsa hat hn hs hd FU τ 0 (by omega) (by omega) (by unfold FU; omega) (Fr.rf _ _) (fun k a b => by omega) (fun q _ => ⟨rfl, rfl⟩)

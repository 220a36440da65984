-- P54, 2: what the reference's functions do to the numbers of its rows: LIFT, SIFT
theorem lifts_c : ∀ (d : Nat) (τ : St) (n fr sp to by_ : Int), (0 ≤ τ 30 0 ∧ τ 30 0 + d ≤ 2147483000) → n < p2 d → (1 ≤ n ∧ n ≤ 255) → (0 ≤ fr ∧ fr ≤ 1000) → (1 ≤ sp ∧ sp ≤ 512) → (0 ≤ to ∧ to ≤ 1000) → (1 ≤ by_ ∧ by_ ≤ sp) → Vok fr sp n → Vok to by_ (n - 1) →
    ∃ τ', M_lifts d τ fr sp n to by_ = some (0, τ') ∧ Keep7 τ τ' to by_ (n - 1) ∧ Fr [1, 2, 30, 42] τ τ' ∧ (τ 30 0 ≤ τ' 30 0 ∧ τ' 30 0 ≤ τ 30 0 + d) ∧ τ' 42 0 = lfv d (fun x => τ 1 (vw 6 fr sp x)) n ∧ ∀ y, 0 ≤ y → y < n - 1 → τ' 1 (vw 7 to by_ y) = lft d (fun x => τ 1 (vw 6 fr sp x)) n y := by
  intro d
  induction d with
  | zero =>
    intro τ n fr sp to by_ _ h
    unfold p2 at h
    intro hn; exfalso; omega
  | succ d ih =>
    intro τ n fr sp to by_ hm hp hn hfr hsp hto hby hVs hVd
    have hs0 := hVs 0 (by omega) (by omega)
    unfold p2 at hp
    unfold M_lifts lfv lft
    by_cases hn0 : n = 1
    · subst hn0
      simp (disch := omega) only [ite_n, ite_y, bndp_eq, M_number_eq, pf_eq]
      refine ⟨_, rfl, fun q hq => ⟨us_ne (by decide), us_ne (by decide)⟩, (Fr.rf _ _).us (by decide), ?_, ?_, fun x x0 xn => by exfalso; omega⟩
      · rw [us_ne (by decide)]; omega
      · rw [us_eq, vw_0]
        exact (if_pos trivial).symm
    · have hd0 := hVd 0 (by omega) (by omega)
      have hs1 := hVs 1 (by omega) (by omega)
      obtain ⟨τ1, e0, f1, h31, h1v, h1n, h1q⟩ := makes_ex (τ := τ) (r := 7) (a := to) (v := τ 1 (256 * 6 + fr)) (by omega) (by omega) (by omega)
      simp (disch := omega) only [ite_n, ite_y, bnd_eq, bndp_eq, oadd_eq, omul_eq, M_leftSize_eq, M_rightSize_eq, M_number_eq, e0]
      have Vs2 : Vok (fr + 2 * sp) (2 * sp) ((n - 1) / 2) := hVs.e (fun k a b => by omega) (by omega)
      have Vd2 : Vok (to + by_) (2 * by_) ((n - 1) / 2) := hVd.o (fun k a b => by omega) (by omega)
      have Vs3 : Vok (fr + sp) (2 * sp) (n / 2) := hVs.o (fun k a b => by omega) (by omega)
      have Vd3 : Vok (to + 2 * by_) (2 * by_) (n / 2 - 1) := hVd.e (fun k a b => by omega) (by omega)
      obtain ⟨τ2, e2, f2, c2, k2⟩ := M_shares_eq τ1 6 (fr + 2 * sp) (2 * sp) ((n - 1) / 2) 7 (to + by_) (2 * by_) (by omega) (by omega) (by omega) (by omega) (by omega) (by omega) (by omega) (by omega) Vs2 Vd2
      rw [e2]
      simp (disch := omega) only [bnd_eq, bndp_eq]
      have r6 : ∀ x, 0 ≤ x → x < n → τ2 1 (vw 6 fr sp x) = τ 1 (vw 6 fr sp x) := fun x x0 xn => by
        have b1 := hVs x x0 xn
        have b2 := k2 (vw 6 fr sp x) (fun k k0 kn => by have := Vd2 k k0 kn; unfold vw; omega)
        have b3 := h1q (vw 6 fr sp x) (by unfold vw; omega)
        exact b2.1.trans b3.1
      have h32 : τ2 30 0 = τ 30 0 + 1 := by rw [f2 30 (by decide), h31]
      obtain ⟨τ3, g1, g2, g3, g4, g5, g6⟩ := ih τ2 (n / 2) (fr + sp) (2 * sp) (to + 2 * by_) (2 * by_) (by omega) (by omega) (by omega) (by omega) (by omega) (by omega) (by omega) Vs3 Vd3
      rw [g1]
      have k3 : ∀ q, (∀ k, 0 ≤ k → 2 * k + 2 < n - 1 → q ≠ vw 7 to by_ (2 * k + 2)) → τ3 1 q = τ2 1 q ∧ τ3 2 q = τ2 2 q := fun q hq => g2 q (fun k k0 kn => by rw [← vw_e]; exact hq k k0 (by omega))
      have k2' : ∀ q, (∀ k, 0 ≤ k → 2 * k + 1 < n - 1 → q ≠ vw 7 to by_ (2 * k + 1)) → τ2 1 q = τ1 1 q ∧ τ2 2 q = τ1 2 q := fun q hq => k2 q (fun k k0 kn => by
        have := hq k k0 (by omega)
        rw [vw_o] at this
        exact this)
      have le := lf_ext d (fun x => τ2 1 (vw 6 (fr + sp) (2 * sp) x)) (fun j => τ 1 (vw 6 fr sp (2 * j + 1))) (n := n / 2) (fun x x0 xn => by
        show τ2 1 (vw 6 (fr + sp) (2 * sp) x) = τ 1 (vw 6 fr sp (2 * x + 1))
        rw [← vw_o, r6 _ (by omega) (by omega)]) (by omega) (by omega)
      refine ⟨τ3, by simp only [bnd_eq], fun q hq => ?_, ((f1.tr (f2.mono (by decide))).mono (by decide)).tr g3, by omega, ?_, fun y y0 yn => ?_⟩
      · have a1 := k3 q (fun k k0 kn => hq _ (by omega) kn)
        have a2 := k2' q (fun k k0 kn => hq _ (by omega) kn)
        have a3 := hq 0 (by omega) (by omega)
        rw [vw_0] at a3
        have a4 := h1q q a3
        exact ⟨a1.1.trans (a2.1.trans a4.1), a1.2.trans (a2.2.trans a4.2)⟩
      · rw [g5, le.1]
      · by_cases yz : y = 0
        · subst yz
          rw [if_pos rfl, (k3 _ (fun k k0 kn => vw_ne (by omega) (by omega))).1, (k2' _ (fun k k0 kn => vw_ne (by omega) (by omega))).1, vw_0, h1v, vw_0]
        rw [if_neg yz]
        rcases Int.emod_two_eq y with e | e
        · obtain ⟨j, rfl⟩ : ∃ j, y = 2 * j + 2 := ⟨y / 2 - 1, by omega⟩
          rw [if_neg (by omega), vw_e, g6 j (by omega) (by omega), show (2 * j + 2) / 2 - 1 = j by omega, le.2 j (by omega) (by omega)]
        · obtain ⟨j, rfl⟩ : ∃ j, y = 2 * j + 1 := ⟨y / 2, by omega⟩
          rw [if_pos (by omega), show 2 * j + 1 + 1 = 2 * j + 2 by omega, (k3 _ (fun k k0 kn => vw_ne (by omega) (by omega))).1, vw_o]
          have c := (c2 j (by omega) (by omega)).1
          rw [vw_e]
          refine Eq.trans c ?_
          refine (h1q _ ?_).1
          have b2 := Vs2 j (by omega) (by omega)
          omega
theorem sifts_c {N : Nat} (hN : N ≤ 255) : ∀ (e m : Nat) (τ : St) (v n at_ sp : Int), e ≤ 8 → e + 2 ≤ m → (0 ≤ τ 30 0 ∧ τ 30 0 + e + 1 ≤ 2147483000) → n < 2 * p2 e → (1 ≤ n ∧ n ≤ 255) → 0 ≤ at_ → (1 ≤ sp ∧ sp ≤ 512) → (∀ y, 0 ≤ y → y < n → 0 ≤ sp * y ∧ at_ + sp * y < N) →
    ∃ τ', M_sifts_L16 v m τ at_ sp n 1 = some (0, τ') ∧ sm (fun x => τ' 1 (1792 + x)) N = sm (fun x => τ 1 (1792 + x)) N - τ 1 (1792 + at_) + v ∧ Rws [7] τ τ' ∧ Fr [1, 2, 30] τ τ' ∧ (τ 30 0 ≤ τ' 30 0 ∧ τ' 30 0 ≤ τ 30 0 + e + 1) := by
  intro e
  induction e with
  | zero =>
    intro m τ v n at_ sp he hm h30 hn hn1 ha hsp hV
    unfold p2 at hn
    obtain ⟨m, rfl⟩ : ∃ m', m = m' + 2 := ⟨m - 2, by omega⟩
    have hV0 := hV 0 (by omega) (by omega)
    obtain ⟨τ1, e0, f1, h31, h1v, h1n, h1q⟩ := makes_ex (τ := τ) (r := 7) (a := at_) (v := v) (by omega) (by omega) (by omega)
    refine ⟨τ1, M_sift_stop (p := 0) (q := 0) (by omega) (by omega) (by omega) (fun h => by exfalso; omega) (fun h => by exfalso; omega) (by omega) (by omega) e0, ?_, ⟨fun q hq => ?_, fun p _ => by rw [f1 3 (by decide)]⟩, f1, by omega⟩
    · rw [← sm_set (fun x => τ 1 (1792 + x)) at_ v N ha (by omega)]
      refine sm_ext N (fun x x0 xn => ?_)
      show τ1 1 (1792 + x) = if x = at_ then v else τ 1 (1792 + x)
      by_cases c : x = at_
      · rw [if_pos c, c]; exact h1v
      · rw [if_neg c]; exact (h1q _ (by omega)).1
    · have := hq 7 (by decide)
      exact h1q q (by omega)
  | succ e ih =>
    intro m τ v n at_ sp he hm h30 hn hn1 ha hsp hV
    unfold p2 at hn
    obtain ⟨m, rfl⟩ : ∃ m', m = m' + 2 := ⟨m - 2, by omega⟩
    have hV0 := hV 0 (by omega) (by omega)
    have hp8 : p2 8 = 256 := rfl
    -- one step, whatever is written
    have step : ∀ w, ∃ τ1, M_makes τ 7 at_ w = some (0, τ1) ∧ sm (fun x => τ1 1 (1792 + x)) N = sm (fun x => τ 1 (1792 + x)) N - τ 1 (1792 + at_) + w ∧ Rws [7] τ τ1 ∧ Fr [1, 2, 30] τ τ1 ∧ τ1 30 0 = τ 30 0 + 1 ∧ ∀ x, 0 ≤ x → x < 256 → x ≠ at_ → τ1 1 (1792 + x) = τ 1 (1792 + x) := fun w => by
      obtain ⟨τ1, e0, f1, h31, h1v, h1n, h1q⟩ := makes_ex (τ := τ) (r := 7) (a := at_) (v := w) (by omega) (by omega) (by omega)
      refine ⟨τ1, e0, ?_, ⟨fun q hq => ?_, fun p _ => by rw [f1 3 (by decide)]⟩, f1, h31, fun x x0 xn c => (h1q _ (by omega)).1⟩
      · rw [← sm_set (fun x => τ 1 (1792 + x)) at_ w N ha (by omega)]
        refine sm_ext N (fun x x0 xn => ?_)
        show τ1 1 (1792 + x) = if x = at_ then w else τ 1 (1792 + x)
        by_cases c : x = at_
        · rw [if_pos c, c]; exact h1v
        · rw [if_neg c]; exact (h1q _ (by omega)).1
      · have := hq 7 (by decide)
        exact h1q q (by omega)
    obtain ⟨pv, hpv⟩ : ∃ pv, pv = τ 1 (1792 + (at_ + sp)) := ⟨_, rfl⟩
    obtain ⟨qv, hqv⟩ : ∃ qv, qv = τ 1 (1792 + (at_ + 2 * sp)) := ⟨_, rfl⟩
    have nL : 1 ≤ n / 2 → M_number τ 7 (at_ + sp) = some pv := fun h => by
      have h1 := hV 1 (by omega) (by omega)
      rw [M_number_eq (by omega) (by omega), hpv]; rfl
    have nR : 1 ≤ (n - 1) / 2 → M_number τ 7 (at_ + 2 * sp) = some qv := fun h => by
      have h1 := hV 2 (by omega) (by omega)
      rw [M_number_eq (by omega) (by omega), hqv]; rfl
    by_cases c1 : (1 ≤ n / 2 ∧ pv < v) ∨ (1 ≤ (n - 1) / 2 ∧ qv < v)
    · by_cases c2 : 1 ≤ (n - 1) / 2 ∧ qv < pv
      · obtain ⟨τ1, e0, s1, r1, f1, h31, k1⟩ := step qv
        have h2 := hV 2 (by omega) (by omega)
        obtain ⟨τ2, g1, g2, g3, g4, g5⟩ := ih (m + 1) τ1 v ((n - 1) / 2) (at_ + 2 * sp) (sp * 2) (by omega) (by omega) (by omega) (by omega) (by omega) (by omega) (by omega) (fun y y0 yn => by
          have := hV (2 * y + 2) (by omega) (by omega)
          rw [Int.mul_add, show sp * (2 * y) = sp * 2 * y by rw [Int.mul_assoc]] at this
          have hpos := Int.mul_nonneg (show 0 ≤ sp * 2 by omega) y0
          omega)
        refine ⟨τ2, ?_, ?_, r1.tr g3, f1.tr g4, by omega⟩
        · rw [M_sift_right (by omega) (by omega) (by omega) (by omega) (nL (by omega)) nR (by omega) c2 e0]; exact g1
        · rw [g2, s1, k1 (at_ + 2 * sp) (by omega) (by omega) (by omega), ← hqv]; omega
      · have h1 := hV 1 (by omega) (by omega)
        obtain ⟨τ1, e0, s1, r1, f1, h31, k1⟩ := step pv
        obtain ⟨τ2, g1, g2, g3, g4, g5⟩ := ih (m + 1) τ1 v (n / 2) (at_ + sp) (sp * 2) (by omega) (by omega) (by omega) (by omega) (by omega) (by omega) (by omega) (fun y y0 yn => by
          have := hV (2 * y + 1) (by omega) (by omega)
          rw [Int.mul_add, show sp * (2 * y) = sp * 2 * y by rw [Int.mul_assoc]] at this
          have hpos := Int.mul_nonneg (show 0 ≤ sp * 2 by omega) y0
          omega)
        refine ⟨τ2, ?_, ?_, r1.tr g3, f1.tr g4, by omega⟩
        · rw [M_sift_left (by omega) (by omega) (by omega) (by omega) (nL (by omega)) nR (by omega) c2 e0]; exact g1
        · rw [g2, s1, k1 (at_ + sp) (by omega) (by omega) (by omega), ← hpv]; omega
    · obtain ⟨τ1, e0, s1, r1, f1, h31, k1⟩ := step v
      exact ⟨τ1, M_sift_stop (by omega) (by omega) (by omega) nL nR (fun h => c1 (Or.inl h)) (fun h => c1 (Or.inr h)) e0, s1, r1, f1, by omega⟩

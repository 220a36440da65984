-- P54, 1: what the reference's functions do to the numbers of its rows: FRONT, FIRST, PUSH
theorem vw_oe {r a b j k : Int} (hb : 1 ≤ b) : vw r a b (2 * j + 1) ≠ vw r a b (2 * k + 2) := vw_ne hb (by omega)
theorem fronts_c : ∀ (d : Nat) (τ : St) (v n fr sp to by_ : Int), (0 ≤ τ 30 0 ∧ τ 30 0 + d ≤ 2147483000) → n + 1 < p2 d → (0 ≤ n ∧ n ≤ 254) → (0 ≤ fr ∧ fr ≤ 1000) → (1 ≤ sp ∧ sp ≤ by_) → 0 ≤ to → Vok fr sp n → Vok to by_ (n + 1) →
    ∃ τ', M_fronts d τ fr sp n to by_ v = some (0, τ') ∧ Keep7 τ τ' to by_ (n + 1) ∧ Fr [1, 2, 30] τ τ' ∧ (τ 30 0 ≤ τ' 30 0 ∧ τ' 30 0 ≤ τ 30 0 + d) ∧ τ' 1 (vw 7 to by_ 0) = v ∧ ∀ x, 0 ≤ x → x < n → τ' 1 (vw 7 to by_ (x + 1)) = τ 1 (vw 6 fr sp x) := by
  intro d
  induction d with
  | zero =>
    intro τ v n fr sp to by_ _ h
    unfold p2 at h
    intro hn; exfalso; omega
  | succ d ih =>
    intro τ v n fr sp to by_ hm hp hn hfr hsp hto hVs hVd
    have hd0 := hVd 0 (by omega) (by omega)
    unfold p2 at hp
    unfold M_fronts
    obtain ⟨τ1, e0, f1, h31, h1v, h1n, h1q⟩ := makes_ex (τ := τ) (r := 7) (a := to) (v := v) (by omega) (by omega) (by omega)
    rw [e0]
    by_cases hn0 : n = 0
    · subst hn0
      simp (disch := omega) only [ite_n, ite_y, bnd_eq]
      refine ⟨τ1, rfl, fun q hq => ?_, f1, by omega, by rw [vw_0, h1v], fun x x0 xn => by omega⟩
      have := hq 0 (by omega) (by omega)
      rw [vw_0] at this
      exact h1q q this
    · have hb1 := hVd 1 (by omega) (by omega)
      have hs0 := hVs 0 (by omega) (by omega)
      simp (disch := omega) only [ite_n, ite_y, bnd_eq, bndp_eq, oadd_eq, omul_eq, M_leftSize_eq, M_rightSize_eq]
      have Vs2 : Vok (fr + sp) (2 * sp) (n / 2) := hVs.o (fun k a b => by omega) (by omega)
      have Vd2 : Vok (to + 2 * by_) (2 * by_) (n / 2) := hVd.e (fun k a b => by omega) (by omega)
      have Vs3 : Vok (fr + 2 * sp) (2 * sp) ((n - 1) / 2) := hVs.e (fun k a b => by omega) (by omega)
      have Vd3 : Vok (to + by_) (2 * by_) ((n - 1) / 2 + 1) := hVd.o (fun k a b => by omega) (by omega)
      obtain ⟨τ2, e2, f2, c2, k2⟩ := M_shares_eq τ1 6 (fr + sp) (2 * sp) (n / 2) 7 (to + 2 * by_) (2 * by_) (by omega) (by omega) (by omega) (by omega) (by omega) (by omega) (by omega) (by omega) Vs2 Vd2
      rw [e2]
      simp (disch := omega) only [bnd_eq, bndp_eq, M_number_eq]
      have r6 : ∀ x, 0 ≤ x → x < n → τ2 1 (vw 6 fr sp x) = τ 1 (vw 6 fr sp x) := fun x x0 xn => by
        have b1 := hVs x x0 xn
        have b2 := k2 (vw 6 fr sp x) (fun k k0 kn => by have := Vd2 k k0 kn; unfold vw; omega)
        have b3 := h1q (vw 6 fr sp x) (by unfold vw; omega)
        exact b2.1.trans b3.1
      have h32 : τ2 30 0 = τ 30 0 + 1 := by rw [f2 30 (by decide), h31]
      obtain ⟨τ3, g1, g2, g3, g4, g5, g6⟩ := ih τ2 (τ2 1 (256 * 6 + fr)) ((n - 1) / 2) (fr + 2 * sp) (2 * sp) (to + by_) (2 * by_) (by omega) (by omega) (by omega) (by omega) (by omega) (by omega) Vs3 Vd3
      rw [g1]
      have k3 : ∀ q, (∀ k, 0 ≤ k → 2 * k + 1 < n + 1 → q ≠ vw 7 to by_ (2 * k + 1)) → τ3 1 q = τ2 1 q ∧ τ3 2 q = τ2 2 q := fun q hq => g2 q (fun k k0 kn => by rw [← vw_o]; exact hq k k0 (by omega))
      have k2' : ∀ q, (∀ k, 0 ≤ k → 2 * k + 2 < n + 1 → q ≠ vw 7 to by_ (2 * k + 2)) → τ2 1 q = τ1 1 q ∧ τ2 2 q = τ1 2 q := fun q hq => k2 q (fun k k0 kn => by
        have := hq k k0 (by omega)
        rw [vw_e] at this
        exact this)
      refine ⟨τ3, by simp only [bnd_eq], fun q hq => ?_, (f1.tr (f2.mono (by decide))).tr g3, by omega, ?_, fun x x0 xn => ?_⟩
      · have a1 := k3 q (fun k k0 kn => hq _ (by omega) kn)
        have a2 := k2' q (fun k k0 kn => hq _ (by omega) kn)
        have a3 := hq 0 (by omega) (by omega)
        rw [vw_0] at a3
        have a4 := h1q q a3
        exact ⟨a1.1.trans (a2.1.trans a4.1), a1.2.trans (a2.2.trans a4.2)⟩
      · rw [(k3 _ (fun k k0 kn => vw_ne (by omega) (by omega))).1, (k2' _ (fun k k0 kn => vw_ne (by omega) (by omega))).1, vw_0, h1v]
      · rcases Int.emod_two_eq x with e | e
        · obtain ⟨j, rfl⟩ : ∃ j, x = 2 * j := ⟨x / 2, by omega⟩
          rw [vw_o]
          by_cases j0 : j = 0
          · subst j0
            rw [g5, ← r6 (2 * 0) (by omega) (by omega), show (2 * 0 : Int) = 0 from rfl, vw_0]
          · have := g6 (j - 1) (by omega) (by omega)
            rw [show j - 1 + 1 = j by omega] at this
            rw [this, ← vw_e, show 2 * (j - 1) + 2 = 2 * j by omega, r6 (2 * j) (by omega) (by omega)]
        · obtain ⟨j, rfl⟩ : ∃ j, x = 2 * j + 1 := ⟨x / 2, by omega⟩
          rw [show 2 * j + 1 + 1 = 2 * j + 2 by omega, (k3 _ (fun k k0 kn => vw_ne (by omega) (by omega))).1, vw_e]
          have c := (c2 j (by omega) (by omega)).1
          have b1 := hVs (2 * j + 1) (by omega) (by omega)
          rw [vw_o]
          refine Eq.trans c ?_
          refine (h1q _ ?_).1
          have b2 := Vs2 j (by omega) (by omega)
          omega
theorem firsts_c : ∀ (d : Nat) (τ : St) (n fr sp to by_ : Int), (0 ≤ τ 30 0 ∧ τ 30 0 + d ≤ 2147483000) → n < p2 d → (1 ≤ n ∧ n ≤ 255) → (0 ≤ fr ∧ fr ≤ 1000) → (1 ≤ sp ∧ sp ≤ 512) → (0 ≤ to ∧ to ≤ 1000) → (1 ≤ by_ ∧ by_ ≤ sp) → Vok fr sp n → Vok to by_ (n - 1) →
    ∃ τ', M_firsts d τ fr sp n to by_ = some (0, τ') ∧ Keep7 τ τ' to by_ (n - 1) ∧ Fr [1, 2, 30] τ τ' ∧ (τ 30 0 ≤ τ' 30 0 ∧ τ' 30 0 ≤ τ 30 0 + d) ∧ ∀ x, 0 ≤ x → x < n - 1 → τ' 1 (vw 7 to by_ x) = τ 1 (vw 6 fr sp (x + 1)) := by
  intro d
  induction d with
  | zero =>
    intro τ n fr sp to by_ _ h
    unfold p2 at h
    intro hn; exfalso; omega
  | succ d ih =>
    intro τ n fr sp to by_ hm hp hn hfr hsp hto hby hVs hVd
    unfold p2 at hp
    unfold M_firsts
    by_cases hn0 : n = 1
    · subst hn0
      simp (disch := omega) only [ite_n, ite_y]
      exact ⟨τ, rfl, fun q hq => ⟨rfl, rfl⟩, Fr.rf _ _, by omega, fun x x0 xn => by omega⟩
    · have hd0 := hVd 0 (by omega) (by omega)
      have hs1 := hVs 1 (by omega) (by omega)
      obtain ⟨τ1, e0, f1, h31, h1v, h1n, h1q⟩ := makes_ex (τ := τ) (r := 7) (a := to) (v := τ 1 (256 * 6 + (fr + sp))) (by omega) (by omega) (by omega)
      simp (disch := omega) only [ite_n, ite_y, bnd_eq, bndp_eq, oadd_eq, omul_eq, M_leftSize_eq, M_rightSize_eq, M_number_eq, e0]
      have Vs2 : Vok (fr + 2 * sp) (2 * sp) ((n - 1) / 2) := hVs.e (fun k a b => by omega) (by omega)
      have Vd2 : Vok (to + by_) (2 * by_) ((n - 1) / 2) := hVd.o (fun k a b => by omega) (by omega)
      have Vs3 : Vok (fr + sp) (2 * sp) (n / 2) := hVs.o (fun k a b => by omega) (by omega)
      have Vd3 : Vok (to + 2 * by_) (2 * by_) (n / 2 - 1) := hVd.e (fun k a b => by omega) (by omega)
      obtain ⟨τ2, e2, f2, c2, k2⟩ := M_shares_eq τ1 6 (fr + 2 * sp) (2 * sp) ((n - 1) / 2) 7 (to + by_) (2 * by_) (by omega) (by omega) (by omega) (by omega) (by omega) (by omega) (by omega) (by omega) Vs2 Vd2
      rw [e2]
      simp (disch := omega) only [bnd_eq, bndp_eq]
      have r6 : ∀ x, 0 ≤ x → x < n → τ2 1 (vw 6 fr sp x) = τ 1 (vw 6 fr sp x) := fun x x0 xn => by
        have b1 := hVs x x0 xn
        have b2 := k2 (vw 6 fr sp x) (fun k k0 kn => by have := Vd2 k k0 kn; unfold vw; omega)
        have b3 := h1q (vw 6 fr sp x) (by unfold vw; omega)
        exact b2.1.trans b3.1
      have h32 : τ2 30 0 = τ 30 0 + 1 := by rw [f2 30 (by decide), h31]
      obtain ⟨τ3, g1, g2, g3, g4, g6⟩ := ih τ2 (n / 2) (fr + sp) (2 * sp) (to + 2 * by_) (2 * by_) (by omega) (by omega) (by omega) (by omega) (by omega) (by omega) (by omega) Vs3 Vd3
      rw [g1]
      have k3 : ∀ q, (∀ k, 0 ≤ k → 2 * k + 2 < n - 1 → q ≠ vw 7 to by_ (2 * k + 2)) → τ3 1 q = τ2 1 q ∧ τ3 2 q = τ2 2 q := fun q hq => g2 q (fun k k0 kn => by rw [← vw_e]; exact hq k k0 (by omega))
      have k2' : ∀ q, (∀ k, 0 ≤ k → 2 * k + 1 < n - 1 → q ≠ vw 7 to by_ (2 * k + 1)) → τ2 1 q = τ1 1 q ∧ τ2 2 q = τ1 2 q := fun q hq => k2 q (fun k k0 kn => by
        have := hq k k0 (by omega)
        rw [vw_o] at this
        exact this)
      refine ⟨τ3, by simp only [bnd_eq], fun q hq => ?_, (f1.tr (f2.mono (by decide))).tr g3, by omega, fun x x0 xn => ?_⟩
      · have a1 := k3 q (fun k k0 kn => hq _ (by omega) kn)
        have a2 := k2' q (fun k k0 kn => hq _ (by omega) kn)
        have a3 := hq 0 (by omega) (by omega)
        rw [vw_0] at a3
        have a4 := h1q q a3
        exact ⟨a1.1.trans (a2.1.trans a4.1), a1.2.trans (a2.2.trans a4.2)⟩
      · by_cases xz : x = 0
        · subst xz
          rw [(k3 _ (fun k k0 kn => vw_ne (by omega) (by omega))).1, (k2' _ (fun k k0 kn => vw_ne (by omega) (by omega))).1, vw_0, h1v]
          unfold vw
          rw [show (0 + 1 : Int) = 1 from rfl, Int.mul_one, Int.add_assoc]
        rcases Int.emod_two_eq x with e | e
        · obtain ⟨j, rfl⟩ : ∃ j, x = 2 * j + 2 := ⟨x / 2 - 1, by omega⟩
          rw [vw_e, g6 j (by omega) (by omega), ← vw_o, r6 _ (by omega) (by omega), show 2 * (j + 1) + 1 = 2 * j + 2 + 1 by omega]
        · obtain ⟨j, rfl⟩ : ∃ j, x = 2 * j + 1 := ⟨x / 2, by omega⟩
          rw [show 2 * j + 1 + 1 = 2 * j + 2 by omega, (k3 _ (fun k k0 kn => vw_ne (by omega) (by omega))).1, vw_o]
          have c := (c2 j (by omega) (by omega)).1
          rw [vw_e]
          refine Eq.trans c ?_
          refine (h1q _ ?_).1
          have b2 := Vs2 j (by omega) (by omega)
          omega
theorem pushes_c : ∀ (d : Nat) (τ : St) (v n fr sp to by_ : Int), (0 ≤ τ 30 0 ∧ τ 30 0 + d ≤ 2147483000) → n + 1 < p2 d → (0 ≤ n ∧ n ≤ 254) → (0 ≤ fr ∧ fr ≤ 1000) → (1 ≤ sp ∧ sp ≤ by_) → 0 ≤ to → Vok fr sp n → Vok to by_ (n + 1) →
    ∃ τ', M_pushes d τ fr sp n to by_ v = some (0, τ') ∧ Keep7 τ τ' to by_ (n + 1) ∧ Fr [1, 2, 30] τ τ' ∧ (τ 30 0 ≤ τ' 30 0 ∧ τ' 30 0 ≤ τ 30 0 + d) ∧ ∀ y, 0 ≤ y → y ≤ n → τ' 1 (vw 7 to by_ y) = psh d (fun x => τ 1 (vw 6 fr sp x)) n v y := by
  intro d
  induction d with
  | zero =>
    intro τ v n fr sp to by_ _ h
    unfold p2 at h
    intro hn; exfalso; omega
  | succ d ih =>
    intro τ v n fr sp to by_ hm hp hn hfr hsp hto hVs hVd
    have hd0 := hVd 0 (by omega) (by omega)
    unfold p2 at hp
    unfold M_pushes psh
    by_cases hn0 : n = 0
    · subst hn0
      obtain ⟨τ1, e0, f1, h31, h1v, h1n, h1q⟩ := makes_ex (τ := τ) (r := 7) (a := to) (v := v) (by omega) (by omega) (by omega)
      simp (disch := omega) only [ite_n, ite_y, bnd_eq, e0]
      refine ⟨τ1, rfl, fun q hq => ?_, f1, by omega, fun y y0 yn => ?_⟩
      · have := hq 0 (by omega) (by omega)
        rw [vw_0] at this
        exact h1q q this
      · rw [show y = 0 by omega, vw_0, h1v]
        exact (if_pos trivial).symm
    · have hb1 := hVd 1 (by omega) (by omega)
      have hs0 := hVs 0 (by omega) (by omega)
      obtain ⟨u, hu⟩ : ∃ u, u = τ 1 (256 * 6 + fr) := ⟨_, rfl⟩
      obtain ⟨τ1, e0, f1, h31, h1v, h1n, h1q⟩ := makes_ex (τ := τ) (r := 7) (a := to) (v := imin v u) (by omega) (by omega) (by omega)
      simp (disch := omega) only [ite_n, ite_y, bnd_eq, bndp_eq, oadd_eq, omul_eq, opure_eq, M_leftSize_eq, M_rightSize_eq, M_number_eq, ← hu, e0]
      have Vs2 : Vok (fr + sp) (2 * sp) (n / 2) := hVs.o (fun k a b => by omega) (by omega)
      have Vd2 : Vok (to + 2 * by_) (2 * by_) (n / 2) := hVd.e (fun k a b => by omega) (by omega)
      have Vs3 : Vok (fr + 2 * sp) (2 * sp) ((n - 1) / 2) := hVs.e (fun k a b => by omega) (by omega)
      have Vd3 : Vok (to + by_) (2 * by_) ((n - 1) / 2 + 1) := hVd.o (fun k a b => by omega) (by omega)
      obtain ⟨τ2, e2, f2, c2, k2⟩ := M_shares_eq τ1 6 (fr + sp) (2 * sp) (n / 2) 7 (to + 2 * by_) (2 * by_) (by omega) (by omega) (by omega) (by omega) (by omega) (by omega) (by omega) (by omega) Vs2 Vd2
      rw [e2]
      simp (disch := omega) only [bnd_eq, bndp_eq]
      have r6 : ∀ x, 0 ≤ x → x < n → τ2 1 (vw 6 fr sp x) = τ 1 (vw 6 fr sp x) := fun x x0 xn => by
        have b1 := hVs x x0 xn
        have b2 := k2 (vw 6 fr sp x) (fun k k0 kn => by have := Vd2 k k0 kn; unfold vw; omega)
        have b3 := h1q (vw 6 fr sp x) (by unfold vw; omega)
        exact b2.1.trans b3.1
      have h32 : τ2 30 0 = τ 30 0 + 1 := by rw [f2 30 (by decide), h31]
      obtain ⟨τ3, g1, g2, g3, g4, g6⟩ := ih τ2 (imax v u) ((n - 1) / 2) (fr + 2 * sp) (2 * sp) (to + by_) (2 * by_) (by omega) (by omega) (by omega) (by omega) (by omega) (by omega) Vs3 Vd3
      rw [g1]
      have k3 : ∀ q, (∀ k, 0 ≤ k → 2 * k + 1 < n + 1 → q ≠ vw 7 to by_ (2 * k + 1)) → τ3 1 q = τ2 1 q ∧ τ3 2 q = τ2 2 q := fun q hq => g2 q (fun k k0 kn => by rw [← vw_o]; exact hq k k0 (by omega))
      have k2' : ∀ q, (∀ k, 0 ≤ k → 2 * k + 2 < n + 1 → q ≠ vw 7 to by_ (2 * k + 2)) → τ2 1 q = τ1 1 q ∧ τ2 2 q = τ1 2 q := fun q hq => k2 q (fun k k0 kn => by
        have := hq k k0 (by omega)
        rw [vw_e] at this
        exact this)
      refine ⟨τ3, by simp only [bnd_eq], fun q hq => ?_, (f1.tr (f2.mono (by decide))).tr g3, by omega, fun y y0 yn => ?_⟩
      · have a1 := k3 q (fun k k0 kn => hq _ (by omega) kn)
        have a2 := k2' q (fun k k0 kn => hq _ (by omega) kn)
        have a3 := hq 0 (by omega) (by omega)
        rw [vw_0] at a3
        have a4 := h1q q a3
        exact ⟨a1.1.trans (a2.1.trans a4.1), a1.2.trans (a2.2.trans a4.2)⟩
      · by_cases yz : y = 0
        · subst yz
          rw [if_pos rfl, (k3 _ (fun k k0 kn => vw_ne (by omega) (by omega))).1, (k2' _ (fun k k0 kn => vw_ne (by omega) (by omega))).1, vw_0, h1v, vw_0, hu]
        rw [if_neg yz]
        rcases Int.emod_two_eq y with e | e
        · obtain ⟨j, rfl⟩ : ∃ j, y = 2 * j + 2 := ⟨y / 2 - 1, by omega⟩
          rw [if_neg (by omega), (k3 _ (fun k k0 kn => vw_ne (by omega) (by omega))).1, vw_e, show 2 * j + 2 - 1 = 2 * j + 1 by omega, vw_o]
          have c := (c2 j (by omega) (by omega)).1
          refine Eq.trans c ?_
          refine (h1q _ ?_).1
          have b2 := Vs2 j (by omega) (by omega)
          omega
        · obtain ⟨j, rfl⟩ : ∃ j, y = 2 * j + 1 := ⟨y / 2, by omega⟩
          rw [if_pos (by omega), vw_o, g6 j (by omega) (by omega), show (2 * j + 1) / 2 = j by omega, vw_0, ← hu]
          refine psh_ext d _ _ _ (fun x x0 xn => ?_) (by omega) j (by omega) (by omega)
          show τ2 1 (vw 6 (fr + 2 * sp) (2 * sp) x) = τ 1 (vw 6 fr sp (2 * x + 2))
          rw [← vw_e, r6 _ (by omega) (by omega)]

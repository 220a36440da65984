-- MATH 38: written
def WR (s t : St) : Prop := s 43 0 = t 43 0 ∧ s 41 0 = t 44 0 ∧ s 42 0 = t 45 0
theorem put_ex {s t : St} {c c' : Int} (h : WR s t) (hc : c = c') (hb : 0 ≤ s 43 0 ∧ s 43 0 ≤ 2000000) : ∃ s' t', Writer_put s c = some (0, s') ∧ M_writes t c' = some (0, t') ∧ WR s' t' ∧ Fr [42, 43] s s' ∧ Fr [43, 45] t t' ∧ s' 43 0 = s 43 0 + 1 := by
  obtain ⟨h1, h2, h3⟩ := h
  subst hc
  by_cases q : s 43 0 = s 41 0
  · refine ⟨us (us s 42 0 c) 43 0 (s 43 0 + 1), us (us t 45 0 c) 43 0 (t 43 0 + 1), ?_, ?_, ⟨?_, ?_, ?_⟩, ((Fr.rf _ _).us (by decide)).us (by decide), ((Fr.rf _ _).us (by decide)).us (by decide), us_eq _ _ _ _⟩
    · unfold Writer_put
      simp (disch := omega) only [↓jn_e, ↓ite_y, ↓ite_n, ↓oadd_eq, ↓osub_eq, ↓omul_eq, ↓odiv_eq, ↓orem_eq, ↓rd_eq, ↓wr_eq, ↓gf_e, ↓pf_e, ↓bnd_e, ↓bndp_e, ↓opure_e, ↓oif_t, ↓oif_f, ↓E_isPlace_y, ↓E_isPlace_n, ↓E_isNumber_y, ↓E_isNumber_n, ↓M_isPlace_y, ↓M_isPlace_n, ↓M_isNumber_y, ↓M_isNumber_n, ↓M_in_y, ↓M_in_n, ↓us_ne]
    · unfold M_writes
      simp (disch := omega) only [↓jn_e, ↓ite_y, ↓ite_n, ↓oadd_eq, ↓osub_eq, ↓omul_eq, ↓odiv_eq, ↓orem_eq, ↓rd_eq, ↓wr_eq, ↓gf_e, ↓pf_e, ↓bnd_e, ↓bndp_e, ↓opure_e, ↓oif_t, ↓oif_f, ↓E_isPlace_y, ↓E_isPlace_n, ↓E_isNumber_y, ↓E_isNumber_n, ↓M_isPlace_y, ↓M_isPlace_n, ↓M_isNumber_y, ↓M_isNumber_n, ↓M_in_y, ↓M_in_n, ↓us_ne]
    · rw [us_eq, us_eq, h1]
    · rw [us_ne (by decide), us_ne (by decide), us_ne (by decide), us_ne (by decide)]; exact h2
    · rw [us_ne (by decide), us_eq, us_ne (by decide), us_eq]
  · refine ⟨us s 43 0 (s 43 0 + 1), us t 43 0 (t 43 0 + 1), ?_, ?_, ⟨?_, ?_, ?_⟩, (Fr.rf _ _).us (by decide), (Fr.rf _ _).us (by decide), us_eq _ _ _ _⟩
    · unfold Writer_put
      simp (disch := omega) only [↓jn_e, ↓ite_y, ↓ite_n, ↓oadd_eq, ↓osub_eq, ↓omul_eq, ↓odiv_eq, ↓orem_eq, ↓rd_eq, ↓wr_eq, ↓gf_e, ↓pf_e, ↓bnd_e, ↓bndp_e, ↓opure_e, ↓oif_t, ↓oif_f, ↓E_isPlace_y, ↓E_isPlace_n, ↓E_isNumber_y, ↓E_isNumber_n, ↓M_isPlace_y, ↓M_isPlace_n, ↓M_isNumber_y, ↓M_isNumber_n, ↓M_in_y, ↓M_in_n, ↓us_ne]
    · unfold M_writes
      simp (disch := omega) only [↓jn_e, ↓ite_y, ↓ite_n, ↓oadd_eq, ↓osub_eq, ↓omul_eq, ↓odiv_eq, ↓orem_eq, ↓rd_eq, ↓wr_eq, ↓gf_e, ↓pf_e, ↓bnd_e, ↓bndp_e, ↓opure_e, ↓oif_t, ↓oif_f, ↓E_isPlace_y, ↓E_isPlace_n, ↓E_isNumber_y, ↓E_isNumber_n, ↓M_isPlace_y, ↓M_isPlace_n, ↓M_isNumber_y, ↓M_isNumber_n, ↓M_in_y, ↓M_in_n, ↓us_ne]
    · rw [us_eq, us_eq, h1]
    · rw [us_ne (by decide), us_ne (by decide)]; exact h2
    · rw [us_ne (by decide), us_ne (by decide)]; exact h3
theorem oabs_e {α : Type} {a : Int} {k : Int → Option α} (h : -999 ≤ a ∧ a ≤ 999) : oabs a k = k (iabs a) := by
  unfold oabs
  rw [if_pos (by omega)]
theorem num_ex {s t : St} {v : Int} (h : WR s t) (hv : -999 ≤ v ∧ v ≤ 999) (hb : 0 ≤ s 43 0 ∧ s 43 0 ≤ 1000000) : ∃ s' t', Writer_putNumber s v = some (0, s') ∧ M_writesNumber t v = some (0, t') ∧ WR s' t' ∧ Fr [42, 43] s s' ∧ Fr [43, 45] t t' ∧ s 43 0 ≤ s' 43 0 ∧ s' 43 0 ≤ s 43 0 + 4 := by
  by_cases q : v < 0
  · by_cases q9 : 9 < -v
    · by_cases q99 : 99 < -v
      · have ea : iabs v = -v := by unfold iabs; rw [if_pos (by omega)]
        obtain ⟨s1, t1, e1, m1, w1, f1, g1, c1⟩ := put_ex (c := 45) (c' := 45) h (by omega) (by omega)
        obtain ⟨s2, t2, e2, m2, w2, f2, g2, c2⟩ := put_ex (c := 48 + iabs v / 100) (c' := 48 + -v / 100) w1 (by omega) (by omega)
        obtain ⟨s3, t3, e3, m3, w3, f3, g3, c3⟩ := put_ex (c := 48 + iabs v / 10 % 10) (c' := 48 + -v / 10 % 10) w2 (by omega) (by omega)
        obtain ⟨s4, t4, e4, m4, w4, f4, g4, c4⟩ := put_ex (c := 48 + iabs v % 10) (c' := 48 + -v % 10) w3 (by omega) (by omega)
        refine ⟨s4, t4, ?_, ?_, w4, (f1.tr (f2.tr (f3.tr f4))), (g1.tr (g2.tr (g3.tr g4))), by omega, by omega⟩
        · unfold Writer_putNumber
          simp (disch := omega) only [↓jn_e, ↓ite_y, ↓ite_n, ↓oadd_eq, ↓osub_eq, ↓omul_eq, ↓odiv_eq, ↓orem_eq, ↓rd_eq, ↓wr_eq, ↓gf_e, ↓pf_e, ↓bnd_e, ↓bndp_e, ↓opure_e, ↓oif_t, ↓oif_f, ↓E_isPlace_y, ↓E_isPlace_n, ↓E_isNumber_y, ↓E_isNumber_n, ↓M_isPlace_y, ↓M_isPlace_n, ↓M_isNumber_y, ↓M_isNumber_n, ↓M_in_y, ↓M_in_n, ↓us_ne, ↓oabs_e, ↓e1, ↓e2, ↓e3, ↓e4]
        · unfold M_writesNumber
          simp (disch := omega) only [↓jn_e, ↓ite_y, ↓ite_n, ↓oadd_eq, ↓osub_eq, ↓omul_eq, ↓odiv_eq, ↓orem_eq, ↓rd_eq, ↓wr_eq, ↓gf_e, ↓pf_e, ↓bnd_e, ↓bndp_e, ↓opure_e, ↓oif_t, ↓oif_f, ↓E_isPlace_y, ↓E_isPlace_n, ↓E_isNumber_y, ↓E_isNumber_n, ↓M_isPlace_y, ↓M_isPlace_n, ↓M_isNumber_y, ↓M_isNumber_n, ↓M_in_y, ↓M_in_n, ↓us_ne, ↓oneg_eq, ↓m1, ↓m2, ↓m3, ↓m4]
      · have ea : iabs v = -v := by unfold iabs; rw [if_pos (by omega)]
        obtain ⟨s1, t1, e1, m1, w1, f1, g1, c1⟩ := put_ex (c := 45) (c' := 45) h (by omega) (by omega)
        obtain ⟨s2, t2, e2, m2, w2, f2, g2, c2⟩ := put_ex (c := 48 + iabs v / 10 % 10) (c' := 48 + -v / 10 % 10) w1 (by omega) (by omega)
        obtain ⟨s3, t3, e3, m3, w3, f3, g3, c3⟩ := put_ex (c := 48 + iabs v % 10) (c' := 48 + -v % 10) w2 (by omega) (by omega)
        refine ⟨s3, t3, ?_, ?_, w3, (f1.tr (f2.tr f3)), (g1.tr (g2.tr g3)), by omega, by omega⟩
        · unfold Writer_putNumber
          simp (disch := omega) only [↓jn_e, ↓ite_y, ↓ite_n, ↓oadd_eq, ↓osub_eq, ↓omul_eq, ↓odiv_eq, ↓orem_eq, ↓rd_eq, ↓wr_eq, ↓gf_e, ↓pf_e, ↓bnd_e, ↓bndp_e, ↓opure_e, ↓oif_t, ↓oif_f, ↓E_isPlace_y, ↓E_isPlace_n, ↓E_isNumber_y, ↓E_isNumber_n, ↓M_isPlace_y, ↓M_isPlace_n, ↓M_isNumber_y, ↓M_isNumber_n, ↓M_in_y, ↓M_in_n, ↓us_ne, ↓oabs_e, ↓e1, ↓e2, ↓e3]
        · unfold M_writesNumber
          simp (disch := omega) only [↓jn_e, ↓ite_y, ↓ite_n, ↓oadd_eq, ↓osub_eq, ↓omul_eq, ↓odiv_eq, ↓orem_eq, ↓rd_eq, ↓wr_eq, ↓gf_e, ↓pf_e, ↓bnd_e, ↓bndp_e, ↓opure_e, ↓oif_t, ↓oif_f, ↓E_isPlace_y, ↓E_isPlace_n, ↓E_isNumber_y, ↓E_isNumber_n, ↓M_isPlace_y, ↓M_isPlace_n, ↓M_isNumber_y, ↓M_isNumber_n, ↓M_in_y, ↓M_in_n, ↓us_ne, ↓oneg_eq, ↓m1, ↓m2, ↓m3]
    · have ea : iabs v = -v := by unfold iabs; rw [if_pos (by omega)]
      obtain ⟨s1, t1, e1, m1, w1, f1, g1, c1⟩ := put_ex (c := 45) (c' := 45) h (by omega) (by omega)
      obtain ⟨s2, t2, e2, m2, w2, f2, g2, c2⟩ := put_ex (c := 48 + iabs v % 10) (c' := 48 + -v % 10) w1 (by omega) (by omega)
      refine ⟨s2, t2, ?_, ?_, w2, (f1.tr f2), (g1.tr g2), by omega, by omega⟩
      · unfold Writer_putNumber
        simp (disch := omega) only [↓jn_e, ↓ite_y, ↓ite_n, ↓oadd_eq, ↓osub_eq, ↓omul_eq, ↓odiv_eq, ↓orem_eq, ↓rd_eq, ↓wr_eq, ↓gf_e, ↓pf_e, ↓bnd_e, ↓bndp_e, ↓opure_e, ↓oif_t, ↓oif_f, ↓E_isPlace_y, ↓E_isPlace_n, ↓E_isNumber_y, ↓E_isNumber_n, ↓M_isPlace_y, ↓M_isPlace_n, ↓M_isNumber_y, ↓M_isNumber_n, ↓M_in_y, ↓M_in_n, ↓us_ne, ↓oabs_e, ↓e1, ↓e2]
      · unfold M_writesNumber
        simp (disch := omega) only [↓jn_e, ↓ite_y, ↓ite_n, ↓oadd_eq, ↓osub_eq, ↓omul_eq, ↓odiv_eq, ↓orem_eq, ↓rd_eq, ↓wr_eq, ↓gf_e, ↓pf_e, ↓bnd_e, ↓bndp_e, ↓opure_e, ↓oif_t, ↓oif_f, ↓E_isPlace_y, ↓E_isPlace_n, ↓E_isNumber_y, ↓E_isNumber_n, ↓M_isPlace_y, ↓M_isPlace_n, ↓M_isNumber_y, ↓M_isNumber_n, ↓M_in_y, ↓M_in_n, ↓us_ne, ↓oneg_eq, ↓m1, ↓m2]
  · by_cases q9 : 9 < v
    · by_cases q99 : 99 < v
      · have ea : iabs v = v := by unfold iabs; rw [if_neg (by omega)]
        obtain ⟨s1, t1, e1, m1, w1, f1, g1, c1⟩ := put_ex (c := 48 + iabs v / 100) (c' := 48 + v / 100) h (by omega) (by omega)
        obtain ⟨s2, t2, e2, m2, w2, f2, g2, c2⟩ := put_ex (c := 48 + iabs v / 10 % 10) (c' := 48 + v / 10 % 10) w1 (by omega) (by omega)
        obtain ⟨s3, t3, e3, m3, w3, f3, g3, c3⟩ := put_ex (c := 48 + iabs v % 10) (c' := 48 + v % 10) w2 (by omega) (by omega)
        refine ⟨s3, t3, ?_, ?_, w3, (f1.tr (f2.tr f3)), (g1.tr (g2.tr g3)), by omega, by omega⟩
        · unfold Writer_putNumber
          simp (disch := omega) only [↓jn_e, ↓ite_y, ↓ite_n, ↓oadd_eq, ↓osub_eq, ↓omul_eq, ↓odiv_eq, ↓orem_eq, ↓rd_eq, ↓wr_eq, ↓gf_e, ↓pf_e, ↓bnd_e, ↓bndp_e, ↓opure_e, ↓oif_t, ↓oif_f, ↓E_isPlace_y, ↓E_isPlace_n, ↓E_isNumber_y, ↓E_isNumber_n, ↓M_isPlace_y, ↓M_isPlace_n, ↓M_isNumber_y, ↓M_isNumber_n, ↓M_in_y, ↓M_in_n, ↓us_ne, ↓oabs_e, ↓e1, ↓e2, ↓e3]
        · unfold M_writesNumber
          simp (disch := omega) only [↓jn_e, ↓ite_y, ↓ite_n, ↓oadd_eq, ↓osub_eq, ↓omul_eq, ↓odiv_eq, ↓orem_eq, ↓rd_eq, ↓wr_eq, ↓gf_e, ↓pf_e, ↓bnd_e, ↓bndp_e, ↓opure_e, ↓oif_t, ↓oif_f, ↓E_isPlace_y, ↓E_isPlace_n, ↓E_isNumber_y, ↓E_isNumber_n, ↓M_isPlace_y, ↓M_isPlace_n, ↓M_isNumber_y, ↓M_isNumber_n, ↓M_in_y, ↓M_in_n, ↓us_ne, ↓oneg_eq, ↓m1, ↓m2, ↓m3]
      · have ea : iabs v = v := by unfold iabs; rw [if_neg (by omega)]
        obtain ⟨s1, t1, e1, m1, w1, f1, g1, c1⟩ := put_ex (c := 48 + iabs v / 10 % 10) (c' := 48 + v / 10 % 10) h (by omega) (by omega)
        obtain ⟨s2, t2, e2, m2, w2, f2, g2, c2⟩ := put_ex (c := 48 + iabs v % 10) (c' := 48 + v % 10) w1 (by omega) (by omega)
        refine ⟨s2, t2, ?_, ?_, w2, (f1.tr f2), (g1.tr g2), by omega, by omega⟩
        · unfold Writer_putNumber
          simp (disch := omega) only [↓jn_e, ↓ite_y, ↓ite_n, ↓oadd_eq, ↓osub_eq, ↓omul_eq, ↓odiv_eq, ↓orem_eq, ↓rd_eq, ↓wr_eq, ↓gf_e, ↓pf_e, ↓bnd_e, ↓bndp_e, ↓opure_e, ↓oif_t, ↓oif_f, ↓E_isPlace_y, ↓E_isPlace_n, ↓E_isNumber_y, ↓E_isNumber_n, ↓M_isPlace_y, ↓M_isPlace_n, ↓M_isNumber_y, ↓M_isNumber_n, ↓M_in_y, ↓M_in_n, ↓us_ne, ↓oabs_e, ↓e1, ↓e2]
        · unfold M_writesNumber
          simp (disch := omega) only [↓jn_e, ↓ite_y, ↓ite_n, ↓oadd_eq, ↓osub_eq, ↓omul_eq, ↓odiv_eq, ↓orem_eq, ↓rd_eq, ↓wr_eq, ↓gf_e, ↓pf_e, ↓bnd_e, ↓bndp_e, ↓opure_e, ↓oif_t, ↓oif_f, ↓E_isPlace_y, ↓E_isPlace_n, ↓E_isNumber_y, ↓E_isNumber_n, ↓M_isPlace_y, ↓M_isPlace_n, ↓M_isNumber_y, ↓M_isNumber_n, ↓M_in_y, ↓M_in_n, ↓us_ne, ↓oneg_eq, ↓m1, ↓m2]
    · have ea : iabs v = v := by unfold iabs; rw [if_neg (by omega)]
      obtain ⟨s1, t1, e1, m1, w1, f1, g1, c1⟩ := put_ex (c := 48 + iabs v % 10) (c' := 48 + v % 10) h (by omega) (by omega)
      refine ⟨s1, t1, ?_, ?_, w1, f1, g1, by omega, by omega⟩
      · unfold Writer_putNumber
        simp (disch := omega) only [↓jn_e, ↓ite_y, ↓ite_n, ↓oadd_eq, ↓osub_eq, ↓omul_eq, ↓odiv_eq, ↓orem_eq, ↓rd_eq, ↓wr_eq, ↓gf_e, ↓pf_e, ↓bnd_e, ↓bndp_e, ↓opure_e, ↓oif_t, ↓oif_f, ↓E_isPlace_y, ↓E_isPlace_n, ↓E_isNumber_y, ↓E_isNumber_n, ↓M_isPlace_y, ↓M_isPlace_n, ↓M_isNumber_y, ↓M_isNumber_n, ↓M_in_y, ↓M_in_n, ↓us_ne, ↓oabs_e, ↓e1]
      · unfold M_writesNumber
        simp (disch := omega) only [↓jn_e, ↓ite_y, ↓ite_n, ↓oadd_eq, ↓osub_eq, ↓omul_eq, ↓odiv_eq, ↓orem_eq, ↓rd_eq, ↓wr_eq, ↓gf_e, ↓pf_e, ↓bnd_e, ↓bndp_e, ↓opure_e, ↓oif_t, ↓oif_f, ↓E_isPlace_y, ↓E_isPlace_n, ↓E_isNumber_y, ↓E_isNumber_n, ↓M_isPlace_y, ↓M_isPlace_n, ↓M_isNumber_y, ↓M_isNumber_n, ↓M_in_y, ↓M_in_n, ↓us_ne, ↓oneg_eq, ↓m1]
theorem p2_le : ∀ e, e ≤ 8 → p2 e ≤ 256 := by
  intro e he
  rcases (show e = 0 ∨ e = 1 ∨ e = 2 ∨ e = 3 ∨ e = 4 ∨ e = 5 ∨ e = 6 ∨ e = 7 ∨ e = 8 by omega) with h | h | h | h | h | h | h | h | h
  all_goals (subst h; decide)
theorem tree_ex {i N : Int} (hi : 0 ≤ i ∧ i < 6) (hN : 0 ≤ N ∧ N ≤ 255) (u : Int → Int) (hu : ∀ x, 0 ≤ x → x < N → -999 ≤ u x ∧ u x ≤ 999) : ∀ (d e f : Nat) (s t : St) (x n : Int), e + d = 8 → d < f → n < p2 d → 0 ≤ n → 0 ≤ x → (0 < n → x + p2 e * (n - 1) < N) → N ≤ x + p2 e * n → x ≤ 1000 → (∀ x, 0 ≤ x → x < N → s 26 x = u x) → (∀ x, 0 ≤ x → x < N → t 1 (256 * i + x) = u x) → WR s t → (0 ≤ s 43 0 ∧ s 43 0 + 7 * n ≤ 100000) →
    ∃ s' t', Writer_writeTree_one f s N x (p2 e) = some (0, s') ∧ M_writesPart f t i x (p2 e) n = some (0, t') ∧ WR s' t' ∧ Fr [42, 43] s s' ∧ Fr [43, 45] t t' ∧ s 43 0 ≤ s' 43 0 ∧ s' 43 0 ≤ s 43 0 + 7 * n + 1 := by
  intro d
  induction d with
  | zero =>
    intro e f s t x n he hf hn h0 hx h1 h2 hxb hs ht hw hb
    cases f with
    | zero => omega
    | succ f =>
    have e0 : p2 0 = 1 := rfl
    have n0 : n = 0 := by omega
    subst n0
    rw [Int.mul_zero] at h2
    obtain ⟨s1, t1, e1, m1, w1, f1, g1, c1⟩ := put_ex (c := 46) (c' := 46) hw rfl (by omega)
    refine ⟨s1, t1, ?_, ?_, w1, f1, g1, by omega, by omega⟩
    · unfold Writer_writeTree_one
      simp (disch := omega) only [↓jn_e, ↓ite_y, ↓ite_n, ↓oadd_eq, ↓osub_eq, ↓omul_eq, ↓odiv_eq, ↓orem_eq, ↓rd_eq, ↓wr_eq, ↓gf_e, ↓pf_e, ↓bnd_e, ↓bndp_e, ↓opure_e, ↓oif_t, ↓oif_f, ↓E_isPlace_y, ↓E_isPlace_n, ↓E_isNumber_y, ↓E_isNumber_n, ↓M_isPlace_y, ↓M_isPlace_n, ↓M_isNumber_y, ↓M_isNumber_n, ↓M_in_y, ↓M_in_n, ↓us_ne, ↓e1]
    · unfold M_writesPart
      simp (disch := omega) only [↓jn_e, ↓ite_y, ↓ite_n, ↓oadd_eq, ↓osub_eq, ↓omul_eq, ↓odiv_eq, ↓orem_eq, ↓rd_eq, ↓wr_eq, ↓gf_e, ↓pf_e, ↓bnd_e, ↓bndp_e, ↓opure_e, ↓oif_t, ↓oif_f, ↓E_isPlace_y, ↓E_isPlace_n, ↓E_isNumber_y, ↓E_isNumber_n, ↓M_isPlace_y, ↓M_isPlace_n, ↓M_isNumber_y, ↓M_isNumber_n, ↓M_in_y, ↓M_in_n, ↓us_ne, ↓m1]
  | succ d ih =>
    intro e f s t x n he hf hn h0 hx h1 h2 hxb hs ht hw hb
    cases f with
    | zero => omega
    | succ f =>
    unfold p2 at hn
    by_cases n0 : n = 0
    · subst n0
      rw [Int.mul_zero] at h2
      obtain ⟨s1, t1, e1, m1, w1, f1, g1, c1⟩ := put_ex (c := 46) (c' := 46) hw rfl (by omega)
      refine ⟨s1, t1, ?_, ?_, w1, f1, g1, by omega, by omega⟩
      · unfold Writer_writeTree_one
        simp (disch := omega) only [↓jn_e, ↓ite_y, ↓ite_n, ↓oadd_eq, ↓osub_eq, ↓omul_eq, ↓odiv_eq, ↓orem_eq, ↓rd_eq, ↓wr_eq, ↓gf_e, ↓pf_e, ↓bnd_e, ↓bndp_e, ↓opure_e, ↓oif_t, ↓oif_f, ↓E_isPlace_y, ↓E_isPlace_n, ↓E_isNumber_y, ↓E_isNumber_n, ↓M_isPlace_y, ↓M_isPlace_n, ↓M_isNumber_y, ↓M_isNumber_n, ↓M_in_y, ↓M_in_n, ↓us_ne, ↓e1]
      · unfold M_writesPart
        simp (disch := omega) only [↓jn_e, ↓ite_y, ↓ite_n, ↓oadd_eq, ↓osub_eq, ↓omul_eq, ↓odiv_eq, ↓orem_eq, ↓rd_eq, ↓wr_eq, ↓gf_e, ↓pf_e, ↓bnd_e, ↓bndp_e, ↓opure_e, ↓oif_t, ↓oif_f, ↓E_isPlace_y, ↓E_isPlace_n, ↓E_isNumber_y, ↓E_isNumber_n, ↓M_isPlace_y, ↓M_isPlace_n, ↓M_isNumber_y, ↓M_isNumber_n, ↓M_in_y, ↓M_in_n, ↓us_ne, ↓m1]
    · obtain ⟨S, hS⟩ : ∃ S, S = p2 e := ⟨_, rfl⟩
      have S1 := p2_pos e
      have S2 := p2_le e (by omega)
      have e2S : 2 * S = p2 (e + 1) := by rw [hS]; rfl
      rw [← hS] at h1 h2 S1 S2 ⊢
      have hxN : x < N := by
        have a := h1 (by omega)
        have b : 0 ≤ S * (n - 1) := Int.mul_nonneg (by omega) (by omega)
        omega
      -- sizes of the sides
      obtain ⟨q, hq⟩ : ∃ q, q = n / 2 := ⟨_, rfl⟩
      obtain ⟨r, hr⟩ : ∃ r, r = (n - 1) / 2 := ⟨_, rfl⟩
      have mq1 : S * (2 * q) = 2 * (S * q) := Int.mul_left_comm S 2 q
      have mr1 : S * (2 * r) = 2 * (S * r) := Int.mul_left_comm S 2 r
      have mq2 : 2 * S * q = 2 * (S * q) := Int.mul_assoc 2 S q
      have mr2 : 2 * S * r = 2 * (S * r) := Int.mul_assoc 2 S r
      have mq3 : 2 * S * (q - 1) = 2 * (S * q) - 2 * S := by rw [Int.mul_sub, Int.mul_one, mq2]
      have mr3 : 2 * S * (r - 1) = 2 * (S * r) - 2 * S := by rw [Int.mul_sub, Int.mul_one, mr2]
      have hL1 : 0 < q → x + S + 2 * S * (q - 1) < N := fun hq0 => by
        have a := h1 (by omega)
        rcases Int.emod_two_eq n with o | o
        · have en : n - 1 = 2 * q - 1 := by omega
          rw [en, Int.mul_sub, Int.mul_one, mq1] at a
          omega
        · have en : n - 1 = 2 * q := by omega
          rw [en, mq1] at a
          omega
      have hL2 : N ≤ x + S + 2 * S * q := by
        rcases Int.emod_two_eq n with o | o
        · have en : n = 2 * q := by omega
          rw [en, mq1] at h2
          omega
        · have en : n = 2 * q + 1 := by omega
          rw [en, Int.mul_add, Int.mul_one, mq1] at h2
          omega
      have hR1 : 0 < r → x + 2 * S + 2 * S * (r - 1) < N := fun hr0 => by
        have a := h1 (by omega)
        rcases Int.emod_two_eq n with o | o
        · have en : n - 1 = 2 * r + 1 := by omega
          rw [en, Int.mul_add, Int.mul_one, mr1] at a
          omega
        · have en : n - 1 = 2 * r := by omega
          rw [en, mr1] at a
          omega
      have hR2 : N ≤ x + 2 * S + 2 * S * r := by
        rcases Int.emod_two_eq n with o | o
        · have en : n = 2 * (r + 1) := by omega
          rw [en, Int.mul_left_comm, Int.mul_add, Int.mul_one] at h2
          omega
        · have en : n = 2 * r + 1 := by omega
          rw [en, Int.mul_add, Int.mul_one, mr1] at h2
          omega
      have ux := hu x hx hxN
      have sx := hs x hx hxN
      obtain ⟨s1, t1, e1, m1, w1, f1, g1, c1⟩ := put_ex (c := 40) (c' := 40) hw rfl (by omega)
      have sx1 : s1 26 x = u x := by rw [f1 26 (by decide)]; exact sx
      have nM : M_number t1 i x = some (u x) := by rw [M_number_eq (by omega) (by omega), g1 1 (by decide), ht x hx hxN]
      obtain ⟨s2, t2, e2, m2, w2, f2, g2, c2, c2'⟩ := num_ex (v := u x) w1 ux (by omega)
      have hL1 : 0 < q → x + S + p2 (e + 1) * (q - 1) < N := by rw [← e2S]; exact hL1
      have hL2 : N ≤ x + S + p2 (e + 1) * q := by rw [← e2S]; exact hL2
      have hR1 : 0 < r → x + 2 * S + p2 (e + 1) * (r - 1) < N := by rw [← e2S]; exact hR1
      have hR2 : N ≤ x + 2 * S + p2 (e + 1) * r := by rw [← e2S]; exact hR2
      have p2e : p2 (e + 1) = 2 * S := e2S.symm
      obtain ⟨s3, t3, e3, m3, w3, f3, g3, c3, c3'⟩ := ih (e + 1) f s2 t2 (x + S) q (by omega) (by omega) (by omega) (by omega) (by omega) hL1 hL2 (by omega) (fun z a b => by rw [f2 26 (by decide), f1 26 (by decide)]; exact hs z a b) (fun z a b => by rw [g2 1 (by decide), g1 1 (by decide)]; exact ht z a b) w2 (by omega)
      obtain ⟨s4, t4, e4, m4, w4, f4, g4, c4, c4'⟩ := ih (e + 1) f s3 t3 (x + 2 * S) r (by omega) (by omega) (by omega) (by omega) (by omega) hR1 hR2 (by omega) (fun z a b => by rw [f3 26 (by decide), f2 26 (by decide), f1 26 (by decide)]; exact hs z a b) (fun z a b => by rw [g3 1 (by decide), g2 1 (by decide), g1 1 (by decide)]; exact ht z a b) w3 (by omega)
      rw [p2e] at e3 m3 e4 m4
      obtain ⟨s5, t5, e5, m5, w5, f5, g5, c5⟩ := put_ex (c := 41) (c' := 41) w4 rfl (by omega)
      refine ⟨s5, t5, ?_, ?_, w5, f1.tr (f2.tr (f3.tr (f4.tr f5))), g1.tr (g2.tr (g3.tr (g4.tr g5))), by omega, by omega⟩
      · unfold Writer_writeTree_one
        simp (disch := omega) only [↓jn_e, ↓ite_y, ↓ite_n, ↓oadd_eq, ↓osub_eq, ↓omul_eq, ↓odiv_eq, ↓orem_eq, ↓rd_eq, ↓wr_eq, ↓gf_e, ↓pf_e, ↓bnd_e, ↓bndp_e, ↓opure_e, ↓oif_t, ↓oif_f, ↓E_isPlace_y, ↓E_isPlace_n, ↓E_isNumber_y, ↓E_isNumber_n, ↓M_isPlace_y, ↓M_isPlace_n, ↓M_isNumber_y, ↓M_isNumber_n, ↓M_in_y, ↓M_in_n, ↓us_ne, ↓e1, sx1, ↓e2, ↓e3, ↓e4, ↓e5]
      · have l1 := M_leftSize_eq (n := n) h0
        have l2 := M_rightSize_eq (n := n) (by have := p2_le (d + 1) (by omega); unfold p2 at this; omega)
        rw [← hq] at l1
        rw [← hr] at l2
        unfold M_writesPart
        simp (disch := omega) only [↓jn_e, ↓ite_y, ↓ite_n, ↓oadd_eq, ↓osub_eq, ↓omul_eq, ↓odiv_eq, ↓orem_eq, ↓rd_eq, ↓wr_eq, ↓gf_e, ↓pf_e, ↓bnd_e, ↓bndp_e, ↓opure_e, ↓oif_t, ↓oif_f, ↓E_isPlace_y, ↓E_isPlace_n, ↓E_isNumber_y, ↓E_isNumber_n, ↓M_isPlace_y, ↓M_isPlace_n, ↓M_isNumber_y, ↓M_isNumber_n, ↓M_in_y, ↓M_in_n, ↓us_ne, ↓m1, ↓nM, ↓m2, ↓l1, ↓l2, ↓m3, ↓m4, ↓m5]
theorem call_written : HS_42 SS := by
  intro k σ τ z0 z1 hk hR hR9 hS i0 i1
  have hS0 := hS
  obtain ⟨⟨ρ, hW⟩, hT, hr, hn, hm⟩ := hS
  unfold E_written M_written
  by_cases a : 0 ≤ z0 ∧ z0 < 6
  · have hP := hW.2.2 z0 a.1 a.2
    have s0 := hP.2.1
    have n0 := hP.1
    by_cases b : z1 < -1
    · refine ⟨-1, σ, us τ 33 0 0, ?_, ?_, hS0.thr⟩
      · simp (disch := omega) only [↓jn_e, ↓ite_y, ↓ite_n, ↓oadd_eq, ↓osub_eq, ↓omul_eq, ↓odiv_eq, ↓orem_eq, ↓rd_eq, ↓wr_eq, ↓gf_e, ↓pf_e, ↓bnd_e, ↓bndp_e, ↓opure_e, ↓oif_t, ↓oif_f, ↓E_isPlace_y, ↓E_isPlace_n, ↓E_isNumber_y, ↓E_isNumber_n, ↓M_isPlace_y, ↓M_isPlace_n, ↓M_isNumber_y, ↓M_isNumber_n, ↓M_in_y, ↓M_in_n, ↓us_ne]
      · simp (disch := omega) only [↓jn_e, ↓ite_y, ↓ite_n, ↓oadd_eq, ↓osub_eq, ↓omul_eq, ↓odiv_eq, ↓orem_eq, ↓rd_eq, ↓wr_eq, ↓gf_e, ↓pf_e, ↓bnd_e, ↓bndp_e, ↓opure_e, ↓oif_t, ↓oif_f, ↓E_isPlace_y, ↓E_isPlace_n, ↓E_isNumber_y, ↓E_isNumber_n, ↓M_isPlace_y, ↓M_isPlace_n, ↓M_isNumber_y, ↓M_isNumber_n, ↓M_in_y, ↓M_in_n, ↓us_ne]
    · obtain ⟨sa, e1, f1, c1⟩ := read_one_eq σ (σ 24 z0) (σ 25 z0) n0
      obtain ⟨sb, hsb⟩ : ∃ sb, sb = us (us (us sa 41 0 z1) 42 0 (-1)) 43 0 0 := ⟨_, rfl⟩
      have eb : Writer_begin sa z1 = some (0, sb) := by rw [hsb]; rfl
      have fb : Fr [41, 42, 43] sa sb := by rw [hsb]; exact (((Fr.rf _ _).us (by decide)).us (by decide)).us (by decide)
      obtain ⟨τb, hτb⟩ : ∃ τb, τb = us (us (us (us τ 33 0 0) 43 0 0) 44 0 z1) 45 0 (-1) := ⟨_, rfl⟩
      have gb : Fr [33, 43, 44, 45] τ τb := by rw [hτb]; exact (((fr_sc _ τ 33 0 (by decide)).us (by decide)).us (by decide)).us (by decide)
      have hw : WR sb τb := by
        rw [hsb, hτb]
        refine ⟨?_, ?_, ?_⟩
        · rw [us_eq, us_ne (by decide), us_ne (by decide), us_eq]
        · rw [us_ne (by decide), us_ne (by decide), us_eq, us_ne (by decide), us_eq]
        · rw [us_ne (by decide), us_eq, us_eq]
      have s43 : sb 43 0 = 0 := by rw [hsb, us_eq]
      have q25 : sb 25 z0 = σ 25 z0 := by rw [fb 25 (by decide), f1 25 (by decide)]
      have t3 : τb 3 z0 = σ 25 z0 := by rw [gb 3 (by decide)]; exact s0
      have e0 : p2 0 = 1 := rfl
      obtain ⟨s2, t2, x1, x2, x3, x4, x5, -, -⟩ := tree_ex a n0 (fun z => τ 1 (256 * z0 + z)) (fun x p q => (hP.num ⟨p, q⟩).2) 8 0 12 sb τb 0 (σ 25 z0) (by omega) (by omega) (by rw [p2_8]; omega) n0.1 (by omega) (fun _ => by rw [e0, Int.one_mul]; omega) (by rw [e0, Int.one_mul]; omega) (by omega) (fun x p q => by rw [fb 26 (by decide), c1 x p q]; exact (hP.num ⟨p, q⟩).1) (fun x p q => by rw [gb 1 (by decide)]) hw (by omega)
      rw [e0] at x1 x2
      have fE : Fr SE σ s2 := (f1.mono (by decide)).tr ((fb.mono (by decide)).tr (x4.mono (by decide)))
      have fM : Fr [33, 43, 44, 45] τ t2 := gb.tr (x5.mono (by decide))
      have hS2 := hS0.asq fE (fM.mono (by decide)) (Rws.fr fM (by decide) (by decide) (by decide) _)
      by_cases q : z1 = -1
      · refine ⟨s2 43 0, s2, t2, ?_, ?_, hS2⟩
        · rw [E_isPlace_y a, bndp_eq, if_neg (by decide), if_neg b, rd_eq (by omega), rd_eq (by omega), e1, bnd_eq, eb, bnd_eq, rd_eq (by omega), q25, RD_eq, x1, bnd_eq, if_pos q, gf_eq]
        · rw [pf_eq, M_isPlace_y a, bndp_eq, if_neg (by decide), if_neg b, pf_eq, pf_eq, pf_eq, ← hτb, rd_eq (by omega), t3, RD_eq, x2, bnd_eq, if_pos q, gf_eq, x3.1]
      · refine ⟨s2 42 0, s2, t2, ?_, ?_, hS2⟩
        · rw [E_isPlace_y a, bndp_eq, if_neg (by decide), if_neg b, rd_eq (by omega), rd_eq (by omega), e1, bnd_eq, eb, bnd_eq, rd_eq (by omega), q25, RD_eq, x1, bnd_eq, if_neg q, gf_eq]
        · rw [pf_eq, M_isPlace_y a, bndp_eq, if_neg (by decide), if_neg b, pf_eq, pf_eq, pf_eq, ← hτb, rd_eq (by omega), t3, RD_eq, x2, bnd_eq, if_neg q, gf_eq, x3.2.2]
  · refine ⟨-1, σ, us τ 33 0 0, ?_, ?_, hS0.thr⟩
    · simp (disch := omega) only [↓jn_e, ↓ite_y, ↓ite_n, ↓oadd_eq, ↓osub_eq, ↓omul_eq, ↓odiv_eq, ↓orem_eq, ↓rd_eq, ↓wr_eq, ↓gf_e, ↓pf_e, ↓bnd_e, ↓bndp_e, ↓opure_e, ↓oif_t, ↓oif_f, ↓E_isPlace_y, ↓E_isPlace_n, ↓E_isNumber_y, ↓E_isNumber_n, ↓M_isPlace_y, ↓M_isPlace_n, ↓M_isNumber_y, ↓M_isNumber_n, ↓M_in_y, ↓M_in_n, ↓us_ne]
    · simp (disch := omega) only [↓jn_e, ↓ite_y, ↓ite_n, ↓oadd_eq, ↓osub_eq, ↓omul_eq, ↓odiv_eq, ↓orem_eq, ↓rd_eq, ↓wr_eq, ↓gf_e, ↓pf_e, ↓bnd_e, ↓bndp_e, ↓opure_e, ↓oif_t, ↓oif_f, ↓E_isPlace_y, ↓E_isPlace_n, ↓E_isNumber_y, ↓E_isNumber_n, ↓M_isPlace_y, ↓M_isPlace_n, ↓M_isNumber_y, ↓M_isNumber_n, ↓M_in_y, ↓M_in_n, ↓us_ne]

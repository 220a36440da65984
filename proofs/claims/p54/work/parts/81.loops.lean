-- P54, 10: the law's copies
theorem L129_q {μ : St} {n a : Int} (ha : 0 ≤ a ∧ a < 6) (hn : n ≤ 63) (s : St) : ∀ (r f : Nat) (m : St) (x : Int), x + r = n → 0 ≤ x → r < f → Fr [48] μ m → (∀ y, 0 ≤ y → y < x → m 48 y = μ (51 + a.toNat) y) →
    ∃ m', (∀ k, L_mid_L129 k n a f s m x = k s m') ∧ Fr [48] μ m' ∧ ∀ y, 0 ≤ y → y < n → m' 48 y = μ (51 + a.toNat) y := by
  intro r
  induction r with
  | zero =>
    intro f m x hx x0 hf hm hb
    obtain ⟨f, rfl⟩ : ∃ f', f = f' + 1 := ⟨f - 1, by omega⟩
    refine ⟨m, fun k => ?_, hm, fun y y0 yn => hb y y0 (by omega)⟩
    unfold L_mid_L129
    exact if_neg (by omega)
  | succ r ih =>
    intro f m x hx x0 hf hm hb
    obtain ⟨f, rfl⟩ : ∃ f', f = f' + 1 := ⟨f - 1, by omega⟩
    obtain ⟨m', e, h1, h2⟩ := ih f (us m 48 x (μ (51 + a.toNat) x)) (x + 1) (by omega) (by omega) (by omega) (hm.us (by decide)) (b_up (G := fun y => μ (51 + a.toNat) y) hb)
    refine ⟨m', fun k => ?_, h1, h2⟩
    unfold L_mid_L129
    rw [if_pos (by omega), rdA_eq ⟨ha, by omega, by omega⟩, hm _ (n48 a), wr_eq (by omega), oadd_eq (by omega)]
    exact e k
theorem L378_q {μ : St} {n a : Int} (ha : 0 ≤ a ∧ a < 6) (hn : n ≤ 62) (s : St) : ∀ (r f : Nat) (m : St) (x : Int), x + r = n → 0 ≤ x → r < f → Fr [48] μ m → (∀ y, 0 ≤ y → y < x → m 48 y = μ (51 + a.toNat) (y + 1)) →
    ∃ m', (∀ k, L_mid_L378 k n a f s m x = k s m') ∧ Fr [48] μ m' ∧ ∀ y, 0 ≤ y → y < n → m' 48 y = μ (51 + a.toNat) (y + 1) := by
  intro r
  induction r with
  | zero =>
    intro f m x hx x0 hf hm hb
    obtain ⟨f, rfl⟩ : ∃ f', f = f' + 1 := ⟨f - 1, by omega⟩
    refine ⟨m, fun k => ?_, hm, fun y y0 yn => hb y y0 (by omega)⟩
    unfold L_mid_L378
    exact if_neg (by omega)
  | succ r ih =>
    intro f m x hx x0 hf hm hb
    obtain ⟨f, rfl⟩ : ∃ f', f = f' + 1 := ⟨f - 1, by omega⟩
    obtain ⟨m', e, h1, h2⟩ := ih f (us m 48 x (μ (51 + a.toNat) (x + 1))) (x + 1) (by omega) (by omega) (by omega) (hm.us (by decide)) (b_up (G := fun y => μ (51 + a.toNat) (y + 1)) hb)
    refine ⟨m', fun k => ?_, h1, h2⟩
    unfold L_mid_L378
    rw [if_pos (by omega), oadd_eq (by omega), rdA_eq ⟨ha, by omega, by omega⟩, hm _ (n48 a), wr_eq (by omega), oadd_eq (by omega)]
    exact e k
theorem L662_q {μ : St} {n u a : Int} (ha : 0 ≤ a ∧ a < 6) (hn : 0 ≤ u ∧ n + u ≤ 63) (s : St) : ∀ (r f : Nat) (m : St) (x : Int), x + r = n → 0 ≤ x → r < f → Fr [48] μ m → (∀ y, 0 ≤ y → y < x → m 48 y = μ (51 + a.toNat) (y + u)) →
    ∃ m', (∀ k, L_mid_L662 k n u a f s m x = k s m') ∧ Fr [48] μ m' ∧ ∀ y, 0 ≤ y → y < n → m' 48 y = μ (51 + a.toNat) (y + u) := by
  intro r
  induction r with
  | zero =>
    intro f m x hx x0 hf hm hb
    obtain ⟨f, rfl⟩ : ∃ f', f = f' + 1 := ⟨f - 1, by omega⟩
    refine ⟨m, fun k => ?_, hm, fun y y0 yn => hb y y0 (by omega)⟩
    unfold L_mid_L662
    exact if_neg (by omega)
  | succ r ih =>
    intro f m x hx x0 hf hm hb
    obtain ⟨f, rfl⟩ : ∃ f', f = f' + 1 := ⟨f - 1, by omega⟩
    obtain ⟨m', e, h1, h2⟩ := ih f (us m 48 x (μ (51 + a.toNat) (x + u))) (x + 1) (by omega) (by omega) (by omega) (hm.us (by decide)) (b_up (G := fun y => μ (51 + a.toNat) (y + u)) hb)
    refine ⟨m', fun k => ?_, h1, h2⟩
    unfold L_mid_L662
    rw [if_pos (by omega), oadd_eq (by omega), rdA_eq ⟨ha, by omega, by omega⟩, hm _ (n48 a), wr_eq (by omega), oadd_eq (by omega)]
    exact e k
theorem L789_q {μ : St} {v n : Int} (hn : n ≤ 63) (s : St) : ∀ (r f : Nat) (m : St) (x : Int), x + r = n → 0 ≤ x → r < f → Fr [48] μ m → (∀ y, 0 ≤ y → y < x → m 48 y = v) →
    ∃ m', (∀ k, L_mid_L789 k v n f s m x = k s m') ∧ Fr [48] μ m' ∧ ∀ y, 0 ≤ y → y < n → m' 48 y = v := by
  intro r
  induction r with
  | zero =>
    intro f m x hx x0 hf hm hb
    obtain ⟨f, rfl⟩ : ∃ f', f = f' + 1 := ⟨f - 1, by omega⟩
    refine ⟨m, fun k => ?_, hm, fun y y0 yn => hb y y0 (by omega)⟩
    unfold L_mid_L789
    exact if_neg (by omega)
  | succ r ih =>
    intro f m x hx x0 hf hm hb
    obtain ⟨f, rfl⟩ : ∃ f', f = f' + 1 := ⟨f - 1, by omega⟩
    obtain ⟨m', e, h1, h2⟩ := ih f (us m 48 x (v)) (x + 1) (by omega) (by omega) (by omega) (hm.us (by decide)) (b_up (G := fun y => v) hb)
    refine ⟨m', fun k => ?_, h1, h2⟩
    unfold L_mid_L789
    rw [if_pos (by omega), wr_eq (by omega), oadd_eq (by omega)]
    exact e k
theorem L1010_q {μ : St} {n u a : Int} (ha : 0 ≤ a ∧ a < 6) (hn : n ≤ 63) (hu : 0 ≤ u ∧ u ≤ 31) (s : St) : ∀ (r f : Nat) (m : St) (x : Int), x + r = n → 0 ≤ x → r < f → Fr [48] μ m → (∀ y, 0 ≤ y → y < x → m 48 y = μ (51 + a.toNat) ((y + u) % n)) →
    ∃ m', (∀ k, L_mid_L1010 k n u a f s m x = k s m') ∧ Fr [48] μ m' ∧ ∀ y, 0 ≤ y → y < n → m' 48 y = μ (51 + a.toNat) ((y + u) % n) := by
  intro r
  induction r with
  | zero =>
    intro f m x hx x0 hf hm hb
    obtain ⟨f, rfl⟩ : ∃ f', f = f' + 1 := ⟨f - 1, by omega⟩
    refine ⟨m, fun k => ?_, hm, fun y y0 yn => hb y y0 (by omega)⟩
    unfold L_mid_L1010
    exact if_neg (by omega)
  | succ r ih =>
    intro f m x hx x0 hf hm hb
    obtain ⟨f, rfl⟩ : ∃ f', f = f' + 1 := ⟨f - 1, by omega⟩
    have q0 := Int.emod_nonneg (x + u) (b := n) (by omega)
    have q1 := Int.emod_lt_of_pos (x + u) (b := n) (by omega)
    obtain ⟨m', e, h1, h2⟩ := ih f (us m 48 x (μ (51 + a.toNat) ((x + u) % n))) (x + 1) (by omega) (by omega) (by omega) (hm.us (by decide)) (b_up (G := fun y => μ (51 + a.toNat) ((y + u) % n)) hb)
    refine ⟨m', fun k => ?_, h1, h2⟩
    unfold L_mid_L1010
    rw [if_pos (by omega), oadd_eq (by omega), orem_eq (by omega), rdA_eq ⟨ha, by omega, by omega⟩, hm _ (n48 a), wr_eq (by omega), oadd_eq (by omega)]
    exact e k
theorem L1113_q {μ : St} {v n a : Int} (ha : 0 ≤ a ∧ a < 6) (hn : n ≤ 31) (s : St) : ∀ (r f : Nat) (m : St) (x : Int), x + r = n → 0 ≤ x → r < f → Fr [48] μ m → (∀ y, 0 ≤ y → y < x → m 48 y = μ (51 + a.toNat) (1 + band v 1 + 2 * y)) →
    ∃ m', (∀ k, L_mid_L1113 k v n a f s m x = k s m') ∧ Fr [48] μ m' ∧ ∀ y, 0 ≤ y → y < n → m' 48 y = μ (51 + a.toNat) (1 + band v 1 + 2 * y) := by
  intro r
  induction r with
  | zero =>
    intro f m x hx x0 hf hm hb
    obtain ⟨f, rfl⟩ : ∃ f', f = f' + 1 := ⟨f - 1, by omega⟩
    refine ⟨m, fun k => ?_, hm, fun y y0 yn => hb y y0 (by omega)⟩
    unfold L_mid_L1113
    exact if_neg (by omega)
  | succ r ih =>
    intro f m x hx x0 hf hm hb
    obtain ⟨f, rfl⟩ : ∃ f', f = f' + 1 := ⟨f - 1, by omega⟩
    have q0 := band1 v
    obtain ⟨m', e, h1, h2⟩ := ih f (us m 48 x (μ (51 + a.toNat) (1 + band v 1 + 2 * x))) (x + 1) (by omega) (by omega) (by omega) (hm.us (by decide)) (b_up (G := fun y => μ (51 + a.toNat) (1 + band v 1 + 2 * y)) hb)
    refine ⟨m', fun k => ?_, h1, h2⟩
    unfold L_mid_L1113
    rw [if_pos (by omega), opure_eq, oadd_eq (by omega), omul_eq (by omega), oadd_eq (by omega), rdA_eq ⟨ha, by omega, by omega⟩, hm _ (n48 a), wr_eq (by omega), oadd_eq (by omega)]
    exact e k
theorem L262_q {μ : St} {a n : Int} (ha : 0 ≤ a ∧ a < 6) (hn : n ≤ 63) (s : St) : ∀ (r f : Nat) (m : St) (x : Int), x = r → x ≤ n → r < f → Fr [48] μ m → (∀ y, x < y → y ≤ n → m 48 y = μ (51 + a.toNat) (y - 1)) →
    ∃ m', (∀ k, L_mid_L262 k a f s m x = k s m') ∧ Fr [48] μ m' ∧ ∀ y, 0 < y → y ≤ n → m' 48 y = μ (51 + a.toNat) (y - 1) := by
  intro r
  induction r with
  | zero =>
    intro f m x hx x0 hf hm hb
    obtain ⟨f, rfl⟩ : ∃ f', f = f' + 1 := ⟨f - 1, by omega⟩
    refine ⟨m, fun k => ?_, hm, fun y y0 yn => hb y (by omega) (by omega)⟩
    unfold L_mid_L262
    exact if_neg (by omega)
  | succ r ih =>
    intro f m x hx x0 hf hm hb
    obtain ⟨f, rfl⟩ : ∃ f', f = f' + 1 := ⟨f - 1, by omega⟩
    obtain ⟨m', e, h1, h2⟩ := ih f (us m 48 x (μ (51 + a.toNat) (x - 1))) (x + (-1)) (by omega) (by omega) (by omega) (hm.us (by decide)) (fun y y0 yn => by
      by_cases e : y = x
      · subst e
        exact us_eq _ _ _ _
      · rw [us_ni e]
        exact hb y (by omega) yn)
    refine ⟨m', fun k => ?_, h1, h2⟩
    unfold L_mid_L262
    rw [if_pos (by omega), osub_eq (by omega), rdA_eq ⟨ha, by omega, by omega⟩, hm _ (n48 a), wr_eq (by omega), oadd_eq (by omega)]
    exact e k
theorem held_e (v : Int) : Lw_held v = some (hd9 v) := by
  unfold Lw_held hd9
  split
  · rfl
  · split
    · rfl
    · rfl
theorem L565_q {μ : St} {v n : Int} {g : Int → Int} (hv : -999 ≤ v ∧ v ≤ 999) (hn : n ≤ 63) (hg : ∀ y, 0 ≤ y → y < n → -999 ≤ g y ∧ g y ≤ 999) (s : St) : ∀ (r f : Nat) (m : St) (x : Int), x + r = n → 0 ≤ x → r < f → Fr [48] μ m → (∀ y, x ≤ y → y < n → m 48 y = g y) →
    ∃ m', (∀ k, L_mid_L565 k v n f s m x = k s m') ∧ Fr [48] μ m' ∧ ∀ y, 0 ≤ y → y < n → m' 48 y = if y < x then m 48 y else hd9 (g y + v) := by
  intro r
  induction r with
  | zero =>
    intro f m x hx x0 hf hm hb
    obtain ⟨f, rfl⟩ : ∃ f', f = f' + 1 := ⟨f - 1, by omega⟩
    refine ⟨m, fun k => ?_, hm, fun y y0 yn => by rw [if_pos (by omega)]⟩
    unfold L_mid_L565
    exact if_neg (by omega)
  | succ r ih =>
    intro f m x hx x0 hf hm hb
    obtain ⟨f, rfl⟩ : ∃ f', f = f' + 1 := ⟨f - 1, by omega⟩
    have gx := hg x x0 (by omega)
    have bx := hb x (by omega) (by omega)
    obtain ⟨m', e, h1, h2⟩ := ih f (us m 48 x (hd9 (g x + v))) (x + 1) (by omega) (by omega) (by omega) (hm.us (by decide)) (fun y y0 yn => by rw [us_ni (by omega)]; exact hb y (by omega) yn)
    refine ⟨m', fun k => ?_, h1, fun y y0 yn => ?_⟩
    · unfold L_mid_L565
      rw [if_pos (by omega), rd_eq (by omega), bx, oadd_eq (by omega), held_e, bndp_eq, wr_eq (by omega), oadd_eq (by omega)]
      exact e k
    · rw [h2 y y0 yn]
      by_cases c : y < x
      · rw [if_pos (by omega), if_pos c, us_ni (by omega)]
      · by_cases c2 : y = x
        · subst c2
          rw [if_pos (by omega), if_neg c, us_eq]
        · rw [if_neg (by omega), if_neg c]
theorem L721_q {μ : St} {j n q : Int} (hj : 0 ≤ j ∧ j < 6) (hq : μ 47 j = q) (hn : 0 ≤ n ∧ n + q ≤ 63) (s : St) : ∀ (r f : Nat) (m : St) (x : Int), x + r = q → 0 ≤ x → r < f → Fr [48] μ m →
    ∃ m', (∀ k, L_mid_L721 k j n f s m x = k s m') ∧ Fr [48] μ m' ∧ ∀ y, 0 ≤ y → y < n + q → m' 48 y = if y < n + x then m 48 y else μ (51 + j.toNat) (y - n) := by
  intro r
  induction r with
  | zero =>
    intro f m x hx x0 hf hm
    obtain ⟨f, rfl⟩ : ∃ f', f = f' + 1 := ⟨f - 1, by omega⟩
    refine ⟨m, fun k => ?_, hm, fun y y0 yn => by rw [if_pos (by omega)]⟩
    unfold L_mid_L721
    rw [rd_eq hj, hm 47 (by decide), hq]
    exact if_neg (by omega)
  | succ r ih =>
    intro f m x hx x0 hf hm
    obtain ⟨f, rfl⟩ : ∃ f', f = f' + 1 := ⟨f - 1, by omega⟩
    obtain ⟨m', e, h1, h2⟩ := ih f (us m 48 (n + x) (μ (51 + j.toNat) x)) (x + 1) (by omega) (by omega) (by omega) (hm.us (by decide))
    refine ⟨m', fun k => ?_, h1, fun y y0 yn => ?_⟩
    · unfold L_mid_L721
      rw [rd_eq hj, hm 47 (by decide), hq, if_pos (by omega), oadd_eq (by omega), chk6_eq hj, rdA_eq ⟨hj, by omega, by omega⟩, hm _ (n48 j), wr_eq (by omega), oadd_eq (by omega)]
      exact e k
    · rw [h2 y y0 yn]
      by_cases c : y < n + x
      · rw [if_pos (by omega), if_pos c, us_ni (by omega)]
      · by_cases c2 : y = n + x
        · subst c2
          rw [if_pos (by omega), if_neg c, us_eq, show n + x - n = x by omega]
        · rw [if_neg (by omega), if_neg c]
/-- the heap's row is copied out; the like numbers' least -/
theorem L842_q {k0 : Nat} {s τ μ : St} {l n a : Int} (hS : SS k0 s τ) (hl : 0 ≤ l ∧ l < 6) (h3 : τ 3 l = n) (ha : 0 ≤ a ∧ a < 6) (hn : n ≤ 63) : ∀ (r f : Nat) (m : St) (u x : Int), x + r = n → 0 ≤ x → r < f → Fr [48] μ m → (∀ y, 0 ≤ y → y < x → m 48 y = τ 1 (256 * l + y)) → u = mnl (fun y => μ (51 + a.toNat) y) x.toNat →
    ∃ m', (∀ k, L_mid_L842 k l n a f s m u x = k s m' (mnl (fun y => μ (51 + a.toNat) y) n.toNat)) ∧ Fr [48] μ m' ∧ ∀ y, 0 ≤ y → y < n → m' 48 y = τ 1 (256 * l + y) := by
  intro r
  induction r with
  | zero =>
    intro f m u x hx x0 hf hm hb hu
    obtain ⟨f, rfl⟩ : ∃ f', f = f' + 1 := ⟨f - 1, by omega⟩
    have xn : x = n := by omega
    subst xn
    refine ⟨m, fun k => ?_, hm, hb⟩
    unfold L_mid_L842
    rw [if_neg (by omega), hu]
  | succ r ih =>
    intro f m u x hx x0 hf hm hb hu
    obtain ⟨f, rfl⟩ : ∃ f', f = f' + 1 := ⟨f - 1, by omega⟩
    have hu2 : imin u (μ (51 + a.toNat) x) = mnl (fun y => μ (51 + a.toNat) y) (x + 1).toNat := by
      rw [show (x + 1).toNat = x.toNat + 1 by omega]
      show _ = imin (mnl (fun y => μ (51 + a.toNat) y) x.toNat) (μ (51 + a.toNat) (x.toNat : Int))
      rw [hu, show ((x.toNat : Nat) : Int) = x by omega]
    obtain ⟨m', e, h1, h2⟩ := ih f (us m 48 x (τ 1 (256 * l + x))) (imin u (μ (51 + a.toNat) x)) (x + 1) (by omega) (by omega) (by omega) (hm.us (by decide)) (b_up (G := fun y => τ 1 (256 * l + y)) hb) hu2
    refine ⟨m', fun k => ?_, h1, h2⟩
    unfold L_mid_L842
    rw [if_pos (by omega), get_q hS hl (by omega), bndp_eq, wr_eq (by omega), rdA_eq ⟨ha, by omega, by omega⟩, us_ne (by omega), hm _ (n48 a), opure_eq, oadd_eq (by omega)]
    exact e k
theorem L938_q {s m : St} {g h : Int → Int} {n a : Int} (ha : 0 ≤ a ∧ a < 6) (hn : n ≤ 63) (hg : ∀ y, 0 ≤ y → y < n → m (51 + a.toNat) y = g y ∧ -999 ≤ g y ∧ g y ≤ 999) (hh : ∀ y, 0 ≤ y → y < n → m 48 y = h y ∧ -999 ≤ h y ∧ h y ≤ 999) : ∀ (r f : Nat) (u x : Int), x + r = n → 0 ≤ x → r < f → u = sm g x.toNat - sm h x.toNat →
    ∀ k, L_mid_L938 k s m n a f u x = k (sm g n.toNat - sm h n.toNat) := by
  intro r
  induction r with
  | zero =>
    intro f u x hx x0 hf hu k
    obtain ⟨f, rfl⟩ : ∃ f', f = f' + 1 := ⟨f - 1, by omega⟩
    have xn : x = n := by omega
    subst xn
    unfold L_mid_L938
    rw [if_neg (by omega), hu]
  | succ r ih =>
    intro f u x hx x0 hf hu k
    obtain ⟨f, rfl⟩ : ∃ f', f = f' + 1 := ⟨f - 1, by omega⟩
    have gx := hg x x0 (by omega)
    have hx' := hh x x0 (by omega)
    have b1 := sm_bd (f := g) (b := 999) x.toNat (fun y y0 yn => (hg y y0 (by omega)).2)
    have b2 := sm_bd (f := h) (b := 999) x.toNat (fun y y0 yn => (hh y y0 (by omega)).2)
    have e := ih f (u + (g x - h x)) (x + 1) (by omega) (by omega) (by omega) (by rw [sm_step _ x0, sm_step _ x0]; omega) k
    unfold L_mid_L938
    rw [if_pos (by omega), rdA_eq ⟨ha, by omega, by omega⟩, gx.1, rd_eq (by omega), hx'.1, osub_eq (by omega), oadd_eq (by omega), oadd_eq (by omega)]
    exact e
theorem L1204_q {s m : St} {g : Int → Int} {w n a : Int} (ha : 0 ≤ a ∧ a < 6) (hn : n ≤ 63) (hw : -999 ≤ w ∧ w ≤ 999) (hg : ∀ y, 0 ≤ y → y < n → m (51 + a.toNat) y = g y ∧ -999 ≤ g y ∧ g y ≤ 999) : ∀ (r f : Nat) (u x : Int), x + r = n → 0 ≤ x → r < f → u = w + sm g x.toNat →
    ∀ k, L_mid_L1204 k s m n a f u x = k (w + sm g n.toNat) := by
  intro r
  induction r with
  | zero =>
    intro f u x hx x0 hf hu k
    obtain ⟨f, rfl⟩ : ∃ f', f = f' + 1 := ⟨f - 1, by omega⟩
    have xn : x = n := by omega
    subst xn
    unfold L_mid_L1204
    rw [if_neg (by omega), hu]
  | succ r ih =>
    intro f u x hx x0 hf hu k
    obtain ⟨f, rfl⟩ : ∃ f', f = f' + 1 := ⟨f - 1, by omega⟩
    have gx := hg x x0 (by omega)
    have b1 := sm_bd (f := g) (b := 999) x.toNat (fun y y0 yn => (hg y y0 (by omega)).2)
    have e := ih f (u + g x) (x + 1) (by omega) (by omega) (by omega) (by rw [sm_step _ x0]; omega) k
    unfold L_mid_L1204
    rw [if_pos (by omega), rdA_eq ⟨ha, by omega, by omega⟩, gx.1, oadd_eq (by omega), oadd_eq (by omega)]
    exact e
theorem L1230_q {k0 : Nat} {s τ μ : St} {l n w : Int} (hS : SS k0 s τ) (hl : 0 ≤ l ∧ l < 6) (h3 : τ 3 l = n) (hn : n ≤ 63) (hw : -64000 ≤ w ∧ w ≤ 64000) (hg : ∀ y, 0 ≤ y → y < n → -999 ≤ τ 1 (256 * l + y) ∧ τ 1 (256 * l + y) ≤ 999) : ∀ (r f : Nat) (m : St) (u x : Int), x + r = n → 0 ≤ x → r < f → Fr [48] μ m → (∀ y, 0 ≤ y → y < x → m 48 y = τ 1 (256 * l + y)) → u = w - sm (fun y => τ 1 (256 * l + y)) x.toNat →
    ∃ m', (∀ k, L_mid_L1230 k l n f s m u x = k s m' (w - sm (fun y => τ 1 (256 * l + y)) n.toNat)) ∧ Fr [48] μ m' ∧ ∀ y, 0 ≤ y → y < n → m' 48 y = τ 1 (256 * l + y) := by
  intro r
  induction r with
  | zero =>
    intro f m u x hx x0 hf hm hb hu
    obtain ⟨f, rfl⟩ : ∃ f', f = f' + 1 := ⟨f - 1, by omega⟩
    have xn : x = n := by omega
    subst xn
    refine ⟨m, fun k => ?_, hm, hb⟩
    unfold L_mid_L1230
    rw [if_neg (by omega), hu]
  | succ r ih =>
    intro f m u x hx x0 hf hm hb hu
    obtain ⟨f, rfl⟩ : ∃ f', f = f' + 1 := ⟨f - 1, by omega⟩
    have gx := hg x x0 (by omega)
    have b1 := sm_bd (f := fun y => τ 1 (256 * l + y)) (b := 999) x.toNat (fun y y0 yn => hg y y0 (by omega))
    obtain ⟨m', e, h1, h2⟩ := ih f (us m 48 x (τ 1 (256 * l + x))) (u - τ 1 (256 * l + x)) (x + 1) (by omega) (by omega) (by omega) (hm.us (by decide)) (b_up (G := fun y => τ 1 (256 * l + y)) hb) (by rw [sm_step _ x0]; omega)
    refine ⟨m', fun k => ?_, h1, h2⟩
    unfold L_mid_L1230
    rw [if_pos (by omega), get_q hS hl (by omega), bndp_eq, wr_eq (by omega), rd_eq (by omega), us_eq, osub_eq (by omega), oadd_eq (by omega)]
    exact e k

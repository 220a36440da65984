-- MATH 19: ways from the root; marks on both sides
def ats (i : Int) : Nat → Int
  | 0 => 0
  | j + 1 => ats i j + (if hd j i % 2 = 0 then 2 * p2 j else p2 j)
def bts (i : Int) : Nat → Int
  | 0 => 0
  | j + 1 => 2 * bts i j + (if hd j i % 2 = 0 then 1 else 0)
theorem ats_f : ∀ i : Fin 255, ∀ q : Fin 8, q.val ≤ dp (i.val : Int) → (0 ≤ ats (i.val : Int) q.val ∧ ats (i.val : Int) q.val ≤ (i.val : Int) ∧ 0 ≤ bts (i.val : Int) q.val ∧ bts (i.val : Int) q.val ≤ 255 ∧ p2 q.val ≤ 128) := by decide +kernel
theorem ats_g : ∀ i : Fin 255, ∀ q : Fin 8, q.val < dp (i.val : Int) → (ats (i.val : Int) q.val < ats (i.val : Int) (q.val + 1) ∧ up (ats (i.val : Int) (q.val + 1)) = ats (i.val : Int) q.val) := by decide +kernel
theorem ats_d : ∀ i : Fin 255, ats (i.val : Int) (dp (i.val : Int)) = (i.val : Int) ∧ dp (i.val : Int) ≤ 7 := by decide +kernel
theorem ats_h : ∀ i : Fin 254, dp ((i.val : Int) + 1) = dp ((i.val : Int) / 2) + 1 ∧ ∀ q : Fin 8, q.val ≤ dp ((i.val : Int) / 2) → ats ((i.val : Int) + 1) (q.val + 1) = 2 * ats ((i.val : Int) / 2) q.val + (if (i.val : Int) % 2 = 0 then 1 else 2) := by decide +kernel
theorem fin_int {i : Int} {n : Nat} (h : 0 ≤ i ∧ i < n) : ∃ x : Fin n, (x.val : Int) = i := ⟨⟨i.toNat, by omega⟩, by simp; omega⟩
theorem dp_7 {i : Int} (h : 0 ≤ i ∧ i < 255) : dp i ≤ 7 := by
  obtain ⟨x, hx⟩ := fin_int (n := 255) h
  have := (ats_d x).2
  rw [hx] at this; exact this
theorem ats_dp {i : Int} (h : 0 ≤ i ∧ i < 255) : ats i (dp i) = i := by
  obtain ⟨x, hx⟩ := fin_int (n := 255) h
  have := (ats_d x).1
  rw [hx] at this; exact this
theorem ats_rng {i : Int} (h : 0 ≤ i ∧ i < 255) {q : Nat} (hq : q ≤ dp i) : 0 ≤ ats i q ∧ ats i q ≤ i ∧ 0 ≤ bts i q ∧ bts i q ≤ 255 ∧ p2 q ≤ 128 := by
  have h7 := dp_7 h
  obtain ⟨x, hx⟩ := fin_int (n := 255) h
  have := ats_f x ⟨q, by omega⟩ (by rw [hx]; exact hq)
  rw [hx] at this; exact this
theorem ats_up {i : Int} (h : 0 ≤ i ∧ i < 255) {q : Nat} (hq : q < dp i) : ats i q < ats i (q + 1) ∧ up (ats i (q + 1)) = ats i q := by
  have h7 := dp_7 h
  obtain ⟨x, hx⟩ := fin_int (n := 255) h
  have := ats_g x ⟨q, by omega⟩ (by rw [hx]; exact hq)
  rw [hx] at this; exact this
theorem ats_odd {a : Int} (h : 0 ≤ a ∧ a < 127) : dp (2 * a + 1) = dp a + 1 ∧ ∀ q, q ≤ dp a → ats (2 * a + 1) (q + 1) = 2 * ats a q + 1 := by
  have h7 := dp_7 (i := a) (by omega)
  obtain ⟨x, hx⟩ := fin_int (i := 2 * a) (n := 254) (by omega)
  have t := ats_h x
  rw [hx, show 2 * a / 2 = a by omega, show 2 * a % 2 = 0 by omega] at t
  refine ⟨t.1, fun q hq => ?_⟩
  have := t.2 ⟨q, by omega⟩ hq
  rw [if_pos rfl] at this
  exact this
theorem ats_even {a : Int} (h : 0 ≤ a ∧ a < 127) : dp (2 * a + 2) = dp a + 1 ∧ ∀ q, q ≤ dp a → ats (2 * a + 2) (q + 1) = 2 * ats a q + 2 := by
  have h7 := dp_7 (i := a) (by omega)
  by_cases ha : a = 126
  · subst ha
    obtain ⟨x, hx⟩ := fin_int (i := 2 * 126 + 1) (n := 254) (by omega)
    have t := ats_h x
    rw [hx, show (2 * 126 + 1 : Int) / 2 = 126 by omega, show (2 * 126 + 1 : Int) % 2 = 1 by omega, show (2 * 126 + 1 + 1 : Int) = 2 * 126 + 2 by omega] at t
    refine ⟨t.1, fun q hq => ?_⟩
    have := t.2 ⟨q, by omega⟩ hq
    rw [if_neg (by omega)] at this
    exact this
  · obtain ⟨x, hx⟩ := fin_int (i := 2 * a + 1) (n := 254) (by omega)
    have t := ats_h x
    rw [hx, show (2 * a + 1) / 2 = a by omega, show (2 * a + 1) % 2 = 1 by omega, show (2 * a + 1 + 1) = 2 * a + 2 by omega] at t
    refine ⟨t.1, fun q hq => ?_⟩
    have := t.2 ⟨q, by omega⟩ hq
    rw [if_neg (by omega)] at this
    exact this
/-- on the way from the root to an index, both ends too -/
def onW (i x : Int) : Prop := ∃ q, q ≤ dp i ∧ ats i q = x
theorem onW_self {i : Int} (h : 0 ≤ i ∧ i < 255) : onW i i := ⟨dp i, Nat.le_refl _, ats_dp h⟩
theorem onW_0 (i : Int) : onW i 0 := ⟨0, Nat.zero_le _, rfl⟩
theorem onW_rng {i x : Int} (h : 0 ≤ i ∧ i < 255) (hx : onW i x) : 0 ≤ x ∧ x ≤ i := by
  obtain ⟨q, hq, rfl⟩ := hx
  have := ats_rng h hq
  omega
theorem onW_up {i x : Int} (h : 0 ≤ i ∧ i < 255) (hx : onW i x) (x0 : 0 < x) : onW i (up x) := by
  obtain ⟨q, hq, rfl⟩ := hx
  cases q with
  | zero => exact absurd x0 (show ¬ (0 : Int) < 0 by omega)
  | succ q => exact ⟨q, by omega, (ats_up h (by omega)).2.symm⟩
theorem onW_z {x : Int} : onW 0 x ↔ x = 0 := by
  constructor
  · rintro ⟨q, hq, h⟩
    have : dp 0 = 0 := rfl
    have e : q = 0 := by omega
    rw [e] at h; exact h.symm
  · rintro rfl; exact onW_0 0
theorem onW_odd {a : Int} (h : 0 ≤ a ∧ a < 127) (x : Int) : onW (2 * a + 1) x ↔ (x = 0 ∨ ∃ j, x = 2 * j + 1 ∧ onW a j) := by
  have t := ats_odd h
  constructor
  · rintro ⟨q, hq, rfl⟩
    cases q with
    | zero => exact Or.inl rfl
    | succ q => exact Or.inr ⟨ats a q, t.2 q (by omega), q, by omega, rfl⟩
  · rintro (rfl | ⟨j, rfl, q, hq, rfl⟩)
    · exact onW_0 _
    · exact ⟨q + 1, by omega, t.2 q hq⟩
theorem onW_even {a : Int} (h : 0 ≤ a ∧ a < 127) (x : Int) : onW (2 * a + 2) x ↔ (x = 0 ∨ ∃ j, x = 2 * j + 2 ∧ onW a j) := by
  have t := ats_even h
  constructor
  · rintro ⟨q, hq, rfl⟩
    cases q with
    | zero => exact Or.inl rfl
    | succ q => exact Or.inr ⟨ats a q, t.2 q (by omega), q, by omega, rfl⟩
  · rintro (rfl | ⟨j, rfl, q, hq, rfl⟩)
    · exact onW_0 _
    · exact ⟨q + 1, by omega, t.2 q hq⟩
/-- how many of the first so many are not 0 -/
def cn (f : Int → Int) : Nat → Int
  | 0 => 0
  | m + 1 => cn f m + (if f m = 0 then 0 else 1)
theorem cn_rng (f : Int → Int) : ∀ m : Nat, 0 ≤ cn f m ∧ cn f m ≤ m := by
  intro m
  induction m with
  | zero => unfold cn; omega
  | succ m ih => unfold cn; split <;> omega
theorem cn_ext {f g : Int → Int} : ∀ m : Nat, (∀ x : Int, 0 ≤ x → x < m → (f x = 0 ↔ g x = 0)) → cn f m = cn g m := by
  intro m
  induction m with
  | zero => intro h; rfl
  | succ m ih =>
    intro h
    unfold cn
    rw [ih (fun x a b => h x a (by omega))]
    have := h m (by omega) (by omega)
    by_cases e : f m = 0
    · rw [if_pos e, if_pos (this.mp e)]
    · rw [if_neg e, if_neg (fun q => e (this.mpr q))]
theorem cn_set {f : Int → Int} {c : Int} (hc : f c = 0) : ∀ m : Nat, 0 ≤ c → c < m → cn (fun j => if j = c then 1 else f j) m = cn f m + 1 := by
  intro m
  induction m with
  | zero => intro h1 h2; exfalso; omega
  | succ m ih =>
    intro h1 h2
    unfold cn
    by_cases e : (m : Int) = c
    · have e1 : cn (fun j => if j = c then 1 else f j) m = cn f m := cn_ext m (fun x a b => by rw [if_neg (by omega)])
      rw [e1, if_pos e, if_neg (by decide), e, if_pos hc]; omega
    · rw [ih h1 (by omega), if_neg e]; omega
theorem cn_cut {f : Int → Int} {m : Nat} : ∀ e : Nat, (∀ x : Int, (m : Int) ≤ x → x < m + e → f x = 0) → cn f (m + e) = cn f m := by
  intro e
  induction e with
  | zero => intro h; rfl
  | succ e ih =>
    intro h
    have e0 : cn f (m + (e + 1)) = cn f (m + e) + (if f ((m + e : Nat) : Int) = 0 then 0 else 1) := rfl
    rw [e0, if_pos (h _ (by omega) (by omega)), ih (fun x a b => h x a (by omega))]; omega
def gq (i : Int) : Nat → Int → Int
  | 0, x => if x = 0 then 1 else 0
  | q + 1, x => if x = ats i (q + 1) then 1 else gq i q x
theorem gq_iff (i : Int) : ∀ (q : Nat) (x : Int), ¬ gq i q x = 0 ↔ ∃ p, p ≤ q ∧ ats i p = x := by
  intro q
  induction q with
  | zero =>
    intro x
    unfold gq
    constructor
    · intro h
      by_cases e : x = 0
      · exact ⟨0, Nat.le_refl 0, e.symm⟩
      · rw [if_neg e] at h; exact absurd rfl h
    · rintro ⟨p, hp, hx⟩
      have e : p = 0 := by omega
      rw [e] at hx
      have hx : (0 : Int) = x := hx
      rw [if_pos hx.symm]; decide
  | succ q ih =>
    intro x
    unfold gq
    by_cases e : x = ats i (q + 1)
    · rw [if_pos e]
      exact ⟨fun _ => ⟨q + 1, Nat.le_refl _, e.symm⟩, fun _ => by decide⟩
    · rw [if_neg e, ih]
      constructor
      · rintro ⟨p, hp, hx⟩; exact ⟨p, by omega, hx⟩
      · rintro ⟨p, hp, hx⟩
        have : p ≠ q + 1 := fun e2 => e (by rw [← hx, e2])
        exact ⟨p, by omega, hx⟩
theorem cn_gq {i : Int} (h : 0 ≤ i ∧ i < 255) : ∀ q, q ≤ dp i → cn (gq i q) 255 = (q : Int) + 1 := by
  intro q
  induction q with
  | zero =>
    intro _
    have e : gq i 0 = fun j => if j = 0 then 1 else (fun _ => (0 : Int)) j := by funext j; rfl
    rw [e, cn_set (f := fun _ => 0) rfl 255 (by omega) (by omega)]
    have : cn (fun _ => (0 : Int)) (0 + 255) = cn (fun _ => 0) 0 := cn_cut 255 (fun _ _ _ => rfl)
    rw [Nat.zero_add] at this
    rw [this]; rfl
  | succ q ih =>
    intro hq
    have e : gq i (q + 1) = fun j => if j = ats i (q + 1) then 1 else gq i q j := by funext j; rfl
    have r := ats_rng h hq
    have z : gq i q (ats i (q + 1)) = 0 := by
      rcases Int.lt_or_le (gq i q (ats i (q + 1))) 0 with w | w
      all_goals (
        apply Classical.byContradiction
        intro c
        obtain ⟨p, hp, hx⟩ := (gq_iff i q _).mp c
        have mono : ∀ d, p + d ≤ dp i → 0 < d → ats i p < ats i (p + d) := fun d => by
          induction d with
          | zero => intro _ h0; omega
          | succ d ihd =>
            intro h1 h2
            have a := (ats_up h (q := p + d) (by omega)).1
            by_cases hd0 : d = 0
            · subst hd0; exact a
            · exact Int.lt_trans (ihd (by omega) (by omega)) a
        have := mono (q + 1 - p) (by omega) (by omega)
        rw [show p + (q + 1 - p) = q + 1 by omega] at this
        omega)
    rw [e, cn_set z 255 (by omega) (by omega), ih (by omega)]
    omega
theorem cn_onW {i : Int} (h : 0 ≤ i ∧ i < 255) {f : Int → Int} (hf : ∀ x, 0 ≤ x → x < 255 → (¬ f x = 0 ↔ onW i x)) : cn f 255 = (dp i : Int) + 1 := by
  rw [← cn_gq h (dp i) (Nat.le_refl _)]
  refine cn_ext 255 (fun x a b => ?_)
  have h1 := hf x a (by omega)
  have h2 := gq_iff i (dp i) x
  exact Decidable.not_iff_not.mp (h1.trans h2.symm)
theorem p2_pos : ∀ q, 1 ≤ p2 q := fun q => by
  induction q with
  | zero => unfold p2; omega
  | succ q ih => unfold p2; omega
-- the reference's way
theorem laysWay_loop (K : St → Int → Option (Int × St)) {i : Int} (h : 0 ≤ i ∧ i < 255) (τ : St) : ∀ (t m q : Nat) (τ1 : St), q + t = dp i → t < m → Fr [6, 35, 36] τ τ1 → τ1 35 0 = q → τ1 36 0 = bts i q → (∀ p : Nat, p < q → τ1 6 p = ats i p) →
    ∃ τ2, M_laysWay_L17 K m τ1 (ats i q) (p2 q) (hd q i) = K τ2 i ∧ Fr [6, 35, 36] τ τ2 ∧ τ2 35 0 = dp i ∧ τ2 36 0 = bts i (dp i) ∧ (∀ p : Nat, p < dp i → τ2 6 p = ats i p) := by
  intro t
  have h7 := dp_7 h
  have hz := hd_dp (n := i) (by omega)
  induction t with
  | zero =>
    intro m q τ1 h1 h2 hF a b c
    cases m with
    | zero => omega
    | succ m =>
    have e : q = dp i := by omega
    subst e
    unfold M_laysWay_L17
    rw [hz.1, if_neg (by omega), ats_dp h]
    exact ⟨τ1, rfl, hF, a, b, c⟩
  | succ t ih =>
    intro m q τ1 h1 h2 hF a b c
    cases m with
    | zero => omega
    | succ m =>
    have r := ats_rng h (q := q) (by omega)
    have g := (hd_rng (n := i) (by omega) q (by omega))
    have g1 := g.2.2 (by omega)
    have g2 := p2_pos q
    have go : ∀ w v, ats i (q + 1) = ats i q + w → bts i (q + 1) = 2 * bts i q + v → ∃ τ2, M_laysWay_L17 K m (us (us (us τ1 6 (τ1 35 0) (ats i q)) 35 0 (τ1 35 0 + 1)) 36 0 (2 * τ1 36 0 + v)) (ats i q + w) (p2 q * 2) ((hd q i - 1) / 2) = K τ2 i ∧ Fr [6, 35, 36] τ τ2 ∧ τ2 35 0 = dp i ∧ τ2 36 0 = bts i (dp i) ∧ (∀ p : Nat, p < dp i → τ2 6 p = ats i p) := fun w v hw hv => by
      have e1 : p2 q * 2 = p2 (q + 1) := by show p2 q * 2 = 2 * p2 q; omega
      have e2 : (hd q i - 1) / 2 = hd (q + 1) i := rfl
      rw [← hw, e1, e2]
      refine ih m (q + 1) _ (by omega) (by omega) (((hF.us (by decide)).us (by decide)).us (by decide)) ?_ ?_ (fun p hp => ?_)
      · rw [us_ne (by decide), us_eq, a]; rfl
      · rw [us_eq, hv, b]
      · rw [us_ne (by decide), us_ne (by decide)]
        by_cases e : p = q
        · rw [e, a, us_eq]
        · rw [a, us_ni (by omega)]; exact c p (by omega)
    conv in M_laysWay_L17 K (m + 1) _ _ _ _ => unfold M_laysWay_L17
    by_cases ho : hd q i % 2 = 0
    · obtain ⟨τ2, x1, x2⟩ := go (2 * p2 q) 1 (by show _ + _ = _; rw [if_pos ho]) (by show _ + _ = _; rw [if_pos ho])
      have e3 : (hd q i - 2) / 2 = (hd q i - 1) / 2 := by omega
      refine ⟨τ2, ?_, x2⟩
      simp (disch := omega) only [↓jn_e, ↓ite_y, ↓ite_n, ↓oadd_eq, ↓osub_eq, ↓omul_eq, ↓odiv_eq, ↓orem_eq, ↓rd_eq, ↓wr_eq, ↓gf_e, ↓pf_e, ↓bnd_e, ↓bndp_e, ↓opure_e, ↓oif_t, ↓oif_f, ↓E_isPlace_y, ↓E_isPlace_n, ↓E_isNumber_y, ↓E_isNumber_n, ↓M_isPlace_y, ↓M_isPlace_n, ↓M_isNumber_y, ↓M_isNumber_n, ↓M_in_y, ↓M_in_n, ↓us_ne, e3]
      exact x1
    · obtain ⟨τ2, x1, x2⟩ := go (p2 q) 0 (by show _ + _ = _; rw [if_neg ho]) (by show _ + _ = _; rw [if_neg ho])
      refine ⟨τ2, ?_, x2⟩
      simp (disch := omega) only [↓jn_e, ↓ite_y, ↓ite_n, ↓oadd_eq, ↓osub_eq, ↓omul_eq, ↓odiv_eq, ↓orem_eq, ↓rd_eq, ↓wr_eq, ↓gf_e, ↓pf_e, ↓bnd_e, ↓bndp_e, ↓opure_e, ↓oif_t, ↓oif_f, ↓E_isPlace_y, ↓E_isPlace_n, ↓E_isNumber_y, ↓E_isNumber_n, ↓M_isPlace_y, ↓M_isPlace_n, ↓M_isNumber_y, ↓M_isNumber_n, ↓M_in_y, ↓M_in_n, ↓us_ne]
      exact x1
theorem laysWay_ex {i : Int} (h : 0 ≤ i ∧ i < 255) (τ : St) : ∃ τ2, M_laysWay τ i = some (0, τ2) ∧ Fr [6, 35, 36] τ τ2 ∧ τ2 35 0 = (dp i : Int) + 1 ∧ τ2 36 0 = bts i (dp i) ∧ (∀ p : Nat, p ≤ dp i → τ2 6 p = ats i p) := by
  have h7 := dp_7 h
  obtain ⟨τ2, e, f, a, b, c⟩ := laysWay_loop (fun (s3 : St) (x4 : Int) => gf s3 35 fun v6 => wr s3 6 8 v6 x4 fun s7 => gf s7 35 fun v8 => oadd v8 1 fun v9 => pf s7 35 v9 fun s10 => some (0, s10)) h τ (dp i) FU 0 (us (us τ 35 0 0) 36 0 0) (by omega) (by unfold FU; omega) (((Fr.rf _ τ).us (by decide)).us (by decide)) (by rw [us_ne (by decide), us_eq]; rfl) (us_eq _ _ _ _) (fun p hp => by omega)
  have e : M_laysWay τ i = (fun (s3 : St) (x4 : Int) => gf s3 35 fun v6 => wr s3 6 8 v6 x4 fun s7 => gf s7 35 fun v8 => oadd v8 1 fun v9 => pf s7 35 v9 fun s10 => some (0, s10)) τ2 i := e
  refine ⟨us (us τ2 6 (dp i : Int) i) 35 0 ((dp i : Int) + 1), ?_, (f.us (by decide)).us (by decide), us_eq _ _ _ _, ?_, fun p hp => ?_⟩
  · rw [e]
    simp (disch := omega) only [↓jn_e, ↓ite_y, ↓ite_n, ↓oadd_eq, ↓osub_eq, ↓omul_eq, ↓odiv_eq, ↓orem_eq, ↓rd_eq, ↓wr_eq, ↓gf_e, ↓pf_e, ↓bnd_e, ↓bndp_e, ↓opure_e, ↓oif_t, ↓oif_f, ↓E_isPlace_y, ↓E_isPlace_n, ↓E_isNumber_y, ↓E_isNumber_n, ↓M_isPlace_y, ↓M_isPlace_n, ↓M_isNumber_y, ↓M_isNumber_n, ↓M_in_y, ↓M_in_n, ↓us_ne, a]
  · rw [us_ne (by decide), us_ne (by decide)]; exact b
  · rw [us_ne (by decide)]
    by_cases e : p = dp i
    · rw [e, us_eq, ats_dp h]
    · rw [us_ni (by omega)]; exact c p (by omega)
theorem clearsNew_loop (τ : St) : ∀ (m : Nat) (τ1 : St) (x : Int), 0 ≤ x → x ≤ 256 → 256 - x < m → Fr [7] τ τ1 → (∀ z, 0 ≤ z → z < x → τ1 7 z = 0) → ∃ τ2, M_clearsNew_L2 m τ1 x = some (0, τ2) ∧ Fr [7] τ τ2 ∧ ∀ z, 0 ≤ z → z < 256 → τ2 7 z = 0 := by
  intro m
  induction m with
  | zero => intro σ1 x h0 hxn hm; exfalso; omega
  | succ m ih =>
    intro σ1 x h0 hxn hm hF hz
    unfold M_clearsNew_L2
    by_cases hx : x < 256
    · simp (disch := omega) only [ite_n, wrZ_eq, oadd_eq]
      refine ih _ (x + 1) (by omega) (by omega) (by omega) (hF.us (by decide)) (fun z h1 h2 => ?_)
      by_cases hzx : z = x
      · rw [hzx, us_eq]
      · rw [us_ni hzx]; exact hz z h1 (by omega)
    · simp (disch := omega) only [ite_y]
      exact ⟨σ1, rfl, hF, fun z h1 h2 => hz z h1 (by omega)⟩
theorem clearsNew_ex (τ : St) : ∃ τ2, M_clearsNew τ = some (0, τ2) ∧ Fr [7] τ τ2 ∧ ∀ z, 0 ≤ z → z < 256 → τ2 7 z = 0 :=
  clearsNew_loop τ FU τ 0 (by omega) (by omega) (by unfold FU; omega) (Fr.rf _ _) (fun z h1 h2 => by omega)
def bits01 (f : Int → Int) : Prop := ∀ x, 0 ≤ x → x < 256 → f x = 0 ∨ f x = 1
theorem marks_loop {i it : Int} (h : 0 ≤ i ∧ i < 255) (hit : it = 0 ∨ it = 1) (τ : St) (hw : τ 35 0 = (dp i : Int) + 1) (hp : ∀ p : Nat, p ≤ dp i → τ 6 p = ats i p) (h01 : bits01 (τ 7)) : ∀ (t m q : Nat) (τ1 : St), q + t = dp i + 1 → t < m → Fr [7] τ τ1 → bits01 (τ1 7) →
      (∀ x, 0 ≤ x → x < 256 → (τ1 7 x = 1 ↔ (τ 7 x = 1 ∨ (∃ p, p < q ∧ ats i p = x ∧ (it = 1 ∨ p < dp i))))) → ∃ τ2, M_marks_L7 it m τ1 q = some (0, τ2) ∧ Fr [7] τ τ2 ∧ bits01 (τ2 7) ∧ (∀ x, 0 ≤ x → x < 256 → (τ2 7 x = 1 ↔ (τ 7 x = 1 ∨ (∃ p, p < dp i + 1 ∧ ats i p = x ∧ (it = 1 ∨ p < dp i))))) := by
  intro t
  have h7 := dp_7 h
  induction t with
  | zero =>
    intro m q τ1 h1 h2 hF b c
    cases m with
    | zero => omega
    | succ m =>
    have e : q = dp i + 1 := by omega
    subst e
    unfold M_marks_L7
    have e35 : τ1 35 0 = (dp i : Int) + 1 := by rw [hF 35 (by decide)]; exact hw
    rw [gf_eq, e35, if_neg (by omega)]
    exact ⟨τ1, rfl, hF, b, c⟩
  | succ t ih =>
    intro m q τ1 h1 h2 hF b c
    cases m with
    | zero => omega
    | succ m =>
    have r := ats_rng h (q := q) (by omega)
    have e35 : τ1 35 0 = (dp i : Int) + 1 := by rw [hF 35 (by decide)]; exact hw
    have e6 : τ1 6 q = ats i q := by rw [hF 6 (by decide)]; exact hp q (by omega)
    have b1 := b (ats i q) (by omega) (by omega)
    have go : ∀ w, (w = 0 ∨ w = 1) → (w = 1 ↔ (τ1 7 (ats i q) = 1 ∨ (it = 1 ∨ q < dp i))) → ∃ τ2, M_marks_L7 it m (us τ1 7 (ats i q) w) ((q : Int) + 1) = some (0, τ2) ∧ Fr [7] τ τ2 ∧ bits01 (τ2 7) ∧ (∀ x, 0 ≤ x → x < 256 → (τ2 7 x = 1 ↔ (τ 7 x = 1 ∨ (∃ p, p < dp i + 1 ∧ ats i p = x ∧ (it = 1 ∨ p < dp i))))) := fun w w01 hw1 => by
      refine ih m (q + 1) _ (by omega) (by omega) (hF.us (by decide)) (fun x x0 xn => ?_) (fun x x0 xn => ?_)
      · by_cases e : x = ats i q
        · rw [e, us_eq]; exact w01
        · rw [us_ni e]; exact b x x0 xn
      · by_cases e : x = ats i q
        · rw [e, us_eq, hw1, c _ (by omega) (by omega)]
          constructor
          · rintro ((a1 | ⟨p, p1, p2, p3⟩) | a1)
            · exact Or.inl a1
            · exact Or.inr ⟨p, by omega, p2, p3⟩
            · exact Or.inr ⟨q, by omega, rfl, a1⟩
          · rintro (a1 | ⟨p, p1, p2, p3⟩)
            · exact Or.inl (Or.inl a1)
            · by_cases e2 : p = q
              · rw [e2] at p3; exact Or.inr p3
              · exact Or.inl (Or.inr ⟨p, by omega, p2, p3⟩)
        · rw [us_ni e, c x x0 xn]
          constructor
          · rintro (a1 | ⟨p, p1, p2, p3⟩)
            · exact Or.inl a1
            · exact Or.inr ⟨p, by omega, p2, p3⟩
          · rintro (a1 | ⟨p, p1, p2, p3⟩)
            · exact Or.inl a1
            · have e2 : p ≠ q := fun e2 => e (by rw [← p2, e2])
              exact Or.inr ⟨p, by omega, p2, p3⟩
    conv in M_marks_L7 it (m + 1) _ _ => unfold M_marks_L7
    rw [gf_eq, e35, if_pos (by omega), rd_eq (by omega), e6, rd_eq (by omega), e6, rd_eq (by omega)]
    by_cases c1 : τ1 7 (ats i q) = 0
    · by_cases c2 : it = 0
      · by_cases c3 : q < dp i
        · obtain ⟨τ2, x1, x2⟩ := go 1 (Or.inr rfl) ⟨fun _ => Or.inr (Or.inr c3), fun _ => rfl⟩
          refine ⟨τ2, ?_, x2⟩
          simp (disch := omega) only [↓jn_e, ↓ite_y, ↓ite_n, ↓oadd_eq, ↓osub_eq, ↓omul_eq, ↓odiv_eq, ↓orem_eq, ↓rd_eq, ↓wr_eq, ↓gf_e, ↓pf_e, ↓bnd_e, ↓bndp_e, ↓opure_e, ↓oif_t, ↓oif_f, ↓E_isPlace_y, ↓E_isPlace_n, ↓E_isNumber_y, ↓E_isNumber_n, ↓M_isPlace_y, ↓M_isPlace_n, ↓M_isNumber_y, ↓M_isNumber_n, ↓M_in_y, ↓M_in_n, ↓us_ne, e35, ↓wrZ_eq]
          exact x1
        · obtain ⟨τ2, x1, x2⟩ := go 0 (Or.inl rfl) ⟨fun e => by omega, fun e => by omega⟩
          refine ⟨τ2, ?_, x2⟩
          simp (disch := omega) only [↓jn_e, ↓ite_y, ↓ite_n, ↓oadd_eq, ↓osub_eq, ↓omul_eq, ↓odiv_eq, ↓orem_eq, ↓rd_eq, ↓wr_eq, ↓gf_e, ↓pf_e, ↓bnd_e, ↓bndp_e, ↓opure_e, ↓oif_t, ↓oif_f, ↓E_isPlace_y, ↓E_isPlace_n, ↓E_isNumber_y, ↓E_isNumber_n, ↓M_isPlace_y, ↓M_isPlace_n, ↓M_isNumber_y, ↓M_isNumber_n, ↓M_in_y, ↓M_in_n, ↓us_ne, e35, ↓wrZ_eq]
          exact x1
      · obtain ⟨τ2, x1, x2⟩ := go 1 (Or.inr rfl) ⟨fun _ => Or.inr (Or.inl (by omega)), fun _ => rfl⟩
        refine ⟨τ2, ?_, x2⟩
        simp (disch := omega) only [↓jn_e, ↓ite_y, ↓ite_n, ↓oadd_eq, ↓osub_eq, ↓omul_eq, ↓odiv_eq, ↓orem_eq, ↓rd_eq, ↓wr_eq, ↓gf_e, ↓pf_e, ↓bnd_e, ↓bndp_e, ↓opure_e, ↓oif_t, ↓oif_f, ↓E_isPlace_y, ↓E_isPlace_n, ↓E_isNumber_y, ↓E_isNumber_n, ↓M_isPlace_y, ↓M_isPlace_n, ↓M_isNumber_y, ↓M_isNumber_n, ↓M_in_y, ↓M_in_n, ↓us_ne, e35, ↓wrZ_eq]
        exact x1
    · obtain ⟨τ2, x1, x2⟩ := go 1 (Or.inr rfl) ⟨fun _ => Or.inl (by omega), fun _ => rfl⟩
      refine ⟨τ2, ?_, x2⟩
      simp (disch := omega) only [↓jn_e, ↓ite_y, ↓ite_n, ↓oadd_eq, ↓osub_eq, ↓omul_eq, ↓odiv_eq, ↓orem_eq, ↓rd_eq, ↓wr_eq, ↓gf_e, ↓pf_e, ↓bnd_e, ↓bndp_e, ↓opure_e, ↓oif_t, ↓oif_f, ↓E_isPlace_y, ↓E_isPlace_n, ↓E_isNumber_y, ↓E_isNumber_n, ↓M_isPlace_y, ↓M_isPlace_n, ↓M_isNumber_y, ↓M_isNumber_n, ↓M_in_y, ↓M_in_n, ↓us_ne, e35, ↓wrZ_eq]
      exact x1
theorem marks_ex {i it : Int} (h : 0 ≤ i ∧ i < 255) (hit : it = 0 ∨ it = 1) (τ : St) (h01 : bits01 (τ 7)) : ∃ τ2, M_marks τ i it = some (0, τ2) ∧ Fr [6, 7, 35, 36] τ τ2 ∧ bits01 (τ2 7) ∧ (∀ x, 0 ≤ x → x < 256 → (τ2 7 x = 1 ↔ (τ 7 x = 1 ∨ (onW i x ∧ (it = 1 ∨ x ≠ i))))) := by
  have h7 := dp_7 h
  obtain ⟨τ1, e1, f1, a, -, c⟩ := laysWay_ex h τ
  have e7 : τ1 7 = τ 7 := f1 7 (by decide)
  obtain ⟨τ2, e2, f2, b2, c2⟩ := marks_loop h hit τ1 a c (by rw [e7]; exact h01) (dp i + 1) FU 0 τ1 (by omega) (by unfold FU; omega) (Fr.rf _ _) (by rw [e7]; exact h01) (fun x x0 xn => ⟨fun q => Or.inl q, fun q => q.elim id (fun ⟨p, p1, _⟩ => absurd p1 (by omega))⟩)
  refine ⟨τ2, ?_, (f1.mono (by decide)).tr (f2.mono (by decide)), b2, fun x x0 xn => ?_⟩
  · unfold M_marks
    rw [e1, bnd_eq]; exact e2
  · rw [c2 x x0 xn, e7]
    constructor
    · rintro (q | ⟨p, p1, p2, p3⟩)
      · exact Or.inl q
      · refine Or.inr ⟨⟨p, by omega, p2⟩, p3.elim Or.inl (fun p4 => Or.inr (fun e => ?_))⟩
        have mono : ∀ d, p + d ≤ dp i → 0 < d → ats i p < ats i (p + d) := fun d => by
          induction d with
          | zero => intro _ h0; omega
          | succ d ihd =>
            intro h1 h2
            have a := (ats_up h (q := p + d) (by omega)).1
            by_cases hd0 : d = 0
            · subst hd0; exact a
            · exact Int.lt_trans (ihd (by omega) (by omega)) a
        have := mono (dp i - p) (by omega) (by omega)
        rw [show p + (dp i - p) = dp i by omega, ats_dp h] at this
        omega
    · rintro (q | ⟨⟨p, p1, p2⟩, p3⟩)
      · exact Or.inl q
      · refine Or.inr ⟨p, by omega, p2, p3.elim Or.inl (fun p4 => Or.inr ?_)⟩
        by_cases e : p = dp i
        · rw [e, ats_dp h] at p2; exact absurd p2.symm p4
        · omega

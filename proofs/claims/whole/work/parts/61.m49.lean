-- MATH 49: a tree read in: evenness, indices; grows
def ev (ls rs : Int → Int) (k : Int) : Prop := ls k = rs k ∨ ls k = rs k + 1
theorem fu_loop {s : St} {N : Int} (hN : 0 ≤ N ∧ N ≤ 100) (h38 : s 38 0 = N) (hb : ∀ k, 0 ≤ k → k < N → 0 ≤ s 21 k ∧ s 21 k ≤ 100) : ∀ (r m : Nat) (x : Int), x + r = N → 0 ≤ x → r < m → (∀ k, 0 ≤ k → k < x → ev (s 20) (s 21) k) →
    ∃ v, Reader_firstUneven_L2 s m x = some v ∧ ((v = -1 ∧ ∀ k, 0 ≤ k → k < N → ev (s 20) (s 21) k) ∨ (0 ≤ v ∧ v < N ∧ ¬ ev (s 20) (s 21) v ∧ ∀ k, 0 ≤ k → k < v → ev (s 20) (s 21) k)) := by
  intro r
  induction r with
  | zero =>
    intro m x h1 h0 h2 hE
    cases m with
    | zero => omega
    | succ m =>
    refine ⟨-1, ?_, Or.inl ⟨rfl, fun k a b => hE k a (by omega)⟩⟩
    unfold Reader_firstUneven_L2
    rw [gf_eq, h38, if_neg (by omega)]
  | succ r ih =>
    intro m x h1 h0 h2 hE
    cases m with
    | zero => omega
    | succ m =>
    have b := hb x h0 (by omega)
    have eS : Shape_isEven (s 20 x) (s 21 x) = some (if s 20 x = s 21 x ∨ s 20 x = s 21 x + 1 then 1 else 0) := by
      unfold Shape_isEven
      rw [jn_eq]
      by_cases q : s 20 x = s 21 x
      · rw [if_pos q, if_pos (Or.inl q)]
      · rw [if_neg q, oadd_eq (by omega)]
        by_cases w : s 20 x = s 21 x + 1
        · rw [if_pos w, if_pos (Or.inr w)]
        · rw [if_neg w, if_neg (fun e => e.elim q w)]
    by_cases q : s 20 x = s 21 x ∨ s 20 x = s 21 x + 1
    · obtain ⟨v, e, y⟩ := ih m (x + 1) (by omega) (by omega) (by omega) (fun k a b9 => by
        by_cases w : k = x
        · rw [w]; exact q
        · exact hE k a (by omega))
      refine ⟨v, ?_, y⟩
      unfold Reader_firstUneven_L2
      rw [gf_eq, h38, if_pos (by omega), rd_eq (by omega), rd_eq (by omega), eS, if_pos q, bndp_eq, if_neg (by decide), oadd_eq (by omega)]
      exact e
    · refine ⟨x, ?_, Or.inr ⟨h0, by omega, q, hE⟩⟩
      unfold Reader_firstUneven_L2
      rw [gf_eq, h38, if_pos (by omega), rd_eq (by omega), rd_eq (by omega), eS, if_neg q, bndp_eq, if_pos rfl]
theorem un_loop {ab sd sr ls rs : Int → Int} {N : Int} (hN : N ≤ 100) (hT : TT ab sd sr ls rs N (-1)) {τ : St} (h10 : ∀ k, 0 ≤ k → k < N → τ 10 k = ab k ∧ τ 11 k = sd k) : ∀ (r m : Nat) (t : St) (v i : Int), i + 1 = r → i < N → r < m → Fr [12] τ t → (∀ p, 0 ≤ p → p < N → ((ls p = 0 ∨ i < p + 1) → t 12 (2 * p) = ls p) ∧ ((rs p = 0 ∨ i < p + 1 + ls p) → t 12 (2 * p + 1) = rs p)) → ((v = -1 ∧ ∀ k, i < k → k < N → ev ls rs k) ∨ (i < v ∧ v < N ∧ ¬ ev ls rs v ∧ ∀ k, i < k → k < v → ev ls rs k)) →
    ∃ v' t', M_unevenTold_L9 m t v i = some (v', t') ∧ Fr [12] τ t' ∧ (∀ p, 0 ≤ p → p < N → t' 12 (2 * p) = ls p ∧ t' 12 (2 * p + 1) = rs p) ∧ ((v' = -1 ∧ ∀ k, 0 ≤ k → k < N → ev ls rs k) ∨ (0 ≤ v' ∧ v' < N ∧ ¬ ev ls rs v' ∧ ∀ k, 0 ≤ k → k < v' → ev ls rs k)) := by
  obtain ⟨t1, t2, t3, -, -, t6, -⟩ := hT
  have hb : ∀ k, 0 ≤ k → k < N → (0 ≤ ls k ∧ ls k ≤ N) ∧ 0 ≤ rs k ∧ rs k ≤ N := fun k a b => by
    have := t1 k a b
    have := t3 k a b (by omega)
    omega
  intro r
  induction r with
  | zero =>
    intro m t v i h1 h0 h2 hF hI hv
    cases m with
    | zero => omega
    | succ m =>
    refine ⟨v, t, ?_, hF, fun p a b => ?_, ?_⟩
    · unfold M_unevenTold_L9
      rw [if_pos (by omega)]
    · have := hI p a b
      have := hb p a b
      exact ⟨(hI p a b).1 (Or.inr (by omega)), (hI p a b).2 (Or.inr (by omega))⟩
    · rcases hv with ⟨e, w⟩ | ⟨a, b, c, w⟩
      · exact Or.inl ⟨e, fun k k0 kn => w k (by omega) kn⟩
      · exact Or.inr ⟨by omega, b, c, fun k k0 kn => w k (by omega) kn⟩
  | succ r ih =>
    intro m t v i h1 h0 h2 hF hI hv
    cases m with
    | zero => omega
    | succ m =>
    have i0 : 0 ≤ i := by omega
    have bi := hb i i0 h0
    have eL : t 12 (2 * i) = ls i := (hI i i0 h0).1 (Or.inr (by omega))
    have eR : t 12 (2 * i + 1) = rs i := (hI i i0 h0).2 (Or.inr (by omega))
    have a1 := t1 i i0 h0
    have e10 : t 10 i = ab i := by rw [hF 10 (by decide)]; exact (h10 i i0 h0).1
    have e11 : t 11 i = sd i := by rw [hF 11 (by decide)]; exact (h10 i i0 h0).2
    -- what follows the test
    have go : ∀ w, ((w = -1 ∧ ∀ k, i - 1 < k → k < N → ev ls rs k) ∨ (i - 1 < w ∧ w < N ∧ ¬ ev ls rs w ∧ ∀ k, i - 1 < k → k < w → ev ls rs k)) → ∃ v' t', (rd t 10 200 i fun v14 => jn (fun (s15 : St) => oadd i (-1) fun v17 => M_unevenTold_L9 m s15 w v17) fun k16 => if v14 = (-1) then (k16 t) else (rd t 10 200 i fun v18 => omul 2 v18 fun v19 => rd t 11 200 i fun v20 => oadd v19 v20 fun v21 => oadd (ls i) (rs i) fun v22 => oadd v22 1 fun v23 => wr t 12 400 v21 v23 fun s24 => k16 s24)) = some (v', t') ∧ Fr [12] τ t' ∧ (∀ p, 0 ≤ p → p < N → t' 12 (2 * p) = ls p ∧ t' 12 (2 * p + 1) = rs p) ∧ ((v' = -1 ∧ ∀ k, 0 ≤ k → k < N → ev ls rs k) ∨ (0 ≤ v' ∧ v' < N ∧ ¬ ev ls rs v' ∧ ∀ k, 0 ≤ k → k < v' → ev ls rs k)) := fun w hw => by
      by_cases q : ab i = -1
      · obtain ⟨v', t', y1, y2⟩ := ih m t w (i - 1) (by omega) (by omega) (by omega) hF (fun p p0 pn => by
          have h := hI p p0 pn
          have u := t6 p p0 pn
          have s2 := t3 p p0 pn (by omega)
          refine ⟨fun e => h.1 ?_, fun e => h.2 ?_⟩
          · by_cases z : ls p = 0
            · exact Or.inl z
            · have u1 := u.1 (by omega) z
              by_cases x : p + 1 = i
              · rw [x] at u1; omega
              · exact Or.inr (by omega)
          · by_cases z : rs p = 0
            · exact Or.inl z
            · have u1 := u.2 s2 z
              by_cases x : p + 1 + ls p = i
              · rw [x] at u1; omega
              · exact Or.inr (by omega)) hw
        refine ⟨v', t', ?_, y2⟩
        rw [rd_eq (by omega), e10, jn_eq, if_pos q]
        dsimp only
        rw [oadd_eq (by omega)]
        exact y1
      · have p0' : 0 ≤ ab i := by omega
        have a2 := t2 i i0 h0 p0'
        have s2 := t3 i i0 h0 (by omega)
        obtain ⟨v', t', y1, y2⟩ := ih m (us t 12 (2 * ab i + sd i) (ls i + rs i + 1)) w (i - 1) (by omega) (by omega) (by omega) (hF.us (by decide)) (fun p p0 pn => by
          have h := hI p p0 pn
          have u := t6 p p0 pn
          have s3 := t3 p p0 pn (by omega)
          refine ⟨fun e => ?_, fun e => ?_⟩
          · by_cases x : 2 * p = 2 * ab i + sd i
            · have e1 : ab i = p := by omega
              have e2 : sd i = 0 := by omega
              rw [e1] at a2
              rw [x, us_eq]
              have := a2.2.2.1 s2 (by omega)
              omega
            · rw [us_ni x]
              refine h.1 ?_
              by_cases z : ls p = 0
              · exact Or.inl z
              · have u1 := u.1 (by omega) z
                by_cases x2 : p + 1 = i
                · rw [x2] at u1; omega
                · exact Or.inr (by omega)
          · by_cases x : 2 * p + 1 = 2 * ab i + sd i
            · have e1 : ab i = p := by omega
              have e2 : sd i = 1 := by omega
              rw [e1] at a2
              rw [x, us_eq]
              have := a2.2.2.1 s2 (by omega)
              omega
            · rw [us_ni x]
              refine h.2 ?_
              by_cases z : rs p = 0
              · exact Or.inl z
              · have u1 := u.2 s3 z
                by_cases x2 : p + 1 + ls p = i
                · rw [x2] at u1; omega
                · exact Or.inr (by omega)) hw
        refine ⟨v', t', ?_, y2⟩
        rw [rd_eq (by omega), e10, jn_eq, if_neg q, rd_eq (by omega), e10, omul_eq (by omega), rd_eq (by omega), e11, oadd_eq (by omega), oadd_eq (by omega), oadd_eq (by omega), wr_eq (by omega)]
        dsimp only
        rw [oadd_eq (by omega)]
        exact y1
    have evn : ev ls rs i → ((v = -1 ∧ ∀ k, i - 1 < k → k < N → ev ls rs k) ∨ (i - 1 < v ∧ v < N ∧ ¬ ev ls rs v ∧ ∀ k, i - 1 < k → k < v → ev ls rs k)) := fun he => by
      have st : ∀ k, i - 1 < k → ¬ i < k → ev ls rs k := fun k p q => by
        have : k = i := by omega
        rw [this]; exact he
      rcases hv with ⟨e, w⟩ | ⟨a, b, c, w⟩
      · refine Or.inl ⟨e, fun k k0 kn => ?_⟩
        by_cases x : i < k
        · exact w k x kn
        · exact st k k0 x
      · refine Or.inr ⟨by omega, b, c, fun k k0 kn => ?_⟩
        by_cases x : i < k
        · exact w k x kn
        · exact st k k0 x
    have pre : M_unevenTold_L9 (m + 1) t v i = (jn (fun (x12 : Int) => rd t 10 200 i fun v14 => jn (fun (s15 : St) => oadd i (-1) fun v17 => M_unevenTold_L9 m s15 x12 v17) fun k16 => if v14 = (-1) then (k16 t) else (rd t 10 200 i fun v18 => omul 2 v18 fun v19 => rd t 11 200 i fun v20 => oadd v19 v20 fun v21 => oadd (ls i) (rs i) fun v22 => oadd v22 1 fun v23 => wr t 12 400 v21 v23 fun s24 => k16 s24)) fun k13 => if ls i = rs i then (k13 v) else (oadd (rs i) 1 fun v25 => if ls i = v25 then (k13 v) else (k13 i))) := by
      conv => lhs; unfold M_unevenTold_L9
      rw [if_neg (by omega), omul_eq (by omega), rd_eq (by omega), omul_eq (by omega), oadd_eq (by omega), rd_eq (by omega), eL, eR]
    rw [pre, jn_eq]
    by_cases q : ls i = rs i
    · rw [if_pos q]
      exact go v (evn (Or.inl q))
    · rw [if_neg q, oadd_eq (by omega)]
      by_cases u : ls i = rs i + 1
      · rw [if_pos u]
        exact go v (evn (Or.inr u))
      · rw [if_neg u]
        exact go i (Or.inr ⟨by omega, h0, fun e => e.elim q u, fun k k0 kn => by omega⟩)
-- indices
theorem st_dbl_f : ∀ x : Fin 128, (st ((x.val : Int) + st (x.val : Int)) = 2 * st (x.val : Int) ∨ 127 ≤ (x.val : Int) + st (x.val : Int)) ∧ (st ((x.val : Int) + 2 * st (x.val : Int)) = 2 * st (x.val : Int) ∨ 127 ≤ (x.val : Int) + 2 * st (x.val : Int)) := by decide +kernel
theorem st_dbl {x e : Int} (hx : 0 ≤ x ∧ x < 128) (he : e = 0 ∨ e = 1) (hb : x + st x * (e + 1) < 127) : st (x + st x * (e + 1)) = 2 * st x := by
  obtain ⟨y, hy⟩ := fin_int (n := 128) hx
  have t := st_dbl_f y
  rw [hy] at t
  rcases he with e0 | e0
  · rw [e0, show st x * (0 + 1) = st x by omega] at hb ⊢
    omega
  · rw [e0, show st x * (1 + 1) = 2 * st x by omega] at hb ⊢
    omega
theorem nl_l {i q l r : Int} (hq : 0 ≤ q) (h : l ≤ r + 1) : (i + q * (0 + 1)) + (2 * q) * (l - 1) ≤ i + q * (l + r) := by
  have e1 : (2 * q) * (l - 1) = 2 * (q * l) - 2 * q := by rw [Int.mul_sub, Int.mul_one, Int.mul_assoc]
  have e2 : q * (l + r) = q * l + q * r := Int.mul_add _ _ _
  have e3 : q * l ≤ q * (r + 1) := Int.mul_le_mul_of_nonneg_left h hq
  have e4 : q * (r + 1) = q * r + q := by rw [Int.mul_add, Int.mul_one]
  have e5 : q * (0 + 1) = q := by rw [Int.zero_add, Int.mul_one]
  omega
theorem nl_r {i q l r : Int} (hq : 0 ≤ q) (h : r ≤ l) : (i + q * (1 + 1)) + (2 * q) * (r - 1) ≤ i + q * (l + r) := by
  have e1 : (2 * q) * (r - 1) = 2 * (q * r) - 2 * q := by rw [Int.mul_sub, Int.mul_one, Int.mul_assoc]
  have e2 : q * (l + r) = q * l + q * r := Int.mul_add _ _ _
  have e3 : q * r ≤ q * l := Int.mul_le_mul_of_nonneg_left h hq
  have e5 : q * (1 + 1) = 2 * q := by omega
  omega
/-- the indices are those of an even tree -/
def IX (ab sd ls rs ix : Int → Int) (N x : Int) : Prop := ∀ k, 0 ≤ k → k < x → (0 ≤ ix k ∧ ix k < N) ∧ ix k + st (ix k) * (ls k + rs k) < N ∧ (ab k = -1 → ix k = 0) ∧ (0 ≤ ab k → ix k = ix (ab k) + st (ix (ab k)) * (sd k + 1) ∧ st (ix k) = 2 * st (ix (ab k)))
theorem ix_step {ab sd sr ls rs ix : Int → Int} {N x : Int} (hN : N ≤ 100) (hT : TT ab sd sr ls rs N (-1)) (h0r : N = 1 + ls 0 + rs 0) (hE : ∀ k, 0 ≤ k → k < N → ev ls rs k) (h : IX ab sd ls rs ix N x) (hx : 0 ≤ x ∧ x < N) {w : Int} (hw : w = if ab x = -1 then 0 else ix (ab x) + st (ix (ab x)) * (sd x + 1)) :
    (0 ≤ w ∧ w < N) ∧ w + st w * (ls x + rs x) < N ∧ (0 ≤ ab x → st w = 2 * st (ix (ab x))) := by
  obtain ⟨t1, t2, t3, -, -, t6, -⟩ := hT
  have a1 := t1 x hx.1 hx.2
  have s2 := t3 x hx.1 hx.2 (by omega)
  by_cases q : ab x = -1
  · have e : x = 0 := a1.1.2.2 q
    rw [if_pos q] at hw
    have e2 : st w = 1 := by rw [hw]; rfl
    rw [e2, e]
    refine ⟨by omega, by omega, fun p => by rw [e] at q; omega⟩
  · rw [if_neg q] at hw
    have p0 : 0 ≤ ab x := by omega
    have a2 := t2 x hx.1 hx.2 p0
    have hp := h (ab x) p0 a1.1.2.1
    have b1 := t1 (ab x) p0 (by omega)
    have b3 := t3 (ab x) p0 (by omega) (by omega)
    have c := a2.2.2.1 s2 (by omega)
    have eE := hE (ab x) p0 (by omega)
    unfold ev at eE
    have sp := st_pos (ix (ab x))
    have sl9 := (st_le (x := ix (ab x)) (by omega))
    -- the bound
    have bound : w + 2 * st (ix (ab x)) * (ls x + rs x) < N := by
      rcases (show sd x = 0 ∨ sd x = 1 by omega) with e | e
      · have l := nl_l (i := ix (ab x)) (q := st (ix (ab x))) (l := ls (ab x)) (r := rs (ab x)) (by omega) (by omega)
        rw [e] at hw
        rw [show ls x + rs x = ls (ab x) - 1 by omega, hw]
        omega
      · have l := nl_r (i := ix (ab x)) (q := st (ix (ab x))) (l := ls (ab x)) (r := rs (ab x)) (by omega) (by omega)
        rw [e] at hw
        rw [show ls x + rs x = rs (ab x) - 1 by omega, hw]
        omega
    have nn : 0 ≤ 2 * st (ix (ab x)) * (ls x + rs x) := Int.mul_nonneg (by omega) (by omega)
    have nw : 0 ≤ st (ix (ab x)) * (sd x + 1) := Int.mul_nonneg (by omega) (by omega)
    have wN : 0 ≤ w ∧ w < N := by omega
    have es : st w = 2 * st (ix (ab x)) := by
      rw [hw]
      exact st_dbl (by omega) (by omega) (by omega)
    refine ⟨wN, ?_, fun _ => es⟩
    rw [es]; exact bound
/-- each index comes -/
theorem ix_all {ab sd sr ls rs ix : Int → Int} {N : Int} (hT : TT ab sd sr ls rs N (-1)) (hE : ∀ k, 0 ≤ k → k < N → ev ls rs k) (h : IX ab sd ls rs ix N N) : ∀ (r : Nat) (i : Int), N - i ≤ r → 0 ≤ i → i < N → ∀ x, 0 ≤ x → x < 1 + ls i + rs i → ∃ k, 0 ≤ k ∧ k < N ∧ ix k = ix i + st (ix i) * x := by
  have hT0 := hT
  obtain ⟨t1, t2, t3, -, -, t6, -⟩ := hT
  intro r
  induction r with
  | zero => intro i h1 h0 hi; omega
  | succ r ih =>
    intro i h1 h0 hi x x0 xn
    have s2 := t3 i h0 hi (by omega)
    have a1 := t1 i h0 hi
    have eE := hE i h0 hi
    unfold ev at eE
    have u := t6 i h0 hi
    by_cases z : x = 0
    · exact ⟨i, h0, hi, by rw [z, Int.mul_zero, Int.add_zero]⟩
    · rcases (show x % 2 = 1 ∨ x % 2 = 0 by omega) with p | p
      · have c := u.1 (by omega) (by omega)
        have c2 := t2 (i + 1) (by omega) c.1 (by omega)
        have cs := t3 (i + 1) (by omega) c.1 (by omega)
        rw [c.2.1] at c2
        have c3 := c2.2.2.1 cs (by omega)
        have hx := h (i + 1) (by omega) c.1
        rw [c.2.1] at hx
        have hx2 := hx.2.2.2 h0
        obtain ⟨k, k0, kn, ke⟩ := ih (i + 1) (by omega) (by omega) c.1 (x / 2) (by omega) (by omega)
        refine ⟨k, k0, kn, ?_⟩
        rw [ke, hx2.2, hx2.1, c.2.2]
        have e : x = 2 * (x / 2) + 1 := by omega
        have e1 : st (ix i) * x = st (ix i) * (2 * (x / 2)) + st (ix i) := by
          conv => lhs; rw [e]
          rw [Int.mul_add, Int.mul_one]
        have e2 : 2 * st (ix i) * (x / 2) = st (ix i) * (2 * (x / 2)) := by rw [Int.mul_comm 2 (st (ix i)), Int.mul_assoc]
        rw [e1, e2, Int.zero_add, Int.mul_one]; omega
      · have c := u.2 s2 (by omega)
        have c2 := t2 (i + 1 + ls i) (by omega) c.1 (by omega)
        have cs := t3 (i + 1 + ls i) (by omega) c.1 (by omega)
        rw [c.2.1] at c2
        have c3 := c2.2.2.1 cs (by omega)
        have hx := h (i + 1 + ls i) (by omega) c.1
        rw [c.2.1] at hx
        have hx2 := hx.2.2.2 h0
        obtain ⟨k, k0, kn, ke⟩ := ih (i + 1 + ls i) (by omega) (by omega) c.1 (x / 2 - 1) (by omega) (by omega)
        refine ⟨k, k0, kn, ?_⟩
        rw [ke, hx2.2, hx2.1, c.2.2]
        have e : x = 2 * (x / 2 - 1) + 2 := by omega
        have e1 : st (ix i) * x = st (ix i) * (2 * (x / 2 - 1)) + st (ix i) * 2 := by
          conv => lhs; rw [e]
          rw [Int.mul_add]
        have e2 : 2 * st (ix i) * (x / 2 - 1) = st (ix i) * (2 * (x / 2 - 1)) := by rw [Int.mul_comm 2 (st (ix i)), Int.mul_assoc]
        rw [e1, e2]; omega

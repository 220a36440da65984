-- P54, 0: sums, heaps by index, what PUSH and LIFT make of a row
theorem sm_split (g : Int → Int) : ∀ m : Nat, 1 ≤ m → sm g m = g 0 + sm (fun j => g (2 * j + 1)) (m / 2) + sm (fun j => g (2 * j + 2)) ((m - 1) / 2) := by
  intro m
  induction m with
  | zero => intro h; omega
  | succ m ih =>
    intro _
    by_cases m0 : m = 0
    · subst m0
      show (0 : Int) + g ((0 : Nat) : Int) = g 0 + 0 + 0
      rw [show ((0 : Nat) : Int) = 0 from rfl]
      omega
    · have h := ih (by omega)
      have hu : sm g (m + 1) = sm g m + g (m : Int) := rfl
      rw [hu, h]
      rcases Nat.mod_two_eq_zero_or_one m with e | e
      · obtain ⟨j, rfl⟩ : ∃ j, m = 2 * j + 2 := ⟨m / 2 - 1, by omega⟩
        rw [show (2 * j + 2 + 1) / 2 = (2 * j + 2) / 2 by omega, show (2 * j + 2 + 1 - 1) / 2 = (2 * j + 2 - 1) / 2 + 1 by omega]
        have hv : sm (fun j => g (2 * j + 2)) ((2 * j + 2 - 1) / 2 + 1) = sm (fun j => g (2 * j + 2)) ((2 * j + 2 - 1) / 2) + g (2 * (((2 * j + 2 - 1) / 2 : Nat) : Int) + 2) := rfl
        rw [hv, show (2 * (((2 * j + 2 - 1) / 2 : Nat) : Int) + 2) = ((2 * j + 2 : Nat) : Int) by omega]
        omega
      · obtain ⟨j, rfl⟩ : ∃ j, m = 2 * j + 1 := ⟨m / 2, by omega⟩
        rw [show (2 * j + 1 + 1) / 2 = (2 * j + 1) / 2 + 1 by omega, show (2 * j + 1 + 1 - 1) / 2 = (2 * j + 1 - 1) / 2 by omega]
        have hv : sm (fun j => g (2 * j + 1)) ((2 * j + 1) / 2 + 1) = sm (fun j => g (2 * j + 1)) ((2 * j + 1) / 2) + g (2 * (((2 * j + 1) / 2 : Nat) : Int) + 1) := rfl
        rw [hv, show (2 * (((2 * j + 1) / 2 : Nat) : Int) + 1) = ((2 * j + 1 : Nat) : Int) by omega]
        omega
theorem sm_set (f : Int → Int) (a v : Int) : ∀ m : Nat, 0 ≤ a → a < m → sm (fun x => if x = a then v else f x) m = sm f m - f a + v := by
  intro m
  induction m with
  | zero => intro h0 h1; omega
  | succ m ih =>
    intro h0 h1
    unfold sm
    by_cases e : a = m
    · subst e
      rw [if_pos rfl, sm_ext (g := f) m (fun x x0 xm => if_neg (by omega))]
      omega
    · rw [if_neg (fun q => e q.symm), ih h0 (by omega)]
      omega
theorem sm_at (f : Int → Int) (a : Nat) : ∀ m : Nat, sm f (a + m) = sm f a + sm (fun x => f (x + a)) m := by
  intro m
  induction m with
  | zero => show sm f a = sm f a + 0; omega
  | succ m ih =>
    show sm f (a + m) + f ((a + m : Nat) : Int) = sm f a + (sm (fun x => f (x + a)) m + f ((m : Int) + a))
    rw [ih, show ((a + m : Nat) : Int) = (m : Int) + a by omega]
    omega
/-- no number less than the one above it -/
def HP (g : Int → Int) (n : Int) : Prop := ∀ x, 0 < x → x < n → g (up x) ≤ g x
theorem up_f : ∀ j : Fin 127, (j.val = 0 ∨ up (2 * (j.val : Int) + 1) = 2 * up (j.val : Int) + 1) ∧ (j.val = 0 ∨ up (2 * (j.val : Int) + 2) = 2 * up (j.val : Int) + 2) := by decide +kernel
theorem up_odd {j : Int} (h : 0 < j ∧ j < 127) : up (2 * j + 1) = 2 * up j + 1 := by
  obtain ⟨x, rfl⟩ := fin_int (n := 127) (show 0 ≤ j ∧ j < (127 : Nat) by omega)
  exact (up_f x).1.resolve_left (by omega)
theorem up_even {j : Int} (h : 0 < j ∧ j < 127) : up (2 * j + 2) = 2 * up j + 2 := by
  obtain ⟨x, rfl⟩ := fin_int (n := 127) (show 0 ≤ j ∧ j < (127 : Nat) by omega)
  exact (up_f x).2.resolve_left (by omega)
theorem up_1 : up 1 = 0 := by decide
theorem up_2 : up 2 = 0 := by decide
theorem HP.ext {g h : Int → Int} {n : Int} (hn : n ≤ 255) (H : HP g n) (he : ∀ x, 0 ≤ x → x < n → g x = h x) : HP h n := fun x x0 xn => by
  have u := up_spec (x := x) ⟨x0, by omega⟩
  rw [← he x (by omega) xn, ← he (up x) u.1 (by omega)]
  exact H x x0 xn
theorem HP.mk {g : Int → Int} {n : Int} (hn : n ≤ 255) (h1 : 1 < n → g 0 ≤ g 1) (h2 : 2 < n → g 0 ≤ g 2) (hl : HP (fun j => g (2 * j + 1)) (n / 2)) (hr : HP (fun j => g (2 * j + 2)) ((n - 1) / 2)) : HP g n := fun x x0 xn => by
  obtain ⟨j, j0, jx, e | e⟩ := half x x0
  · subst e
    by_cases z : j = 0
    · subst z
      show g (up 1) ≤ g 1
      rw [up_1]; exact h1 (by omega)
    · rw [up_odd (by omega)]
      exact hl j (by omega) (by omega)
  · subst e
    by_cases z : j = 0
    · subst z
      show g (up 2) ≤ g 2
      rw [up_2]; exact h2 (by omega)
    · rw [up_even (by omega)]
      exact hr j (by omega) (by omega)
theorem HP.l {g : Int → Int} {n : Int} (hn : n ≤ 255) (H : HP g n) : HP (fun j => g (2 * j + 1)) (n / 2) := fun x x0 xn => by
  have := H (2 * x + 1) (by omega) (by omega)
  rw [up_odd (by omega)] at this
  exact this
theorem HP.r {g : Int → Int} {n : Int} (hn : n ≤ 255) (H : HP g n) : HP (fun j => g (2 * j + 2)) ((n - 1) / 2) := fun x x0 xn => by
  have := H (2 * x + 2) (by omega) (by omega)
  rw [up_even (by omega)] at this
  exact this
/-- what PUSH makes of a view of a row -/
def psh : Nat → (Int → Int) → Int → Int → Int → Int
  | 0, _, _, v, _ => v
  | d + 1, g, n, v, y => if n = 0 then v else if y = 0 then imin v (g 0) else if y % 2 = 1 then psh d (fun j => g (2 * j + 2)) ((n - 1) / 2) (imax v (g 0)) (y / 2) else g (y - 1)
theorem psh_ext : ∀ (d : Nat) (g h : Int → Int) {n : Int} (v : Int), (∀ x, 0 ≤ x → x < n → g x = h x) → 0 ≤ n → ∀ y, 0 ≤ y → y ≤ n → psh d g n v y = psh d h n v y := by
  intro d
  induction d with
  | zero => intros; rfl
  | succ d ih =>
    intro g h n v he hn y y0 yn
    unfold psh
    by_cases n0 : n = 0
    · rw [if_pos n0, if_pos n0]
    rw [if_neg n0, if_neg n0]
    rw [he 0 (by omega) (by omega)]
    by_cases yz : y = 0
    · rw [if_pos yz, if_pos yz]
    rw [if_neg yz, if_neg yz]
    by_cases yo : y % 2 = 1
    · rw [if_pos yo, if_pos yo]
      exact ih _ _ _ (fun x x0 xn => he _ (by omega) (by omega)) (by omega) _ (by omega) (by omega)
    · rw [if_neg yo, if_neg yo]
      exact he _ (by omega) (by omega)
theorem psh_0 {d : Nat} {g : Int → Int} {v : Int} (hd : 1 ≤ d) {y : Int} : psh d g 0 v y = v := by
  cases d with
  | zero => omega
  | succ d => unfold psh; rw [if_pos rfl]
theorem psh_root {d : Nat} {g : Int → Int} {n v : Int} (hn : 1 ≤ n) : psh (d + 1) g n v 0 = imin v (g 0) := by
  unfold psh
  rw [if_neg (by omega), if_pos rfl]
theorem psh_odd {d : Nat} {g : Int → Int} {n v j : Int} (hn : 1 ≤ n) (hj : 0 ≤ j) : psh (d + 1) g n v (2 * j + 1) = psh d (fun j => g (2 * j + 2)) ((n - 1) / 2) (imax v (g 0)) j := by
  conv => lhs; unfold psh
  rw [if_neg (by omega), if_neg (by omega), if_pos (by omega), show (2 * j + 1) / 2 = j by omega]
theorem psh_even {d : Nat} {g : Int → Int} {n v j : Int} (hn : 1 ≤ n) (hj : 0 ≤ j) : psh (d + 1) g n v (2 * j + 2) = g (2 * j + 1) := by
  conv => lhs; unfold psh
  rw [if_neg (by omega), if_neg (by omega), if_neg (by omega), show 2 * j + 2 - 1 = 2 * j + 1 by omega]
theorem psh_heap : ∀ (d : Nat) (g : Int → Int) (n v : Int), 0 ≤ n → n ≤ 254 → n + 1 < p2 d → HP g n → HP (psh d g n v) (n + 1) := by
  intro d
  induction d with
  | zero => intro g n v n0 _ h; unfold p2 at h; exfalso; omega
  | succ d ih =>
    intro g n v n0 n1 hp H
    unfold p2 at hp
    by_cases z : n = 0
    · subst z
      intro x x0 xn; exfalso; omega
    have i1 := imin_le v (g 0)
    have i2 := imax_le v (g 0)
    have hR := ih (fun j => g (2 * j + 2)) ((n - 1) / 2) (imax v (g 0)) (by omega) (by omega) (by omega) (H.r (by omega))
    refine HP.mk (by omega) (fun _ => ?_) (fun h2 => ?_) ?_ ?_
    · rw [psh_root (by omega)]
      have e := psh_odd (d := d) (g := g) (n := n) (v := v) (j := 0) (by omega) (by omega)
      rw [show (2 * 0 + 1 : Int) = 1 from rfl] at e
      rw [e]
      by_cases z2 : (n - 1) / 2 = 0
      · rw [z2]
        cases d with
        | zero => unfold p2 at hp; exfalso; omega
        | succ d => rw [psh_0 (by omega)]; omega
      · cases d with
        | zero => unfold p2 at hp; exfalso; omega
        | succ d =>
          rw [psh_root (by omega)]
          have i3 := imin_le (imax v (g 0)) (g (2 * 0 + 2))
          have h3 := H 2 (by omega) (by omega)
          rw [up_2] at h3
          rw [show (2 * 0 + 2 : Int) = 2 from rfl] at i3 ⊢
          rcases i3.1 with w | w <;> rw [w] <;> omega
    · rw [psh_root (by omega)]
      have e := psh_even (d := d) (g := g) (n := n) (v := v) (j := 0) (by omega) (by omega)
      rw [show (2 * 0 + 2 : Int) = 2 from rfl, show (2 * 0 + 1 : Int) = 1 from rfl] at e
      rw [e]
      have h3 := H 1 (by omega) (by omega)
      rw [up_1] at h3
      omega
    · rw [show (n + 1) / 2 = (n - 1) / 2 + 1 by omega]
      exact hR.ext (by omega) (fun x x0 xn => (psh_odd (by omega) x0).symm)
    · rw [show n + 1 - 1 = n by omega]
      exact (H.l (by omega)).ext (by omega) (fun x x0 xn => (psh_even (by omega) x0).symm)
theorem imm (v u : Int) : imin v u + imax v u = v + u := by
  unfold imin imax
  split <;> split <;> omega
theorem psh_sum : ∀ (d m : Nat) (g : Int → Int) (v : Int), (m : Int) + 1 < p2 d → sm (psh d g m v) (m + 1) = sm g m + v := by
  intro d
  induction d with
  | zero => intro m g v h; unfold p2 at h; exfalso; omega
  | succ d ih =>
    intro m g v hp
    unfold p2 at hp
    by_cases z : m = 0
    · subst z
      show (0 : Int) + psh (d + 1) g ((0 : Nat) : Int) v ((0 : Nat) : Int) = 0 + v
      rw [show ((0 : Nat) : Int) = 0 from rfl, psh_0 (by omega)]
    have hR := ih ((m - 1) / 2) (fun j => g (2 * j + 2)) (imax v (g 0)) (by omega)
    rw [sm_split _ (m + 1) (by omega), sm_split g m (by omega), psh_root (by omega), show (m + 1) / 2 = (m - 1) / 2 + 1 by omega, show (m + 1 - 1) / 2 = m / 2 by omega]
    rw [sm_ext (f := fun j => psh (d + 1) g (m : Int) v (2 * j + 1)) (g := psh d (fun j => g (2 * j + 2)) (((m - 1) / 2 : Nat) : Int) (imax v (g 0))) ((m - 1) / 2 + 1) (fun x x0 xm => by
      show psh (d + 1) g (m : Int) v (2 * x + 1) = _
      rw [psh_odd (by omega) x0, show ((m : Int) - 1) / 2 = (((m - 1) / 2 : Nat) : Int) by omega]), hR]
    rw [sm_ext (f := fun j => psh (d + 1) g (m : Int) v (2 * j + 2)) (g := fun j => g (2 * j + 1)) (m / 2) (fun x x0 xm => by
      show psh (d + 1) g (m : Int) v (2 * x + 2) = _
      rw [psh_even (by omega) x0])]
    have := imm v (g 0)
    omega
/-- LIFT: the number at the end of the way to the left; the view without it -/
def lfv : Nat → (Int → Int) → Int → Int
  | 0, _, _ => 0
  | d + 1, g, n => if n = 1 then g 0 else lfv d (fun j => g (2 * j + 1)) (n / 2)
def lft : Nat → (Int → Int) → Int → Int → Int
  | 0, _, _, _ => 0
  | d + 1, g, n, y => if y = 0 then g 0 else if y % 2 = 1 then g (y + 1) else lft d (fun j => g (2 * j + 1)) (n / 2) (y / 2 - 1)
theorem lf_ext : ∀ (d : Nat) (g h : Int → Int) {n : Int}, (∀ x, 0 ≤ x → x < n → g x = h x) → 1 ≤ n → n < p2 d → lfv d g n = lfv d h n ∧ ∀ y, 0 ≤ y → y < n - 1 → lft d g n y = lft d h n y := by
  intro d
  induction d with
  | zero => intro g h n _ h1 h2; unfold p2 at h2; exfalso; omega
  | succ d ih =>
    intro g h n he hn hp
    unfold p2 at hp
    unfold lfv lft
    by_cases n1 : n = 1
    · rw [if_pos n1, if_pos n1]
      exact ⟨he 0 (by omega) (by omega), fun y y0 yn => by exfalso; omega⟩
    rw [if_neg n1, if_neg n1]
    have i := ih (fun j => g (2 * j + 1)) (fun j => h (2 * j + 1)) (n := n / 2) (fun x x0 xn => he _ (by omega) (by omega)) (by omega) (by omega)
    refine ⟨i.1, fun y y0 yn => ?_⟩
    by_cases yz : y = 0
    · rw [if_pos yz, if_pos yz]
      exact he 0 (by omega) (by omega)
    rw [if_neg yz, if_neg yz]
    by_cases yo : y % 2 = 1
    · rw [if_pos yo, if_pos yo]
      exact he _ (by omega) (by omega)
    · rw [if_neg yo, if_neg yo]
      exact i.2 _ (by omega) (by omega)
theorem lf_sum : ∀ (d m : Nat) (g : Int → Int), 1 ≤ m → (m : Int) < p2 d → sm (lft d g m) (m - 1) + lfv d g m = sm g m := by
  intro d
  induction d with
  | zero => intro m g h1 h2; unfold p2 at h2; exfalso; omega
  | succ d ih =>
    intro m g hm hp
    unfold p2 at hp
    by_cases z : m = 1
    · subst z
      unfold lfv
      rw [if_pos (by omega)]
      show (0 : Int) + g 0 = 0 + g ((0 : Nat) : Int)
      rfl
    have hL := ih (m / 2) (fun j => g (2 * j + 1)) (by omega) (by omega)
    have ev : lfv (d + 1) g (m : Int) = lfv d (fun j => g (2 * j + 1)) ((m / 2 : Nat) : Int) := by
      conv => lhs; unfold lfv
      rw [if_neg (by omega), show (m : Int) / 2 = ((m / 2 : Nat) : Int) by omega]
    rw [ev, sm_split g m (by omega), sm_split _ (m - 1) (by omega)]
    have e0 : lft (d + 1) g (m : Int) 0 = g 0 := by unfold lft; rw [if_pos rfl]
    rw [e0]
    rw [sm_ext (f := fun j => lft (d + 1) g (m : Int) (2 * j + 1)) (g := fun j => g (2 * j + 2)) ((m - 1) / 2) (fun x x0 xm => by
      show lft (d + 1) g (m : Int) (2 * x + 1) = _
      unfold lft
      rw [if_neg (by omega), if_pos (by omega), show 2 * x + 1 + 1 = 2 * x + 2 by omega])]
    rw [show (m - 1 - 1) / 2 = m / 2 - 1 by omega]
    rw [sm_ext (f := fun j => lft (d + 1) g (m : Int) (2 * j + 2)) (g := lft d (fun j => g (2 * j + 1)) ((m / 2 : Nat) : Int)) (m / 2 - 1) (fun x x0 xm => by
      show lft (d + 1) g (m : Int) (2 * x + 2) = _
      conv => lhs; unfold lft
      rw [if_neg (by omega), if_neg (by omega), show (2 * x + 2) / 2 - 1 = x by omega, show (m : Int) / 2 = ((m / 2 : Nat) : Int) by omega])]
    omega

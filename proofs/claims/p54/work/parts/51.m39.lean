-- MATH 39: counting nodes, the count itself
def oc (u G : Int → Int) (v : Int) (m : Nat) : Int := sm (fun z => if G z = 1 ∧ u z = v then 1 else 0) m
def on1 (_ : Int) : Int := 1
theorem sm_s (f : Int → Int) (m : Nat) : sm f (m + 1) = sm f m + f m := rfl
theorem sm_ext {f g : Int → Int} : ∀ m : Nat, (∀ x : Int, 0 ≤ x → x < m → f x = g x) → sm f m = sm g m := by
  intro m
  induction m with
  | zero => intro _; rfl
  | succ m ih =>
    intro h
    rw [sm_s, sm_s, ih (fun x a b => h x a (by omega)), h m (by omega) (by omega)]
theorem sm_add (f g : Int → Int) : ∀ m : Nat, sm (fun x => f x + g x) m = sm f m + sm g m := by
  intro m
  induction m with
  | zero => rfl
  | succ m ih => rw [sm_s, sm_s, sm_s, ih]; omega
theorem sm_pos {f : Int → Int} (hf : ∀ x, 0 ≤ f x) : ∀ m e : Nat, sm f m ≤ sm f (m + e) := by
  intro m e
  induction e with
  | zero => exact Int.le_refl _
  | succ e ih => rw [show m + (e + 1) = (m + e) + 1 by omega, sm_s]; have := hf ((m + e : Nat) : Int); omega
theorem sm_one {f : Int → Int} (hf : ∀ x, 0 ≤ f x ∧ f x ≤ 1) : ∀ m : Nat, 0 ≤ sm f m ∧ sm f m ≤ m := by
  intro m
  induction m with
  | zero => exact ⟨Int.le_refl _, Int.le_refl _⟩
  | succ m ih => rw [sm_s]; have := hf m; omega
theorem sm_nil : ∀ m : Nat, sm (fun _ => 0) m = 0 := by
  intro m
  induction m with
  | zero => rfl
  | succ m ih => rw [sm_s, ih]; rfl
theorem oc_s (u G : Int → Int) (v : Int) (m : Nat) : oc u G v (m + 1) = oc u G v m + (if G m = 1 ∧ u m = v then 1 else 0) := rfl
theorem oc_step (u G : Int → Int) (v : Int) {x : Int} (h : 0 ≤ x) : oc u G v (x + 1).toNat = oc u G v x.toNat + (if G x = 1 ∧ u x = v then 1 else 0) := sm_step _ h
theorem ind_rng (p : Prop) [Decidable p] : 0 ≤ (if p then (1 : Int) else 0) ∧ (if p then (1 : Int) else 0) ≤ 1 := by split <;> omega
theorem oc_rng (u G : Int → Int) (v : Int) (m : Nat) : 0 ≤ oc u G v m ∧ oc u G v m ≤ m := sm_one (fun x => ind_rng _) m
theorem oc_mono (u G : Int → Int) (v : Int) {a b : Nat} (h : a ≤ b) : oc u G v a ≤ oc u G v b := by
  rw [show b = a + (b - a) by omega]
  exact sm_pos (fun x => (ind_rng _).1) a (b - a)
theorem on_step (u : Int → Int) (v : Int) {x : Int} (h : 0 ≤ x) : oc u on1 v (x + 1).toNat = oc u on1 v x.toNat + (if u x = v then 1 else 0) := by
  rw [oc_step u on1 v h]
  by_cases q : u x = v
  · rw [if_pos q, if_pos ⟨rfl, q⟩]
  · rw [if_neg q, if_neg (fun e => q e.2)]
theorem on_s (u : Int → Int) (v : Int) (m : Nat) : oc u on1 v (m + 1) = oc u on1 v m + (if u m = v then 1 else 0) := by
  have := on_step u v (x := m) (by omega)
  rw [show ((m : Int) + 1).toNat = m + 1 by omega, show ((m : Int)).toNat = m by omega] at this
  exact this
/-- exactly one of a name stands first -/
theorem oc_first (u G : Int → Int) (v : Int) : ∀ m : Nat, sm (fun z => if G z = 1 ∧ oc u G (u z) z.toNat = 0 ∧ u z = v then 1 else 0) m = if 0 < oc u G v m then 1 else 0 := by
  intro m
  induction m with
  | zero => exact (if_neg (by show ¬ (0 : Int) < 0; omega)).symm
  | succ m ih =>
    have r := oc_rng u G v m
    rw [sm_s, ih, oc_s]
    rw [show ((m : Int)).toNat = m by omega]
    by_cases w : u m = v
    · rw [w]
      repeat' split
      all_goals omega
    · repeat' split
      all_goals omega
/-- so many names come a second time as first names come again -/
theorem oc_twice (u G : Int → Int) : ∀ m : Nat, sm (fun z => if G z = 1 ∧ oc u G (u z) z.toNat = 1 then 1 else 0) m = sm (fun z => if (G z = 1 ∧ oc u G (u z) z.toNat = 0) ∧ 1 < oc u G (u z) m then 1 else 0) m := by
  intro m
  induction m with
  | zero => rfl
  | succ m ih =>
    rw [sm_s, ih, sm_s]
    rw [show ((m : Int)).toNat = m by omega]
    have key : sm (fun z => if (G z = 1 ∧ oc u G (u z) z.toNat = 0) ∧ 1 < oc u G (u z) (m + 1) then (1 : Int) else 0) m = sm (fun z => if (G z = 1 ∧ oc u G (u z) z.toNat = 0) ∧ 1 < oc u G (u z) m then (1 : Int) else 0) m + sm (fun z => if G m = 1 ∧ oc u G (u m) m = 1 then (if G z = 1 ∧ oc u G (u z) z.toNat = 0 ∧ u z = u m then 1 else 0) else 0) m := by
      rw [← sm_add]
      refine sm_ext m (fun z z0 zm => ?_)
      have r := oc_rng u G (u z) m
      rw [oc_s]
      by_cases w : u z = u m
      · rw [w] at *
        repeat' split
        all_goals omega
      · repeat' split
        all_goals omega
    have r := oc_rng u G (u m) m
    rw [key, oc_s]
    by_cases q : G m = 1 ∧ oc u G (u m) m = 1
    · have e : sm (fun z => if G m = 1 ∧ oc u G (u m) m = 1 then (if G z = 1 ∧ oc u G (u z) z.toNat = 0 ∧ u z = u m then (1 : Int) else 0) else 0) m = sm (fun z => if G z = 1 ∧ oc u G (u z) z.toNat = 0 ∧ u z = u m then 1 else 0) m := sm_ext m (fun z _ _ => by rw [if_pos q])
      rw [e, oc_first]
      repeat' split
      all_goals omega
    · have e : sm (fun z => if G m = 1 ∧ oc u G (u m) m = 1 then (if G z = 1 ∧ oc u G (u z) z.toNat = 0 ∧ u z = u m then (1 : Int) else 0) else 0) m = sm (fun _ => 0) m := sm_ext m (fun z _ _ => by rw [if_neg q])
      rw [e, sm_nil]
      repeat' split
      all_goals omega
/-- two rows: distinct names of one in the other, counted from either side -/
theorem oc_both (f g : Int → Int) (m : Nat) : ∀ n : Nat, sm (fun y => if oc g on1 (g y) y.toNat = 0 ∧ 0 < oc f on1 (g y) n then 1 else 0) m = sm (fun x => if oc f on1 (f x) x.toNat = 0 ∧ 0 < oc g on1 (f x) m then 1 else 0) n := by
  intro n
  induction n with
  | zero =>
    refine (sm_ext m (fun y _ _ => ?_)).trans (sm_nil m)
    have e : oc f on1 (g y) 0 = 0 := rfl
    rw [e]
    exact if_neg (by omega)
  | succ n ih =>
    rw [sm_s, ← ih]
    rw [show ((n : Int)).toNat = n by omega]
    have key : sm (fun y => if oc g on1 (g y) y.toNat = 0 ∧ 0 < oc f on1 (g y) (n + 1) then (1 : Int) else 0) m = sm (fun y => if oc g on1 (g y) y.toNat = 0 ∧ 0 < oc f on1 (g y) n then (1 : Int) else 0) m + sm (fun y => if oc f on1 (f n) n = 0 then (if on1 y = 1 ∧ oc g on1 (g y) y.toNat = 0 ∧ g y = f n then 1 else 0) else 0) m := by
      rw [← sm_add]
      refine sm_ext m (fun y _ _ => ?_)
      have r := oc_rng f on1 (g y) n
      have o1 : on1 y = 1 := rfl
      rw [on_s]
      by_cases w : g y = f n
      · rw [w] at *
        repeat' split
        all_goals omega
      · repeat' split
        all_goals omega
    rw [key]
    by_cases q : oc f on1 (f n) n = 0
    · have e : sm (fun y => if oc f on1 (f n) n = 0 then (if on1 y = 1 ∧ oc g on1 (g y) y.toNat = 0 ∧ g y = f n then (1 : Int) else 0) else 0) m = sm (fun y => if on1 y = 1 ∧ oc g on1 (g y) y.toNat = 0 ∧ g y = f n then 1 else 0) m := sm_ext m (fun z _ _ => by rw [if_pos q])
      rw [e, oc_first]
      repeat' split
      all_goals omega
    · have e : sm (fun y => if oc f on1 (f n) n = 0 then (if on1 y = 1 ∧ oc g on1 (g y) y.toNat = 0 ∧ g y = f n then (1 : Int) else 0) else 0) m = sm (fun _ => 0) m := sm_ext m (fun z _ _ => by rw [if_neg q])
      rw [e, sm_nil]
      repeat' split
      all_goals omega

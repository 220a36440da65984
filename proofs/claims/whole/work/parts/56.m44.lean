-- MATH 44: sorts: both rows are the one row that is in order
def cl (f : Int → Int) (v : Int) (n : Nat) : Int := sm (fun z => if f z < v then 1 else 0) n
def ct (f : Int → Int) (v : Int) (n : Nat) : Int := sm (fun z => if f z = v then 1 else 0) n
theorem cl_rng (f : Int → Int) (v : Int) (n : Nat) : 0 ≤ cl f v n ∧ cl f v n ≤ n := sm_one (fun z => ind_rng _) n
theorem ct_rng (f : Int → Int) (v : Int) (n : Nat) : 0 ≤ ct f v n ∧ ct f v n ≤ n := sm_one (fun z => ind_rng _) n
theorem cl_up (f : Int → Int) (v : Int) (n : Nat) : cl f (v + 1) n = cl f v n + ct f v n := by
  unfold cl ct
  rw [← sm_add]
  refine sm_ext n (fun z _ _ => ?_)
  repeat' split
  all_goals omega
theorem sm_le {f g : Int → Int} : ∀ m : Nat, (∀ x : Int, 0 ≤ x → x < m → f x ≤ g x) → sm f m ≤ sm g m := by
  intro m
  induction m with
  | zero => intro _; exact Int.le_refl _
  | succ m ih =>
    intro h
    have := ih (fun x a b => h x a (by omega))
    have := h m (by omega) (by omega)
    rw [sm_s, sm_s]; omega
theorem cl_mono (f : Int → Int) {v w : Int} (h : v ≤ w) (n : Nat) : cl f v n ≤ cl f w n := sm_le n (fun x _ _ => by
  repeat' split
  all_goals omega)
theorem sm_all : ∀ m : Nat, sm (fun _ => 1) m = m := by
  intro m
  induction m with
  | zero => rfl
  | succ m ih => rw [sm_s, ih]; omega
theorem cl_all {f : Int → Int} {v : Int} {n : Nat} (h : ∀ x : Int, 0 ≤ x → x < n → f x < v) : cl f v n = n :=
  (sm_ext n (fun x a b => if_pos (h x a b))).trans (sm_all n)
theorem cl_none {f : Int → Int} {v : Int} {n : Nat} (h : ∀ x : Int, 0 ≤ x → x < n → v ≤ f x) : cl f v n = 0 :=
  (sm_ext n (fun x a b => if_neg (by have := h x a b; omega))).trans (sm_nil n)
/-- what stands at a place of the row in order -/
def At (f : Int → Int) (n : Nat) (z w : Int) : Prop := cl f w n ≤ z ∧ z < cl f (w + 1) n
theorem At.one {f : Int → Int} {n : Nat} {z w w' : Int} (h : At f n z w) (k : At f n z w') : w = w' := by
  unfold At at h k
  by_cases a : w < w'
  · have := cl_mono f (v := w + 1) (w := w') (by omega) n
    omega
  · by_cases b : w' < w
    · have := cl_mono f (v := w' + 1) (w := w) (by omega) n
      omega
    · omega
theorem At.srt {f : Int → Int} {n : Nat} (h : ∀ a b : Int, 0 ≤ a → a < b → b < n → f a ≤ f b) {z : Int} (hz : 0 ≤ z ∧ z < n) : At f n z (f z) := by
  have e : n = z.toNat + (n - z.toNat) := by omega
  constructor
  · have c : cl f (f z) n = cl f (f z) z.toNat := by
      rw [e]
      exact sm_cut _ (fun x p q => if_neg (by
        by_cases w : x = z
        · rw [w]; omega
        · have := h z x hz.1 (by omega) (by omega)
          omega))
    have := cl_rng f (f z) z.toNat
    omega
  · have c : cl f (f z + 1) (z.toNat + 1) = ((z.toNat + 1 : Nat) : Int) := cl_all (fun x p q => by
      by_cases w : x = z
      · rw [w]; omega
      · have := h x z p (by omega) hz.2
        omega)
    have m := sm_pos (f := fun x => if f x < f z + 1 then (1 : Int) else 0) (fun x => (ind_rng _).1) (z.toNat + 1) (n - (z.toNat + 1))
    rw [show z.toNat + 1 + (n - (z.toNat + 1)) = n by omega] at m
    have c' : sm (fun x => if f x < f z + 1 then (1 : Int) else 0) (z.toNat + 1) = ((z.toNat + 1 : Nat) : Int) := c
    rw [c'] at m
    show z < sm (fun x => if f x < f z + 1 then (1 : Int) else 0) n
    omega
-- E: tally
theorem fillT_loop (σ : St) : ∀ (m : Nat) (σ1 : St) (x : Int), 0 ≤ x → x ≤ 1999 → 1999 - x < m → Fr [29] σ σ1 → (∀ z, 0 ≤ z → z < x → σ1 29 z = 0) → ∃ σ2, Jarr_fill_tally_L5 0 m σ1 x = some (0, σ2) ∧ Fr [29] σ σ2 ∧ ∀ z, 0 ≤ z → z < 1999 → σ2 29 z = 0 := by
  intro m
  induction m with
  | zero => intro σ1 x h0 hxn hm; exfalso; omega
  | succ m ih =>
    intro σ1 x h0 hxn hm hF hz
    unfold Jarr_fill_tally_L5
    by_cases hx : x < 1999
    · simp (disch := omega) only [ite_y, wr_eq, oadd_eq]
      refine ih _ (x + 1) (by omega) (by omega) (by omega) (hF.us (by decide)) (fun z h1 h2 => ?_)
      by_cases hzx : z = x
      · rw [hzx, us_eq]
      · rw [us_ni hzx]; exact hz z h1 (by omega)
    · simp (disch := omega) only [ite_n]
      exact ⟨σ1, rfl, hF, fun z h1 h2 => hz z h1 (by omega)⟩
theorem tally_loop {K : St → Option (Int × St)} {n : Int} {f : Int → Int} (hn : 0 ≤ n ∧ n ≤ 255) (hf : ∀ x, 0 ≤ x → x < n → -999 ≤ f x ∧ f x ≤ 999) : ∀ (r m : Nat) (s : St) (x : Int), x + r = n → 0 ≤ x → r < m → (∀ z, 0 ≤ z → z < n → s 26 z = f z) → (∀ j, 0 ≤ j → j < 1999 → s 29 j = ct f (j - 999) x.toNat) →
    ∃ s2, E_sortInto_L10 K n m s x = K s2 ∧ Fr [29] s s2 ∧ ∀ j, 0 ≤ j → j < 1999 → s2 29 j = ct f (j - 999) n.toNat := by
  intro r
  induction r with
  | zero =>
    intro m s x h1 h0 h2 h26 hT
    cases m with
    | zero => omega
    | succ m =>
    have e : x = n := by omega
    rw [e] at hT
    refine ⟨s, ?_, Fr.rf _ _, hT⟩
    unfold E_sortInto_L10
    rw [if_neg (by omega)]
  | succ r ih =>
    intro m s x h1 h0 h2 h26 hT
    cases m with
    | zero => omega
    | succ m =>
    have fx := hf x h0 (by omega)
    have e26 := h26 x h0 (by omega)
    have tx := hT (f x + 999) (by omega) (by omega)
    have tr := ct_rng f (f x + 999 - 999) x.toNat
    obtain ⟨s2, e2, f2, t2⟩ := ih m (us s 29 (f x + 999) (s 29 (f x + 999) + 1)) (x + 1) (by omega) (by omega) (by omega) (fun z a b => by rw [us_ne (by decide)]; exact h26 z a b) (fun j j0 j1 => by
      have st : ct f (j - 999) (x + 1).toNat = ct f (j - 999) x.toNat + if f x = j - 999 then 1 else 0 := sm_step _ h0
      rw [st]
      by_cases q : j = f x + 999
      · rw [q, us_eq, if_pos (by omega), tx]
      · rw [us_ni q, if_neg (by omega), Int.add_zero]; exact hT j j0 j1)
    refine ⟨s2, ?_, ((Fr.rf [29] s).us (by decide)).tr f2, t2⟩
    unfold E_sortInto_L10
    rw [if_pos (by omega), rd_eq (by omega), e26, oadd_eq (by omega), rd_eq (by omega), oadd_eq (by omega), wr_eq (by omega), oadd_eq (by omega)]
    exact e2
theorem lay_loop {K : St → Int → Option (Int × St)} {j : Int} (hj : 0 ≤ j ∧ j < 1999) : ∀ (r m : Nat) (s : St) (x : Int), 0 ≤ x → x + r ≤ 255 → r < m →
    ∃ s2, E_sortInto_L61 K j m s x r = K s2 (x + r) ∧ Fr [28] s s2 ∧ (∀ z, z < x → s2 28 z = s 28 z) ∧ ∀ z, x ≤ z → z < x + r → s2 28 z = j - 999 := by
  intro r
  induction r with
  | zero =>
    intro m s x h0 h1 h2
    cases m with
    | zero => omega
    | succ m =>
    refine ⟨s, ?_, Fr.rf _ _, fun z _ => rfl, fun z a b => by omega⟩
    unfold E_sortInto_L61
    rw [if_neg (by omega)]
    rw [show x + ((0 : Nat) : Int) = x by omega]
  | succ r ih =>
    intro m s x h0 h1 h2
    cases m with
    | zero => omega
    | succ m =>
    obtain ⟨s2, e2, f2, a2, b2⟩ := ih m (us s 28 x (j - 999)) (x + 1) (by omega) (by omega) (by omega)
    refine ⟨s2, ?_, ((Fr.rf [28] s).us (by decide)).tr f2, fun z hz => ?_, fun z ha hb => ?_⟩
    · unfold E_sortInto_L61
      rw [if_pos (by omega), osub_eq (by omega), wr_eq (by omega), oadd_eq (by omega), oadd_eq (by omega)]
      rw [show ((r + 1 : Nat) : Int) + -1 = r by omega, show x + ((r + 1 : Nat) : Int) = x + 1 + r by omega]
      exact e2
    · rw [a2 z (by omega), us_ni (by omega)]
    · by_cases q : z = x
      · rw [a2 z (by omega), q, us_eq]
      · exact b2 z (by omega) (by omega)
theorem outE_loop {n : Int} {f : Int → Int} (hn : 0 ≤ n ∧ n ≤ 255) (hf : ∀ x, 0 ≤ x → x < n → -999 ≤ f x ∧ f x ≤ 999) : ∀ (r m : Nat) (s : St) (x j : Int), j + r = 1999 → 0 ≤ j → r < m → x = cl f (j - 999) n.toNat → (∀ i, 0 ≤ i → i < 1999 → s 29 i = ct f (i - 999) n.toNat) → (∀ z, 0 ≤ z → z < x → (-999 ≤ s 28 z ∧ s 28 z ≤ 999) ∧ At f n.toNat z (s 28 z)) →
    ∃ s2, E_sortInto_L44 m s x j = some (0, s2) ∧ Fr [28] s s2 ∧ ∀ z, 0 ≤ z → z < n → (-999 ≤ s2 28 z ∧ s2 28 z ≤ 999) ∧ At f n.toNat z (s2 28 z) := by
  intro r
  induction r with
  | zero =>
    intro m s x j h1 h0 h2 hx hT hz
    cases m with
    | zero => omega
    | succ m =>
    have e : j = 1999 := by omega
    have c : cl f (j - 999) n.toNat = ((n.toNat : Nat) : Int) := cl_all (fun x a b => by have := hf x a (by omega); omega)
    refine ⟨s, ?_, Fr.rf _ _, fun z a b => hz z a (by omega)⟩
    unfold E_sortInto_L44
    rw [if_neg (by omega)]
  | succ r ih =>
    intro m s x j h1 h0 h2 hx hT hz
    cases m with
    | zero => omega
    | succ m =>
    have tj := hT j h0 (by omega)
    have cr := ct_rng f (j - 999) n.toNat
    have c0 := cl_rng f (j - 999) n.toNat
    have up := cl_up f (j - 999) n.toNat
    have c1 := cl_rng f (j - 999 + 1) n.toNat
    obtain ⟨K, hK⟩ : ∃ K : St → Int → Option (Int × St), K = fun (s10 : St) (x11 : Int) => oadd j 1 fun v13 => E_sortInto_L44 m s10 x11 v13 := ⟨_, rfl⟩
    obtain ⟨s1, e1, f1, a1, b1⟩ := lay_loop (K := K) (j := j) (by omega) (ct f (j - 999) n.toNat).toNat FU s x (by omega) (by omega) (by unfold FU; omega)
    rw [show (((ct f (j - 999) n.toNat).toNat : Nat) : Int) = ct f (j - 999) n.toNat by omega] at e1 b1
    obtain ⟨s2, e2, f2, z2⟩ := ih m s1 (x + ct f (j - 999) n.toNat) (j + 1) (by omega) (by omega) (by omega) (by rw [show j + 1 - 999 = j - 999 + 1 by omega]; omega) (fun i i0 i1 => by rw [f1 29 (by decide)]; exact hT i i0 i1) (fun z a b => by
      by_cases q : z < x
      · rw [a1 z q]; exact hz z a q
      · rw [b1 z (by omega) b]
        exact ⟨by omega, by unfold At; omega⟩)
    refine ⟨s2, ?_, f1.tr f2, z2⟩
    unfold E_sortInto_L44
    rw [if_pos (by omega), rd_eq (by omega), tj, ← hK, jn_eq]
    refine e1.trans ?_
    rw [hK]
    dsimp only
    rw [oadd_eq (by omega)]
    exact e2
theorem sortInto_ex {s : St} {n : Int} (hn : 0 ≤ n ∧ n ≤ 255) (hf : ∀ x, 0 ≤ x → x < n → -999 ≤ s 26 x ∧ s 26 x ≤ 999) :
    ∃ s2, E_sortInto s n = some (0, s2) ∧ Fr [28, 29] s s2 ∧ ∀ z, 0 ≤ z → z < n → (-999 ≤ s2 28 z ∧ s2 28 z ≤ 999) ∧ At (s 26) n.toNat z (s2 28 z) := by
  obtain ⟨sa, ea, fa', ga⟩ := fillT_loop s FU s 0 (by omega) (by omega) (by unfold FU; omega) (Fr.rf _ _) (fun z h1 h2 => by omega)
  obtain ⟨K, hK⟩ : ∃ K : St → Option (Int × St), K = fun (s3 : St) => E_sortInto_L44 FU s3 0 0 := ⟨_, rfl⟩
  obtain ⟨sb, eb, fb', gb⟩ := tally_loop (K := K) hn hf n.toNat FU sa 0 (by omega) (by omega) (by unfold FU; omega) (fun z a b => by rw [fa' 26 (by decide)]) (fun j j0 j1 => ga j j0 j1)
  obtain ⟨sc, ec, fc', gc⟩ := outE_loop hn hf 1999 FU sb 0 0 (by omega) (by omega) (by unfold FU; omega) (cl_none (fun x a b => by have := hf x a (by omega); omega)).symm gb (fun z a b => by omega)
  refine ⟨sc, ?_, (fa'.mono (by decide)).tr ((fb'.mono (by decide)).tr (fc'.mono (by decide))), gc⟩
  unfold E_sortInto Jarr_fill_tally
  rw [ea, bnd_eq, ← hK, jn_eq]
  refine eb.trans ?_
  rw [hK]
  exact ec
-- the reference
def r7 (t : St) (c : Int) : Int := t 1 (256 * 7 + c)
theorem num7 {t : St} {c : Int} (h : 0 ≤ c ∧ c < 256) : M_number t 7 c = some (r7 t c) := M_number_eq (by omega) h
theorem sm_set {f : Int → Int} {c a : Int} : ∀ m : Nat, 0 ≤ c → c < m → sm (fun x => if x = c then a else f x) m = sm f m + a - f c := by
  intro m
  induction m with
  | zero => intro h1 h2; omega
  | succ m ih =>
    intro h1 h2
    rw [sm_s, sm_s]
    by_cases q : (m : Int) = c
    · rw [if_pos q, sm_ext (f := fun x => if x = c then a else f x) (g := f) m (fun x p w => if_neg (by omega)), q]; omega
    · rw [if_neg q, ih h1 (by omega)]; omega
theorem cl_set {f : Int → Int} {c a v : Int} {m : Nat} (h : 0 ≤ c ∧ c < m) : cl (fun x => if x = c then a else f x) v m = cl f v m + (if a < v then 1 else 0) - (if f c < v then 1 else 0) := by
  refine Eq.trans (sm_ext m (fun x _ _ => ?_)) (sm_set (f := fun z => if f z < v then (1 : Int) else 0) (c := c) (a := if a < v then 1 else 0) m h.1 h.2)
  show (if (if x = c then a else f x) < v then (1 : Int) else 0) = (if x = c then (if a < v then 1 else 0) else (if f x < v then 1 else 0))
  by_cases q : x = c
  · rw [if_pos q, if_pos q]
  · rw [if_neg q, if_neg q]
theorem holeM_loop {K : St → Int → Option (Int × St)} {v x : Int} {f : Int → Int} {n : Nat} (hx : 0 ≤ x ∧ x < n) (hn : n ≤ 255) (τ : St) : ∀ (r m : Nat) (t : St) (j : Int), j ≤ r → 0 ≤ j → j ≤ x → r < m → Fr [1] τ t → Rws [7] τ t → (∀ w, cl (fun c => if c = j then v else r7 t c) w n = cl f w n) → (∀ a b, 0 ≤ a → a < b → b ≤ x → ¬ a = j → ¬ b = j → r7 t a ≤ r7 t b) → (∀ b, j < b → b ≤ x → v ≤ r7 t b) →
    ∃ t2 j2, M_sorts_L51 K v m t j = K t2 j2 ∧ Fr [1] τ t2 ∧ Rws [7] τ t2 ∧ 0 ≤ j2 ∧ j2 ≤ x ∧ (∀ w, cl (fun c => if c = j2 then v else r7 t2 c) w n = cl f w n) ∧ ∀ a b, 0 ≤ a → a < b → b ≤ x → (if a = j2 then v else r7 t2 a) ≤ (if b = j2 then v else r7 t2 b) := by
  intro r
  induction r with
  | zero =>
    intro m t j h1 h0 hjx h2 hF hR hA hS hT
    cases m with
    | zero => omega
    | succ m =>
    refine ⟨t, j, ?_, hF, hR, h0, hjx, hA, fun a b p q w => ?_⟩
    · unfold M_sorts_L51
      rw [if_neg (by omega)]
    · by_cases e : a = j
      · rw [if_pos e, if_neg (by omega)]; exact hT b (by omega) w
      · rw [if_neg e, if_neg (by omega)]; exact hS a b p q w e (by omega)
  | succ r ih =>
    intro m t j h1 h0 hjx h2 hF hR hA hS hT
    cases m with
    | zero => omega
    | succ m =>
    by_cases z : 0 < j
    · by_cases q : v < r7 t (j - 1)
      · obtain ⟨t1, ht1⟩ : ∃ t1, t1 = us t 1 (256 * 7 + j) (r7 t (j - 1)) := ⟨_, rfl⟩
        have e7 : ∀ c, r7 t1 c = if c = j then r7 t (j - 1) else r7 t c := fun c => by
          rw [ht1]
          unfold r7
          by_cases e : c = j
          · rw [if_pos e, e, us_eq]
          · rw [if_neg e, us_ni (by omega)]
        have R1 : Rws [7] t t1 := by
          rw [ht1]
          exact ⟨fun q9 hq => ⟨us_ni (by have := hq 7 (by decide); omega), us_ne (by decide)⟩, fun p _ => us_ne (by decide)⟩
        obtain ⟨t2, j2, e2, x2⟩ := ih m t1 (j - 1) (by omega) (by omega) (by omega) (by omega) (hF.tr (by rw [ht1]; exact (Fr.rf [1] t).us (by decide))) (hR.tr R1) (fun w => by
          rw [← hA w, cl_set (f := r7 t1) (c := j - 1) (a := v) (by omega), cl_set (f := r7 t) (c := j) (a := v) (by omega)]
          have e9 : cl (r7 t1) w n = cl (fun c => if c = j then r7 t (j - 1) else r7 t c) w n := by
            rw [show r7 t1 = fun c => if c = j then r7 t (j - 1) else r7 t c from funext e7]
          rw [e9, cl_set (f := r7 t) (c := j) (a := r7 t (j - 1)) (by omega), e7 (j - 1), if_neg (c := j - 1 = j) (by omega)]
          omega) (fun a b p p2 p3 na nb => by
          rw [e7, e7]
          by_cases ea : a = j
          · rw [if_pos ea, if_neg (by omega)]
            exact hS (j - 1) b (by omega) (by omega) p3 (by omega) (by omega)
          · rw [if_neg ea]
            by_cases eb : b = j
            · rw [if_pos eb]; exact hS a (j - 1) p (by omega) (by omega) ea (by omega)
            · rw [if_neg eb]; exact hS a b p p2 p3 ea eb) (fun b p p2 => by
          rw [e7]
          by_cases eb : b = j
          · rw [if_pos eb]; omega
          · rw [if_neg eb]; exact hT b (by omega) p2)
        refine ⟨t2, j2, ?_, x2.1, x2.2.1, x2.2.2.1, by omega, x2.2.2.2.2.1, x2.2.2.2.2.2⟩
        unfold M_sorts_L51
        rw [if_pos z, osub_eq (by omega), num7 (by omega), bndp_eq, if_pos q, oadd_eq (by omega), osub_eq (by omega), num7 (by omega), bndp_eq, wr_eq (by omega), oadd_eq (by omega)]
        rw [show (1792 : Int) + j = 256 * 7 + j by omega, ← ht1, show j + -1 = j - 1 by omega]
        exact e2
      · refine ⟨t, j, ?_, hF, hR, h0, hjx, hA, fun a b p p2 p3 => ?_⟩
        · unfold M_sorts_L51
          rw [if_pos z, osub_eq (by omega), num7 (by omega), bndp_eq, if_neg q]
        · by_cases ea : a = j
          · rw [if_pos ea, if_neg (by omega)]; exact hT b (by omega) p3
          · rw [if_neg ea]
            by_cases eb : b = j
            · rw [if_pos eb]
              by_cases e1 : a = j - 1
              · rw [e1]; omega
              · have := hS a (j - 1) p (by omega) (by omega) ea (by omega)
                omega
            · rw [if_neg eb]; exact hS a b p p2 p3 ea eb
    · refine ⟨t, j, ?_, hF, hR, h0, hjx, hA, fun a b p p2 p3 => ?_⟩
      · unfold M_sorts_L51
        rw [if_neg z]
      · by_cases e : a = j
        · rw [if_pos e, if_neg (by omega)]; exact hT b (by omega) p3
        · rw [if_neg e, if_neg (by omega)]; exact hS a b p p2 p3 e (by omega)
theorem sortM_loop {K : St → Option (Int × St)} {f : Int → Int} {n : Int} (hn : 0 ≤ n ∧ n ≤ 255) {τ : St} (h7 : τ 3 7 = n) : ∀ (r m : Nat) (t : St) (x : Int), (n - x ≤ r) → 1 ≤ x → r < m → Fr [1] τ t → Rws [7] τ t → (∀ w, cl (r7 t) w n.toNat = cl f w n.toNat) → (∀ a b, 0 ≤ a → a < b → b < x → b < n → r7 t a ≤ r7 t b) →
    ∃ t2, M_sorts_L28 K m t x = K t2 ∧ Fr [1] τ t2 ∧ Rws [7] τ t2 ∧ ∀ z, 0 ≤ z → z < n → At f n.toNat z (r7 t2 z) := by
  have stop : ∀ (t : St), (∀ w, cl (r7 t) w n.toNat = cl f w n.toNat) → (∀ a b, 0 ≤ a → a < b → b < n → r7 t a ≤ r7 t b) → ∀ z, 0 ≤ z → z < n → At f n.toNat z (r7 t z) := fun t hA hS z a b => by
    have := At.srt (f := r7 t) (n := n.toNat) (fun p q p0 pq qn => hS p q p0 pq (by omega)) (z := z) (by omega)
    unfold At at *
    rw [hA, hA] at this
    exact this
  intro r
  induction r with
  | zero =>
    intro m t x h1 h0 h2 hF hR hA hS
    cases m with
    | zero => omega
    | succ m =>
    refine ⟨t, ?_, hF, hR, stop t hA (fun a b p q w => hS a b p q (by omega) w)⟩
    unfold M_sorts_L28
    rw [rd_eq (by omega), hF 3 (by decide), h7, if_neg (by omega)]
  | succ r ih =>
    intro m t x h1 h0 h2 hF hR hA hS
    cases m with
    | zero => omega
    | succ m =>
    by_cases q : x < n
    · obtain ⟨K2, hK2⟩ : ∃ K2 : St → Int → Option (Int × St), K2 = fun (s29 : St) (x30 : Int) => oadd 1792 x30 fun v32 => wr s29 1 2560 v32 (r7 t x) fun s33 => oadd x 1 fun v34 => M_sorts_L28 K m s33 v34 := ⟨_, rfl⟩
      obtain ⟨t1, j, e1, f1, r1, j0, jx, a1, s1⟩ := holeM_loop (K := K2) (v := r7 t x) (x := x) (f := f) (n := n.toNat) (by omega) (by omega) τ x.toNat FU t x (by omega) (by omega) (by omega) (by unfold FU; omega) hF hR (fun w => by
        rw [show (fun c => if c = x then r7 t x else r7 t c) = r7 t from funext (fun c => by
          by_cases e : c = x
          · rw [if_pos e, e]
          · rw [if_neg e])]
        exact hA w) (fun a b p p2 p3 na nb => hS a b p p2 (by omega) (by omega)) (fun b p p2 => by omega)
      obtain ⟨t2, ht2⟩ : ∃ t2, t2 = us t1 1 (256 * 7 + j) (r7 t x) := ⟨_, rfl⟩
      have e7 : r7 t2 = fun c => if c = j then r7 t x else r7 t1 c := funext (fun c => by
        rw [ht2]
        unfold r7
        by_cases e : c = j
        · rw [if_pos e, e, us_eq]
        · rw [if_neg e, us_ni (by omega)])
      have R1 : Rws [7] t1 t2 := by
        rw [ht2]
        exact ⟨fun q9 hq => ⟨us_ni (by have := hq 7 (by decide); omega), us_ne (by decide)⟩, fun p _ => us_ne (by decide)⟩
      obtain ⟨t3, e3, x3⟩ := ih m t2 (x + 1) (by omega) (by omega) (by omega) (f1.tr (by rw [ht2]; exact (Fr.rf [1] t1).us (by decide))) (r1.tr R1) (fun w => by rw [e7]; exact a1 w) (fun a b p p2 p3 p4 => by
        rw [e7]; exact s1 a b p p2 (by omega))
      refine ⟨t3, ?_, x3⟩
      unfold M_sorts_L28
      rw [rd_eq (by omega), hF 3 (by decide), h7, if_pos q, num7 (by omega), bndp_eq, ← hK2, jn_eq]
      refine e1.trans ?_
      rw [hK2]
      dsimp only
      rw [oadd_eq (by omega), wr_eq (by omega), oadd_eq (by omega)]
      rw [show (1792 : Int) + j = 256 * 7 + j by omega, ← ht2]
      exact e3
    · refine ⟨t, ?_, hF, hR, stop t hA (fun a b p p2 w => hS a b p p2 (by omega) w)⟩
      unfold M_sorts_L28
      rw [rd_eq (by omega), hF 3 (by decide), h7, if_neg q]
theorem moved_loop {K1 K2 : Int → Option (Int × St)} {n : Int} (hn : 0 ≤ n ∧ n ≤ 255) {s t : St} (h7 : t 3 7 = n) (h : ∀ x, 0 ≤ x → x < n → s 28 x = r7 t x ∧ s 26 x = t 1 (256 * 6 + x)) : ∀ (r m1 m2 : Nat) (c x : Int), x + r = n → 0 ≤ x → r < m1 → r < m2 → 0 ≤ c → c ≤ x →
    ∃ c2, E_sorts_L52 K1 s n m1 c x = K1 c2 ∧ M_sorts_L122 K2 t m2 c x = K2 c2 ∧ 0 ≤ c2 ∧ c2 ≤ n := by
  intro r
  induction r with
  | zero =>
    intro m1 m2 c x h1 h0 h2 h3 hc hcx
    cases m1 with
    | zero => omega
    | succ m1 =>
    cases m2 with
    | zero => omega
    | succ m2 =>
    refine ⟨c, ?_, ?_, hc, by omega⟩
    · unfold E_sorts_L52
      rw [if_neg (by omega)]
    · unfold M_sorts_L122
      rw [rd_eq (by omega), h7, if_neg (by omega)]
  | succ r ih =>
    intro m1 m2 c x h1 h0 h2 h3 hc hcx
    cases m1 with
    | zero => omega
    | succ m1 =>
    cases m2 with
    | zero => omega
    | succ m2 =>
    have hh9 := h x h0 (by omega)
    have n6 : M_number t 6 x = some (t 1 (256 * 6 + x)) := M_number_eq (by omega) (by omega)
    by_cases q : r7 t x = t 1 (256 * 6 + x)
    · obtain ⟨c2, y1, y2, y3⟩ := ih m1 m2 (c + 0) (x + 1) (by omega) (by omega) (by omega) (by omega) (by omega) (by omega)
      refine ⟨c2, ?_, ?_, y3⟩
      · unfold E_sorts_L52
        rw [if_pos (by omega), rd_eq (by omega), rd_eq (by omega), hh9.1, hh9.2, oif_t q (by omega), oadd_eq (by omega), oadd_eq (by omega)]
        exact y1
      · unfold M_sorts_L122
        rw [rd_eq (by omega), h7, if_pos (by omega), num7 (by omega), bndp_eq, n6, bndp_eq, oif_t q (by omega), oadd_eq (by omega), oadd_eq (by omega)]
        exact y2
    · obtain ⟨c2, y1, y2, y3⟩ := ih m1 m2 (c + 1) (x + 1) (by omega) (by omega) (by omega) (by omega) (by omega) (by omega)
      refine ⟨c2, ?_, ?_, y3⟩
      · unfold E_sorts_L52
        rw [if_pos (by omega), rd_eq (by omega), rd_eq (by omega), hh9.1, hh9.2, oif_f q (by omega), oadd_eq (by omega), oadd_eq (by omega)]
        exact y1
      · unfold M_sorts_L122
        rw [rd_eq (by omega), h7, if_pos (by omega), num7 (by omega), bndp_eq, n6, bndp_eq, oif_f q (by omega), oadd_eq (by omega), oadd_eq (by omega)]
        exact y2
theorem call_sorts : HS_26 SS := by
  intro k σ τ z0 z1 hk hR hR9 hS i0 i1
  have hS0 := hS
  obtain ⟨⟨ρ, hW⟩, hT, hr, hn, hm⟩ := hS
  by_cases a : 0 ≤ z0 ∧ z0 < 6
  · have hP := hW.2.2 z0 a.1 a.2
    have s0 := hP.2.1
    have n0 := hP.1
    by_cases b : 0 ≤ z1 ∧ z1 < 6
    · obtain ⟨sa, e1, f1, c1⟩ := read_one_eq σ (σ 24 z0) (σ 25 z0) n0
      have hu : ∀ x, 0 ≤ x → x < σ 25 z0 → sa 26 x = τ 1 (256 * z0 + x) ∧ -999 ≤ τ 1 (256 * z0 + x) ∧ τ 1 (256 * z0 + x) ≤ 999 := fun x p q => by
        rw [c1 x p q]; exact hP.num ⟨p, q⟩
      obtain ⟨sb, e2, f2, c2⟩ := sortInto_ex (s := sa) n0 (fun x p q => by have := hu x p q; omega)
      obtain ⟨ta, d1, g1, r1, t6, t7, q6, q7⟩ := asks_ex (us τ 33 0 0) z0 a (by rw [us_ne (by decide)]; omega)
      rw [us_ne (by decide), s0] at t6 t7 q6 q7
      have u1 : us τ 33 0 0 1 = τ 1 := us_f (by decide)
      rw [u1] at q6 q7
      obtain ⟨K2, hK2⟩ : ∃ K2 : St → Option (Int × St), K2 = fun (s6 : St) => jn (fun (x8 : Int) => pf s6 32 0 fun s10 => bnd (M_tell s10 x8) fun _ s12 => bnd (M_builds s12 z1) fun v13 s14 => some (v13, s14)) fun k9 => M_sorts_L122 k9 s6 FU 0 0 := ⟨_, rfl⟩
      have ef : ∀ w, cl (r7 ta) w (σ 25 z0).toNat = cl (sa 26) w (σ 25 z0).toNat := fun w => sm_ext _ (fun x x0 xn => by
        have h1 := (q7 x x0 (by omega)).1
        have h2 := (hu x x0 (by omega)).1
        unfold r7
        rw [h1, h2])
      obtain ⟨tb, d2, g2, r2, q2⟩ := sortM_loop (K := K2) (f := sa 26) n0 t7 255 FU ta 1 (by omega) (by omega) (by unfold FU; omega) (Fr.rf _ _) (Rws.rf _ _) ef (fun p q p0 pq q1 => by omega)
      have eq7 : ∀ x, 0 ≤ x → x < σ 25 z0 → sb 28 x = r7 tb x ∧ sb 26 x = tb 1 (256 * 6 + x) := fun x x0 xn => by
        refine ⟨(c2 x x0 xn).2.one (q2 x x0 xn), ?_⟩
        rw [f2 26 (by decide), (hu x x0 xn).1, (r2.at (r := 6) (x := x) (by decide) (by omega)).1, (q6 x x0 (by omega)).1]
      have t37 : tb 3 7 = σ 25 z0 := by rw [g2 3 (by decide)]; exact t7
      obtain ⟨KE, hKE⟩ : ∃ KE : Int → Option (Int × St), KE = fun (x9 : Int) => bnd (Row_tell sb x9) fun _ s12 => bnd (E_build s12 z1 (σ 25 z0)) fun v13 s14 => some (v13, s14) := ⟨_, rfl⟩
      obtain ⟨KM, hKM⟩ : ∃ KM : Int → Option (Int × St), KM = fun (x8 : Int) => pf tb 32 0 fun s10 => bnd (M_tell s10 x8) fun _ s12 => bnd (M_builds s12 z1) fun v13 s14 => some (v13, s14) := ⟨_, rfl⟩
      obtain ⟨c, y1, y2, y3, y4⟩ := moved_loop (K1 := KE) (K2 := KM) n0 t37 eq7 (σ 25 z0).toNat FU FU 0 0 (by omega) (by omega) (by unfold FU; omega) (by unfold FU; omega) (by omega) (by omega)
      obtain ⟨σ1, τ1, w1, w2, w3, w4, w5, -⟩ := tells1 sb tb (a := c) (by omega)
      have fM : Fr [33, 1, 2, 3, 5, 32] τ τ1 := ((fr_sc [33] τ 33 0 (by decide)).mono (by decide)).tr ((g1.mono (by decide)).tr ((g2.mono (by decide)).tr (w5.mono (by decide))))
      have hS7 : SS k σ1 τ1 := hS0.ask0 ((f1.mono (by decide)).tr ((f2.mono (by decide)).tr (w4.mono (by decide)))) (fM.mono (by decide)) ((Rws.fr (fr_sc [33] _ _ _ (by decide)) (by decide) (by decide) (by decide) _).tr ((r1.mono (by decide)).tr ((r2.mono (by decide)).tr (Rws.fr w5 (by decide) (by decide) (by decide) _)))) w3
      obtain ⟨σ4, τ4, v1, v2, v3⟩ := builds_ex (p := z1) hS7 hk n0 (by rw [w5 3 (by decide)]; exact t37) (fun x x0 xn => by
        have e := eq7 x x0 xn
        have l := c2 x x0 xn
        rw [w4 28 (by decide), w5 1 (by decide)]
        unfold r7 at e
        omega) b
      refine ⟨σ 25 z0, σ4, τ4, ?_, ?_, v3⟩
      · unfold E_sorts
        rw [E_isPlace_y a, bndp_eq, if_neg (by decide), E_isPlace_y b, bndp_eq, if_neg (by decide), rd_eq (by omega), rd_eq (by omega), e1, bnd_eq, e2, bnd_eq, ← hKE, jn_eq]
        refine y1.trans ?_
        rw [hKE]
        dsimp only
        rw [w1, bnd_eq, v1, bnd_eq]
      · unfold M_sorts
        rw [pf_eq, M_isPlace_y a, bndp_eq, if_neg (by decide), M_isPlace_y b, bndp_eq, if_neg (by decide), d1, bnd_eq, ← hK2, jn_eq]
        refine d2.trans ?_
        rw [hK2]
        dsimp only
        rw [← hKM, jn_eq]
        refine y2.trans ?_
        rw [hKM]
        dsimp only
        rw [pf_eq, w2, bnd_eq, v2, bnd_eq]
    · refine ⟨-1, σ, us τ 33 0 0, ?_, ?_, hS0.thr⟩
      · unfold E_sorts
        simp (disch := omega) only [↓jn_e, ↓ite_y, ↓ite_n, ↓oadd_eq, ↓osub_eq, ↓omul_eq, ↓odiv_eq, ↓orem_eq, ↓rd_eq, ↓wr_eq, ↓gf_e, ↓pf_e, ↓bnd_e, ↓bndp_e, ↓opure_e, ↓oif_t, ↓oif_f, ↓E_isPlace_y, ↓E_isPlace_n, ↓E_isNumber_y, ↓E_isNumber_n, ↓M_isPlace_y, ↓M_isPlace_n, ↓M_isNumber_y, ↓M_isNumber_n, ↓M_in_y, ↓M_in_n, ↓us_ne]
      · unfold M_sorts
        simp (disch := omega) only [↓jn_e, ↓ite_y, ↓ite_n, ↓oadd_eq, ↓osub_eq, ↓omul_eq, ↓odiv_eq, ↓orem_eq, ↓rd_eq, ↓wr_eq, ↓gf_e, ↓pf_e, ↓bnd_e, ↓bndp_e, ↓opure_e, ↓oif_t, ↓oif_f, ↓E_isPlace_y, ↓E_isPlace_n, ↓E_isNumber_y, ↓E_isNumber_n, ↓M_isPlace_y, ↓M_isPlace_n, ↓M_isNumber_y, ↓M_isNumber_n, ↓M_in_y, ↓M_in_n, ↓us_ne]
  · refine ⟨-1, σ, us τ 33 0 0, ?_, ?_, hS0.thr⟩
    · unfold E_sorts
      simp (disch := omega) only [↓jn_e, ↓ite_y, ↓ite_n, ↓oadd_eq, ↓osub_eq, ↓omul_eq, ↓odiv_eq, ↓orem_eq, ↓rd_eq, ↓wr_eq, ↓gf_e, ↓pf_e, ↓bnd_e, ↓bndp_e, ↓opure_e, ↓oif_t, ↓oif_f, ↓E_isPlace_y, ↓E_isPlace_n, ↓E_isNumber_y, ↓E_isNumber_n, ↓M_isPlace_y, ↓M_isPlace_n, ↓M_isNumber_y, ↓M_isNumber_n, ↓M_in_y, ↓M_in_n, ↓us_ne]
    · unfold M_sorts
      simp (disch := omega) only [↓jn_e, ↓ite_y, ↓ite_n, ↓oadd_eq, ↓osub_eq, ↓omul_eq, ↓odiv_eq, ↓orem_eq, ↓rd_eq, ↓wr_eq, ↓gf_e, ↓pf_e, ↓bnd_e, ↓bndp_e, ↓opure_e, ↓oif_t, ↓oif_f, ↓E_isPlace_y, ↓E_isPlace_n, ↓E_isNumber_y, ↓E_isNumber_n, ↓M_isPlace_y, ↓M_isPlace_n, ↓M_isNumber_y, ↓M_isNumber_n, ↓M_in_y, ↓M_in_n, ↓us_ne]

-- MATH 43: asks: nodes
theorem sm_cut {f : Int → Int} {m : Nat} : ∀ e : Nat, (∀ x : Int, (m : Int) ≤ x → x < m + e → f x = 0) → sm f (m + e) = sm f m := by
  intro e
  induction e with
  | zero => intro _; rfl
  | succ e ih =>
    intro h
    rw [show m + (e + 1) = (m + e) + 1 by omega, sm_s, ih (fun x a b => h x a (by omega)), h ((m + e : Nat) : Int) (by omega) (by omega), Int.add_zero]
theorem sm_cut2 {f : Int → Int} {a b : Int} (h0 : 0 ≤ a ∧ a ≤ b) (h : ∀ x, a ≤ x → x < b → f x = 0) : sm f b.toNat = sm f a.toNat := by
  rw [show b.toNat = a.toNat + (b - a).toNat by omega]
  exact sm_cut _ (fun x p q => h x (by omega) (by omega))
/-- first of its name in its own place -/
def gg (τ : St) (z : Int) : Int := if z % 256 < τ 3 (z / 256) ∧ oc (nm τ (z / 256)) on1 (nm τ (z / 256) (z % 256)) (z % 256).toNat = 0 then 1 else 0
theorem gg_at (τ : St) {p x : Int} (hx : 0 ≤ x ∧ x < 256) : gg τ (256 * p + x) = if x < τ 3 p ∧ oc (nm τ p) on1 (nm τ p x) x.toNat = 0 then 1 else 0 := by
  unfold gg
  rw [show (256 * p + x) / 256 = p by omega, show (256 * p + x) % 256 = x by omega]
def ow (τ : St) (v : Int) (m : Nat) : Int := oc (τ 2) (gg τ) v m
theorem ow_in {τ : St} {p N : Int} (hp : 0 ≤ p) (hN : 0 ≤ N ∧ N ≤ 255) (h3 : τ 3 p = N) (v : Int) : ∀ n : Nat, (n : Int) ≤ N → ow τ v (256 * p + n).toNat = ow τ v (256 * p).toNat + if 0 < oc (nm τ p) on1 v n then 1 else 0 := by
  intro n
  induction n with
  | zero =>
    intro _
    have e : oc (nm τ p) on1 v 0 = 0 := rfl
    rw [e, if_neg (c := (0 : Int) < 0) (by omega), Int.add_zero, show (256 * p + ((0 : Nat) : Int)).toNat = (256 * p).toNat by omega]
  | succ n ih =>
    intro hn
    have i := ih (by omega)
    have e1 : (256 * p + ((n + 1 : Nat) : Int)).toNat = ((256 * p + n) + 1).toNat := by omega
    have s1 : ow τ v ((256 * p + n) + 1).toNat = ow τ v (256 * p + n).toNat + (if gg τ (256 * p + n) = 1 ∧ nm τ p n = v then 1 else 0) := oc_step (τ 2) (gg τ) v (x := 256 * p + n) (by omega)
    have r := oc_rng (nm τ p) on1 v n
    rw [e1, s1, i, gg_at τ (by omega), h3, on_s, show ((n : Nat) : Int).toNat = n by omega]
    by_cases w : nm τ p n = v
    · rw [w]
      repeat' split
      all_goals omega
    · repeat' split
      all_goals omega
theorem ow_at {τ : St} {p N x : Int} (hp : 0 ≤ p) (hN : 0 ≤ N ∧ N ≤ 255) (h3 : τ 3 p = N) (v : Int) (hx : 0 ≤ x ∧ x ≤ N) : ow τ v (256 * p + x).toNat = ow τ v (256 * p).toNat + if 0 < oc (nm τ p) on1 v x.toNat then 1 else 0 := by
  have := ow_in hp hN h3 v x.toNat (by omega)
  rw [show ((x.toNat : Nat) : Int) = x by omega] at this
  exact this
theorem flat_end {τ : St} {p N : Int} {f : Int → Int} (hp : 0 ≤ p) (hN : 0 ≤ N ∧ N ≤ 255) (h3 : τ 3 p = N) (hf : ∀ z, ¬ gg τ z = 1 → f z = 0) : sm f (256 * (p + 1)).toNat = sm f (256 * p + N).toNat :=
  sm_cut2 (by omega) (fun z a b => hf z (by
    rw [show z = 256 * p + (z - 256 * p) by omega, gg_at τ (by omega), if_neg (by omega)]; omega))
theorem ow_pl {τ : St} (hN : ∀ q, 0 ≤ q → q < 6 → 0 ≤ τ 3 q ∧ τ 3 q ≤ 255) (v : Int) : ∀ p : Nat, p ≤ 6 → ow τ v (256 * p) = sm (hh τ v) p := by
  intro p
  induction p with
  | zero => intro _; rfl
  | succ p ih =>
    intro hp
    have i := ih (by omega)
    have e1 := flat_end (τ := τ) (p := p) (N := τ 3 p) (f := fun z => if gg τ z = 1 ∧ τ 2 z = v then 1 else 0) (by omega) (hN p (by omega) (by omega)) rfl (fun z h => if_neg (fun e => h e.1))
    have e2 := ow_at (τ := τ) (p := p) (N := τ 3 p) (x := τ 3 p) (by omega) (hN p (by omega) (by omega)) rfl v (by have := hN p (by omega) (by omega); omega)
    rw [sm_s, ← i]
    rw [show (256 * (p : Int)).toNat = 256 * p by omega] at e2
    rw [show 256 * (p + 1) = (256 * ((p : Int) + 1)).toNat by omega]
    exact e1.trans e2
theorem ow_pi {τ : St} (hN : ∀ q, 0 ≤ q → q < 6 → 0 ≤ τ 3 q ∧ τ 3 q ≤ 255) (v : Int) {p : Int} (hp : 0 ≤ p ∧ p ≤ 6) : ow τ v (256 * p).toNat = sm (hh τ v) p.toNat := by
  have := ow_pl hN v p.toNat (by omega)
  rw [show (256 * p).toNat = 256 * p.toNat by omega]
  exact this
def fa (τ : St) (z : Int) : Int := if gg τ z = 1 ∧ ow τ (τ 2 z) z.toNat = 0 then 1 else 0
def fb (τ : St) (z : Int) : Int := if gg τ z = 1 ∧ ow τ (τ 2 z) z.toNat = 1 then 1 else 0
def fc (τ : St) (z : Int) : Int := if (gg τ z = 1 ∧ ow τ (τ 2 z) z.toNat = 0) ∧ 1 < ow τ (τ 2 z) 1536 then 1 else 0
theorem fab (τ : St) : sm (fb τ) 1536 = sm (fc τ) 1536 := oc_twice (τ 2) (gg τ) 1536
-- E's masks
def mk6 (τ : St) (v : Int) (p : Nat) : Int := sm (fun q => if hh τ v q = 1 then bshl 1 q else 0) p
theorem pw_f : ∀ p : Fin 6, 1 ≤ bshl 1 (p.val : Int) ∧ bshl 1 (p.val : Int) ≤ 32 ∧ bshl 1 ((p.val : Int) + 1) = 2 * bshl 1 (p.val : Int) := by decide +kernel
theorem bw_f : ∀ p : Fin 6, ∀ m : Fin 32, (m.val : Int) < bshl 1 (p.val : Int) → bor (m.val : Int) (bshl 1 (p.val : Int)) = m.val + bshl 1 (p.val : Int) ∧ bor (m.val + bshl 1 (p.val : Int)) (bshl 1 (p.val : Int)) = m.val + bshl 1 (p.val : Int) ∧ band (m.val : Int) (bshl 1 (p.val : Int)) = 0 ∧ ¬ band (m.val + bshl 1 (p.val : Int)) (bshl 1 (p.val : Int)) = 0 ∧ Jint_bitCount (m.val + bshl 1 (p.val : Int)) = (Jint_bitCount (m.val : Int)).map (fun c => c + 1) := by decide +kernel
theorem pw_ex {p : Int} (h : 0 ≤ p ∧ p < 6) : 1 ≤ bshl 1 p ∧ bshl 1 p ≤ 32 ∧ bshl 1 (p + 1) = 2 * bshl 1 p := by
  obtain ⟨x, hx⟩ := fin_int (n := 6) h
  have := pw_f x
  rw [hx] at this; exact this
theorem bw_ex {p m : Int} (h : 0 ≤ p ∧ p < 6) (hm : 0 ≤ m ∧ m < bshl 1 p) : bor m (bshl 1 p) = m + bshl 1 p ∧ bor (m + bshl 1 p) (bshl 1 p) = m + bshl 1 p ∧ band m (bshl 1 p) = 0 ∧ ¬ band (m + bshl 1 p) (bshl 1 p) = 0 ∧ Jint_bitCount (m + bshl 1 p) = (Jint_bitCount m).map (fun c => c + 1) := by
  have w := pw_ex h
  obtain ⟨x, hx⟩ := fin_int (n := 6) h
  obtain ⟨y, hy⟩ := fin_int (i := m) (n := 32) (by omega)
  have := bw_f x y
  rw [hx, hy] at this
  exact this hm.2
theorem mk6_ex (τ : St) (v : Int) : ∀ p : Nat, p ≤ 6 → 0 ≤ mk6 τ v p ∧ mk6 τ v p < bshl 1 p ∧ Jint_bitCount (mk6 τ v p) = some (sm (hh τ v) p) ∧ sm (hh τ v) p ≤ mk6 τ v p ∧ (sm (hh τ v) p = 0 → mk6 τ v p = 0) := by
  intro p
  induction p with
  | zero =>
    intro _
    have e1 : mk6 τ v 0 = 0 := rfl
    have e2 : sm (hh τ v) 0 = 0 := rfl
    rw [e1, e2]
    exact ⟨by decide, by decide +kernel, by decide +kernel, by decide, fun _ => rfl⟩
  | succ p ih =>
    intro hp
    obtain ⟨i1, i2, i3, i4, i5⟩ := ih (by omega)
    have w := pw_ex (p := p) (by omega)
    have b := bw_ex (p := p) (m := mk6 τ v p) (by omega) ⟨i1, i2⟩
    have r := hh_rng τ v p
    have r2 := sm_one (fun q => hh_rng τ v q) p
    have e1 : mk6 τ v (p + 1) = mk6 τ v p + if hh τ v p = 1 then bshl 1 p else 0 := rfl
    have e2 : sm (hh τ v) (p + 1) = sm (hh τ v) p + hh τ v p := rfl
    rw [show ((p + 1 : Nat) : Int) = (p : Int) + 1 by omega, w.2.2]
    by_cases q : hh τ v p = 1
    · rw [if_pos q] at e1
      rw [e1, e2, b.2.2.2.2, i3, q]
      exact ⟨by omega, by omega, rfl, by omega, fun e => by omega⟩
    · rw [if_neg q, Int.add_zero] at e1
      have q0 : hh τ v p = 0 := by omega
      rw [e1, e2, q0, Int.add_zero]
      exact ⟨i1, by omega, i3, i4, i5⟩
theorem nodesE_loop {K : St → Int → Int → Option (Int × St)} {ρ : Int → Int → Prop} {σ τ : St} (hBi : Bi ρ σ τ) (hN9 : ∀ q, 0 ≤ q → q < 6 → 0 ≤ τ 3 q ∧ τ 3 q ≤ 255) {B p N : Int} {sl0 : Int → Int} (hp : 0 ≤ p ∧ p < 6) (h3 : τ 3 p = N) (hB : B ≤ 2000000) (hr : ∀ x, 0 ≤ x → x < N → ρ (sl0 x) (nm τ p x)) : ∀ (r m : Nat) (s : St) (a b x : Int), x + r = N → 0 ≤ x → r < m → s 25 p = N → (∀ z, 0 ≤ z → z < N → s 12 z = sl0 z) → a = sm (fa τ) (256 * p + x).toNat → b = sm (fb τ) (256 * p + x).toNat → Mq ρ s B (fun w => mk6 τ w p.toNat + if 0 < oc (nm τ p) on1 w x.toNat then bshl 1 p else 0) →
    ∃ s', E_nodes_L47 K p m s a b x = K s' (sm (fa τ) (256 * p + N).toNat) (sm (fb τ) (256 * p + N).toNat) ∧ Fr [11] s s' ∧ Mq ρ s' B (fun w => mk6 τ w p.toNat + if 0 < oc (nm τ p) on1 w N.toNat then bshl 1 p else 0) := by
  have hN := hN9 p hp.1 hp.2
  rw [h3] at hN
  intro r
  induction r with
  | zero =>
    intro m s a b x h1 h0 h2 h25 h12 ha hb hM
    cases m with
    | zero => omega
    | succ m =>
    have e : x = N := by omega
    rw [e] at ha hb hM
    refine ⟨s, ?_, Fr.rf _ _, hM⟩
    unfold E_nodes_L47
    rw [rd_eq (by omega), h25, if_neg (by omega), ha, hb]
  | succ r ih =>
    intro m s a b x h1 h0 h2 h25 h12 ha hb hM
    cases m with
    | zero => omega
    | succ m =>
    have rc := oc_rng (nm τ p) on1 (nm τ p x) x.toNat
    have ra : 0 ≤ sm (fa τ) (256 * p + x).toNat ∧ sm (fa τ) (256 * p + x).toNat ≤ (256 * p + x).toNat := sm_one (fun z => ind_rng _) _
    have rb : 0 ≤ sm (fb τ) (256 * p + x).toNat ∧ sm (fb τ) (256 * p + x).toNat ≤ (256 * p + x).toNat := sm_one (fun z => ind_rng _) _
    have sa := sm_step (fa τ) (x := 256 * p + x) (by omega)
    have sb := sm_step (fb τ) (x := 256 * p + x) (by omega)
    have eo := ow_at (τ := τ) (p := p) (N := N) (x := x) hp.1 hN h3 (nm τ p x) (by omega)
    rw [ow_pi hN9 (nm τ p x) (by omega)] at eo
    have eg := gg_at τ (p := p) (x := x) (by omega)
    rw [h3] at eg
    have mkx := mk6_ex τ (nm τ p x) p.toNat (by omega)
    rw [show ((p.toNat : Nat) : Int) = p by omega] at mkx
    obtain ⟨k1, k2, k3, k4, k5⟩ := mkx
    have w := pw_ex hp
    have bw := bw_ex hp (m := mk6 τ (nm τ p x) p.toNat) ⟨k1, k2⟩
    have r2 := sm_one (fun q => hh_rng τ (nm τ p x) q) p.toNat
    obtain ⟨c, hc⟩ : ∃ c, c = mk6 τ (nm τ p x) p.toNat + if 0 < oc (nm τ p) on1 (nm τ p x) x.toNat then bshl 1 p else 0 := ⟨_, rfl⟩
    have efa : fa τ (256 * p + x) = if oc (nm τ p) on1 (nm τ p x) x.toNat = 0 ∧ sm (hh τ (nm τ p x)) p.toNat = 0 then 1 else 0 := by
      show (if gg τ (256 * p + x) = 1 ∧ ow τ (nm τ p x) (256 * p + x).toNat = 0 then (1 : Int) else 0) = _
      rw [eo, eg]
      repeat' split
      all_goals omega
    have efb : fb τ (256 * p + x) = if oc (nm τ p) on1 (nm τ p x) x.toNat = 0 ∧ sm (hh τ (nm τ p x)) p.toNat = 1 then 1 else 0 := by
      show (if gg τ (256 * p + x) = 1 ∧ ow τ (nm τ p x) (256 * p + x).toNat = 1 then (1 : Int) else 0) = _
      rw [eo, eg]
      repeat' split
      all_goals omega
    have cb : bor c (bshl 1 p) = mk6 τ (nm τ p x) p.toNat + bshl 1 p ∧ (c = 0 ↔ (oc (nm τ p) on1 (nm τ p x) x.toNat = 0 ∧ sm (hh τ (nm τ p x)) p.toNat = 0)) := by
      by_cases q : 0 < oc (nm τ p) on1 (nm τ p x) x.toNat
      · rw [if_pos q] at hc
        rw [hc]
        exact ⟨bw.2.1, by omega⟩
      · rw [if_neg q, Int.add_zero] at hc
        rw [hc]
        exact ⟨bw.1, by omega⟩
    have hbr : 0 ≤ bor c (bshl 1 p) ∧ bor c (bshl 1 p) ≤ 255 := by rw [cb.1]; omega
    rw [hc] at hbr
    obtain ⟨s1, e1, g1, m1⟩ := see_ex hBi hM hB (x := x) (by omega) (h12 x h0 (by omega)) (hr x h0 (by omega)) (b := bshl 1 p) hbr
    rw [← hc] at e1 m1
    obtain ⟨s2, e2, g2, m2⟩ := ih m s1 (a + fa τ (256 * p + x)) (b + fb τ (256 * p + x)) (x + 1) (by omega) (by omega) (by omega) (by rw [g1 25 (by decide)]; exact h25) (fun z a b => by rw [g1 12 (by decide)]; exact h12 z a b) (by rw [← Int.add_assoc, sa]; omega) (by rw [← Int.add_assoc, sb]; omega)
      (m1.ex (fun w => by
        rw [on_step (nm τ p) w h0]
        have r := oc_rng (nm τ p) on1 w x.toNat
        by_cases q : w = nm τ p x
        · rw [if_pos (c := w = nm τ p x) q, if_pos (c := nm τ p x = w) q.symm, if_pos (c := 0 < oc (nm τ p) on1 w x.toNat + 1) (by omega), q]; exact cb.1
        · rw [if_neg (c := w = nm τ p x) q, if_neg (c := nm τ p x = w) (fun e => q e.symm), Int.add_zero]))
    refine ⟨s2, ?_, g1.tr g2, m2⟩
    have o1 : ∀ (k : Int → Option (Int × St)), oif (c = 0) inferInstance 1 0 k = k (fa τ (256 * p + x)) := fun k => by
      rw [efa]
      by_cases q : oc (nm τ p) on1 (nm τ p x) x.toNat = 0 ∧ sm (hh τ (nm τ p x)) p.toNat = 0
      · rw [if_pos q, oif_t (cb.2.2 q) (by omega)]
      · rw [if_neg q, oif_f (fun e => q (cb.2.1 e)) (by omega)]
    have q1 : 0 ≤ fa τ (256 * p + x) ∧ fa τ (256 * p + x) ≤ 1 := ind_rng _
    have q2 : 0 ≤ fb τ (256 * p + x) ∧ fb τ (256 * p + x) ≤ 1 := ind_rng _
    have go : ∀ d, d = fb τ (256 * p + x) → (oadd b d fun v42 => oadd x 1 fun v43 => E_nodes_L47 K p m s1 (a + fa τ (256 * p + x)) v42 v43) = K s2 (sm (fa τ) (256 * p + N).toNat) (sm (fb τ) (256 * p + N).toNat) := fun d hd9 => by
      rw [hd9, oadd_eq (by omega), oadd_eq (by omega)]
      exact e2
    unfold E_nodes_L47
    rw [rd_eq (by omega), h25, if_pos (by omega), opure_eq, e1, bnd_eq, o1, oadd_eq (by omega), opure_eq, opure_eq, jn_eq, jn_eq]
    by_cases q : 0 < oc (nm τ p) on1 (nm τ p x) x.toNat
    · rw [if_pos q] at hc
      rw [if_neg (by omega)] at efb
      rw [hc, if_neg bw.2.2.2.1]
      exact go 0 efb.symm
    · rw [if_neg q, Int.add_zero] at hc
      rw [hc, if_pos bw.2.2.1, k3, bndp_eq]
      by_cases u : sm (hh τ (nm τ p x)) p.toNat = 1
      · rw [if_pos u]
        rw [if_pos ⟨by omega, u⟩] at efb
        exact go 1 efb.symm
      · rw [if_neg u]
        rw [if_neg (fun e => u e.2)] at efb
        exact go 0 efb.symm
theorem nodesP_loop {K : St → Int → Int → Int → Option (Int × St)} {ρ : Int → Int → Prop} {σ τ : St} (hW : Wd ρ σ τ) {B : Int} (hB : B ≤ 2000000) : ∀ (r m : Nat) (s : St) (a b c p : Int), p + r = 6 → 0 ≤ p → r < m → Fr [11, 12, 33] σ s → a = sm (fa τ) (256 * p).toNat → b = sm (fb τ) (256 * p).toNat → c = sm (τ 3) p.toNat → (0 ≤ c ∧ c ≤ 255 * p) → Mq ρ s B (fun w => mk6 τ w p.toNat) →
    ∃ s', E_nodes_L16 K m s a b c p = K s' (sm (fa τ) 1536) (sm (fb τ) 1536) (sm (τ 3) 6) ∧ Fr [11, 12] s s' ∧ Mq ρ s' B (fun w => mk6 τ w 6) := by
  have hN9 : ∀ q, 0 ≤ q → q < 6 → 0 ≤ τ 3 q ∧ τ 3 q ≤ 255 := fun q q0 q1 => by
    have := hW.2.2 q q0 q1
    rw [this.2.1]; exact this.1
  intro r
  induction r with
  | zero =>
    intro m s a b c p h1 h0 h2 hF ha hb hc hcr hM
    cases m with
    | zero => omega
    | succ m =>
    have e : p = 6 := by omega
    rw [e] at ha hb hc hM
    refine ⟨s, ?_, Fr.rf _ _, hM⟩
    unfold E_nodes_L16
    rw [if_neg (by omega), ha, hb, hc]; rfl
  | succ r ih =>
    intro m s a b c p h1 h0 h2 hF ha hb hc hcr hM
    cases m with
    | zero => omega
    | succ m =>
    obtain ⟨s2, e2, f2, n2, t2, h25, c2, r2⟩ := row_slots hW (p := p) (by omega) hF
    obtain ⟨K1, hK1⟩ : ∃ K1 : St → Int → Int → Option (Int × St), K1 = fun (s20 : St) (x21 : Int) (x22 : Int) => rd s20 25 6 p fun v24 => oadd c v24 fun v25 => oadd p 1 fun v26 => E_nodes_L16 K m s20 x21 x22 v25 v26 := ⟨_, rfl⟩
    have z0 : ∀ w, (mk6 τ w p.toNat + if 0 < oc (nm τ p) on1 w (0 : Int).toNat then bshl 1 p else 0) = mk6 τ w p.toNat := fun w => by
      have e : oc (nm τ p) on1 w (0 : Int).toNat = 0 := rfl
      rw [e, if_neg (c := (0 : Int) < 0) (by omega), Int.add_zero]
    obtain ⟨s3, e3, f3, m3⟩ := nodesE_loop (K := K1) hW.1 hN9 (sl0 := fun z => sl σ (σ 24 p) z) (p := p) (N := σ 25 p) (by omega) t2 hB r2 (σ 25 p).toNat FU s2 a b 0 (by omega) (by omega) (by unfold FU; omega) (by rw [f2 25 (by decide)]; exact h25) c2 (by rw [Int.add_zero]; exact ha) (by rw [Int.add_zero]; exact hb) ((hM.fr f2 (by decide)).ex (fun w => (z0 w).symm))
    have ea := flat_end (τ := τ) (p := p) (N := σ 25 p) (f := fa τ) h0 n2 t2 (fun z h => if_neg (fun e => h e.1))
    have eb := flat_end (τ := τ) (p := p) (N := σ 25 p) (f := fb τ) h0 n2 t2 (fun z h => if_neg (fun e => h e.1))
    have sc := sm_step (τ 3) h0
    obtain ⟨s4, e4, f4, m4⟩ := ih m s3 (sm (fa τ) (256 * p + σ 25 p).toNat) (sm (fb τ) (256 * p + σ 25 p).toNat) (c + σ 25 p) (p + 1) (by omega) (by omega) (by omega) (hF.tr ((f2.mono (by decide)).tr (f3.mono (by decide)))) ea.symm eb.symm (by omega) (by omega) (m3.ex (fun w => by
      rw [show (p + 1).toNat = p.toNat + 1 by omega]
      show _ = mk6 τ w p.toNat + if hh τ w ((p.toNat : Nat) : Int) = 1 then bshl 1 ((p.toNat : Nat) : Int) else 0
      rw [show ((p.toNat : Nat) : Int) = p by omega]
      unfold hh
      rw [t2]
      by_cases q : 0 < oc (nm τ p) on1 w (σ 25 p).toNat
      · rw [if_pos (c := 0 < oc (nm τ p) on1 w (σ 25 p).toNat) q, if_pos (c := 0 < oc (nm τ p) on1 w (σ 25 p).toNat) q]; rfl
      · rw [if_neg (c := 0 < oc (nm τ p) on1 w (σ 25 p).toNat) q, if_neg (c := 0 < oc (nm τ p) on1 w (σ 25 p).toNat) q]; rfl))
    refine ⟨s4, ?_, (f2.mono (by decide)).tr ((f3.mono (by decide)).tr f4), m4⟩
    have q25 : s3 25 p = σ 25 p := by rw [f3 25 (by decide), f2 25 (by decide)]; exact h25
    unfold E_nodes_L16
    rw [if_pos (by omega), rd_eq (by omega), rd_eq (by omega), e2, bnd_eq, ← hK1, jn_eq]
    refine e3.trans ?_
    rw [hK1]
    dsimp only
    rw [rd_eq (by omega), q25, oadd_eq (by omega), oadd_eq (by omega)]
    exact e4
-- the reference
theorem nodesM_loop {K : Int → Int → Option (Int × St)} {τ : St} (hN9 : ∀ q, 0 ≤ q → q < 6 → 0 ≤ τ 3 q ∧ τ 3 q ≤ 255) {p N : Int} (hp : 0 ≤ p ∧ p < 6) (h3 : τ 3 p = N) : ∀ (r m : Nat) (a b x : Int), x + r = N → 0 ≤ x → r < m → a = sm (fa τ) (256 * p + x).toNat → b = sm (fc τ) (256 * p + x).toNat →
    M_nodes_L34 K τ p m a b x = K (sm (fa τ) (256 * p + N).toNat) (sm (fc τ) (256 * p + N).toNat) := by
  have hN := hN9 p hp.1 hp.2
  rw [h3] at hN
  intro r
  induction r with
  | zero =>
    intro m a b x h1 h0 h2 ha hb
    cases m with
    | zero => omega
    | succ m =>
    have e : x = N := by omega
    rw [e] at ha hb
    unfold M_nodes_L34
    rw [rd_eq (by omega), h3, if_neg (by omega), ha, hb]
  | succ r ih =>
    intro m a b x h1 h0 h2 ha hb
    cases m with
    | zero => omega
    | succ m =>
    have rc := oc_rng (nm τ p) on1 (nm τ p x) x.toNat
    have ra : 0 ≤ sm (fa τ) (256 * p + x).toNat ∧ sm (fa τ) (256 * p + x).toNat ≤ (256 * p + x).toNat := sm_one (fun z => ind_rng _) _
    have rb : 0 ≤ sm (fc τ) (256 * p + x).toNat ∧ sm (fc τ) (256 * p + x).toNat ≤ (256 * p + x).toNat := sm_one (fun z => ind_rng _) _
    have sa := sm_step (fa τ) (x := 256 * p + x) (by omega)
    have sb := sm_step (fc τ) (x := 256 * p + x) (by omega)
    have eo := ow_at (τ := τ) (p := p) (N := N) (x := x) hp.1 hN h3 (nm τ p x) (by omega)
    rw [ow_pi hN9 (nm τ p x) (by omega)] at eo
    have e6 := ow_pl hN9 (nm τ p x) 6 (by omega)
    have eg := gg_at τ (p := p) (x := x) (by omega)
    rw [h3] at eg
    have r2 := sm_one (fun q => hh_rng τ (nm τ p x) q) p.toNat
    have r6 := sm_one (fun q => hh_rng τ (nm τ p x) q) 6
    have efa : fa τ (256 * p + x) = if oc (nm τ p) on1 (nm τ p x) x.toNat = 0 ∧ sm (hh τ (nm τ p x)) p.toNat = 0 then 1 else 0 := by
      show (if gg τ (256 * p + x) = 1 ∧ ow τ (nm τ p x) (256 * p + x).toNat = 0 then (1 : Int) else 0) = _
      rw [eo, eg]
      repeat' split
      all_goals omega
    have efc : fc τ (256 * p + x) = if (oc (nm τ p) on1 (nm τ p x) x.toNat = 0 ∧ sm (hh τ (nm τ p x)) p.toNat = 0) ∧ 1 < sm (hh τ (nm τ p x)) 6 then 1 else 0 := by
      show (if (gg τ (256 * p + x) = 1 ∧ ow τ (nm τ p x) (256 * p + x).toNat = 0) ∧ 1 < ow τ (nm τ p x) (256 * 6) then (1 : Int) else 0) = _
      rw [eo, eg, e6]
      repeat' split
      all_goals omega
    have step : ∀ a' b', a' = a + fa τ (256 * p + x) → b' = b + fc τ (256 * p + x) → (oadd x 1 fun v31 => M_nodes_L34 K τ p m a' b' v31) = K (sm (fa τ) (256 * p + N).toNat) (sm (fc τ) (256 * p + N).toNat) := fun a' b' ea eb => by
      rw [oadd_eq (by omega)]
      exact ih m _ _ (x + 1) (by omega) (by omega) (by omega) (by rw [← Int.add_assoc, sa]; omega) (by rw [← Int.add_assoc, sb]; omega)
    unfold M_nodes_L34
    rw [rd_eq (by omega), h3, if_pos (by omega), isFirst_eq hp (by omega), bndp_eq, jn_eq]
    by_cases q : oc (nm τ p) on1 (nm τ p x) x.toNat = 0
    · rw [if_pos q, if_neg (by decide), node_eq hp (by omega), bndp_eq, isAhead_eq hN9 (by omega), bndp_eq]
      by_cases u : sm (hh τ (nm τ p x)) p.toNat = 0
      · have pl := placesOf_eq (v := nm τ p x) hN9 (p := p) (by omega)
        rw [u, show sm (hh τ (nm τ p x)) 6 - 0 = sm (hh τ (nm τ p x)) 6 by omega] at pl
        rw [if_pos ⟨q, u⟩] at efa
        rw [u, if_neg (c := (0 : Int) < 0) (by omega), if_pos rfl, oadd_eq (by omega), bndp_eq, pl, bndp_eq]
        by_cases t : 1 < sm (hh τ (nm τ p x)) 6
        · rw [if_pos ⟨⟨q, u⟩, t⟩] at efc
          rw [oif_t t (by omega), oadd_eq (by omega)]
          exact step _ _ (by omega) (by omega)
        · rw [if_neg (fun e => t e.2)] at efc
          rw [oif_f t (by omega), oadd_eq (by omega)]
          exact step _ _ (by omega) (by omega)
      · rw [if_neg (fun e => u e.2)] at efa
        rw [if_neg (fun e => u e.1.2)] at efc
        rw [if_pos (c := 0 < sm (hh τ (nm τ p x)) p.toNat) (by omega), if_neg (by decide)]
        exact step _ _ (by omega) (by omega)
    · rw [if_neg (fun e => q e.1)] at efa
      rw [if_neg (fun e => q e.1.1)] at efc
      rw [if_neg q, if_pos rfl]
      exact step _ _ (by omega) (by omega)
theorem nodesQ_loop {K : Int → Int → Int → Option (Int × St)} {τ : St} (hN9 : ∀ q, 0 ≤ q → q < 6 → 0 ≤ τ 3 q ∧ τ 3 q ≤ 255) : ∀ (r m : Nat) (a b c p : Int), p + r = 6 → 0 ≤ p → r < m → a = sm (fa τ) (256 * p).toNat → b = sm (fc τ) (256 * p).toNat → c = sm (τ 3) p.toNat → (0 ≤ c ∧ c ≤ 255 * p) →
    M_nodes_L14 K τ m a b c p = K (sm (fa τ) 1536) (sm (fc τ) 1536) (sm (τ 3) 6) := by
  intro r
  induction r with
  | zero =>
    intro m a b c p h1 h0 h2 ha hb hc hcr
    cases m with
    | zero => omega
    | succ m =>
    have e : p = 6 := by omega
    rw [e] at ha hb hc
    unfold M_nodes_L14
    rw [if_neg (by omega), ha, hb, hc]; rfl
  | succ r ih =>
    intro m a b c p h1 h0 h2 ha hb hc hcr
    cases m with
    | zero => omega
    | succ m =>
    have n2 := hN9 p h0 (by omega)
    obtain ⟨K1, hK1⟩ : ∃ K1 : Int → Int → Option (Int × St), K1 = fun (x18 : Int) (x19 : Int) => oadd p 1 fun v21 => M_nodes_L14 K τ m x18 x19 (c + τ 3 p) v21 := ⟨_, rfl⟩
    have e3 := nodesM_loop (K := K1) hN9 (p := p) (N := τ 3 p) (by omega) rfl (τ 3 p).toNat FU a b 0 (by omega) (by omega) (by unfold FU; omega) (by rw [Int.add_zero]; exact ha) (by rw [Int.add_zero]; exact hb)
    have ea := flat_end (τ := τ) (p := p) (N := τ 3 p) (f := fa τ) h0 n2 rfl (fun z h => if_neg (fun e => h e.1))
    have eb := flat_end (τ := τ) (p := p) (N := τ 3 p) (f := fc τ) h0 n2 rfl (fun z h => if_neg (fun e => h e.1.1))
    have sc := sm_step (τ 3) h0
    unfold M_nodes_L14
    rw [if_pos (by omega), rd_eq (by omega), oadd_eq (by omega), ← hK1, jn_eq]
    refine e3.trans ?_
    rw [hK1]
    dsimp only
    rw [oadd_eq (by omega)]
    exact ih m _ _ _ (p + 1) (by omega) (by omega) (by omega) ea.symm eb.symm (by omega) (by omega)
theorem call_nodes : HS_45 SS := by
  intro k σ τ hk hS
  have hS0 := hS
  obtain ⟨⟨ρ, hW⟩, hT, hr, hn, hm⟩ := hS
  obtain ⟨s1, e1, g1, m1⟩ := forget_ex hW.1 hn (by omega)
  obtain ⟨K1, hK1⟩ : ∃ K1 : St → Int → Int → Int → Option (Int × St), K1 = fun (s3 : St) (x4 : Int) (x5 : Int) (x6 : Int) => bnd (Row_tell1 s3 x5 x6) fun _ s9 => some (x4, s9) := ⟨_, rfl⟩
  obtain ⟨K2, hK2⟩ : ∃ K2 : Int → Int → Int → Option (Int × St), K2 = fun (x2 : Int) (x3 : Int) (x4 : Int) => pf (us τ 33 0 0) 32 0 fun s6 => bnd (M_tell s6 x3) fun _ s8 => bnd (M_tell s8 x4) fun _ s10 => some (x2, s10) := ⟨_, rfl⟩
  obtain ⟨s2, e2, g2, m2⟩ := nodesP_loop (K := K1) hW (B := 256 * ((k : Int) + 1)) (by omega) 6 FU s1 0 0 0 0 (by omega) (by omega) (by unfold FU; omega) (g1.mono (by decide)) rfl rfl rfl (by omega) m1
  have hN9 : ∀ q, 0 ≤ q → q < 6 → 0 ≤ us τ 33 0 0 3 q ∧ us τ 33 0 0 3 q ≤ 255 := fun q q0 q1 => by
    have := hW.2.2 q q0 q1
    rw [us_ne (by decide), this.2.1]; exact this.1
  have e3 := nodesQ_loop (K := K2) hN9 6 FU 0 0 0 0 (by omega) (by omega) (by unfold FU; omega) rfl rfl rfl (by omega)
  have u2 : us τ 33 0 0 2 = τ 2 := us_f (by decide)
  have u3 : us τ 33 0 0 3 = τ 3 := us_f (by decide)
  have un : nm (us τ 33 0 0) = nm τ := by funext p x; unfold nm; rw [u2]
  have ug : gg (us τ 33 0 0) = gg τ := by funext z; unfold gg; rw [u3, un]
  have uo : ow (us τ 33 0 0) = ow τ := by funext v m; unfold ow; rw [u2, ug]
  have ua : fa (us τ 33 0 0) = fa τ := by funext z; unfold fa; rw [ug, uo, u2]
  have uc : fc (us τ 33 0 0) = fc τ := by funext z; unfold fc; rw [ug, uo, u2]
  rw [ua, uc, u3, ← fab] at e3
  have b1 : 0 ≤ sm (fa τ) 1536 ∧ sm (fa τ) 1536 ≤ (1536 : Nat) := sm_one (fun z => ind_rng _) _
  have b2 : 0 ≤ sm (fb τ) 1536 ∧ sm (fb τ) 1536 ≤ (1536 : Nat) := sm_one (fun z => ind_rng _) _
  have b3 : 0 ≤ sm (τ 3) 6 ∧ sm (τ 3) 6 ≤ 1530 := by
    have l0 := hN9 0 (by omega) (by omega)
    have l1 := hN9 1 (by omega) (by omega)
    have l2 := hN9 2 (by omega) (by omega)
    have l3 := hN9 3 (by omega) (by omega)
    have l4 := hN9 4 (by omega) (by omega)
    have l5 := hN9 5 (by omega) (by omega)
    rw [u3] at l0 l1 l2 l3 l4 l5
    have e : sm (τ 3) 6 = 0 + τ 3 0 + τ 3 1 + τ 3 2 + τ 3 3 + τ 3 4 + τ 3 5 := rfl
    rw [e]; omega
  obtain ⟨σ1, τ1, τ2, t1, t2, t4, t5, t6, t7, t9, -⟩ := tells2 s2 (us τ 33 0 0) (a := sm (fb τ) 1536) (b := sm (τ 3) 6) (by omega) (by omega)
  refine ⟨sm (fa τ) 1536, σ1, τ2, ?_, ?_, hS0.see ((g1.mono (by decide)).tr (g2.mono (by decide))) m2 t6 (((fr_sc [33] τ 33 0 (by decide)).mono (by decide)).tr (t9.mono (by decide))) ((Rws.fr (fr_sc [33] _ _ _ (by decide)) (by decide) (by decide) (by decide) _).tr (Rws.fr t9 (by decide) (by decide) (by decide) _)) t5⟩
  · unfold E_nodes
    rw [e1, bnd_eq, ← hK1, jn_eq]
    refine e2.trans ?_
    rw [hK1]
    dsimp only
    rw [t1, bnd_eq]
  · unfold M_nodes
    rw [pf_eq, ← hK2, jn_eq]
    refine e3.trans ?_
    rw [hK2]
    dsimp only
    rw [pf_eq, t2, bnd_eq, t4, bnd_eq]

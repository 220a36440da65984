-- MATH 40: masks over nodes; the reference's own ways of counting nodes
def Mq (ρ : Int → Int → Prop) (s : St) (B : Int) (F : Int → Int) : Prop := (0 ≤ s 33 0 ∧ s 33 0 ≤ B) ∧ (∀ a, 0 ≤ a → a < 6144 → 0 ≤ s 11 a ∧ s 11 a ≤ s 33 0 + 255) ∧ ∀ a v, ρ a v → imax 0 (s 11 a - s 33 0) = F v
theorem Mq.ex {ρ : Int → Int → Prop} {s : St} {B : Int} {F G : Int → Int} (h : Mq ρ s B F) (e : ∀ w, F w = G w) : Mq ρ s B G := ⟨h.1, h.2.1, fun a v q => (h.2.2 a v q).trans (e v)⟩
theorem Mq.fr {ρ : Int → Int → Prop} {s s' : St} {B : Int} {F : Int → Int} {m : List Nat} (h : Mq ρ s B F) (hF : Fr m s s') (a : 11 ∉ m ∧ 33 ∉ m) : Mq ρ s' B F := by
  unfold Mq at *
  rw [hF 11 a.1, hF 33 a.2]; exact h
theorem Bi.rng {ρ : Int → Int → Prop} {σ τ : St} (h : Bi ρ σ τ) {a v : Int} (q : ρ a v) : 1 ≤ a ∧ a < 6144 := by
  have := (h.1 a v q).1
  unfold used at this; omega
theorem Mq.put {ρ : Int → Int → Prop} {σ τ s : St} (hBi : Bi ρ σ τ) {B a v c : Int} {F : Int → Int} (hM : Mq ρ s B F) (hr : ρ a v) (hc : 0 ≤ c ∧ c ≤ 255) : Mq ρ (us s 11 a (s 33 0 + c)) B (fun w => if w = v then c else F w) := by
  obtain ⟨m1, m2, m3⟩ := hM
  have e33 : us s 11 a (s 33 0 + c) 33 = s 33 := us_f (by decide)
  refine ⟨by rw [e33]; exact m1, fun b b0 b1 => ?_, fun b w q => ?_⟩
  · rw [e33]
    by_cases e : b = a
    · rw [e, us_eq]; omega
    · rw [us_ni e]; exact m2 b b0 b1
  · rw [e33]
    by_cases e : b = a
    · have ew : w = v := hBi.2.1 a w v (e ▸ q) hr
      show _ = (if w = v then c else F w)
      rw [e, us_eq, if_pos ew]
      have := imax_le 0 (s 33 0 + c - s 33 0)
      omega
    · have ew : ¬ w = v := fun x => e (hBi.2.2 b a v (x ▸ q) hr)
      show _ = (if w = v then c else F w)
      rw [us_ni e, if_neg ew]; exact m3 b w q
theorem see_ex {ρ : Int → Int → Prop} {σ τ s : St} (hBi : Bi ρ σ τ) {B x a v b : Int} {F : Int → Int} (hM : Mq ρ s B F) (hB : B ≤ 2000000) (hx : 0 ≤ x ∧ x < 256) (ha : s 12 x = a) (hr : ρ a v) (hb : 0 ≤ bor (F v) b ∧ bor (F v) b ≤ 255) :
    ∃ s', Pool_seeAt s x b = some (F v, s') ∧ Fr [11] s s' ∧ Mq ρ s' B (fun w => if w = v then bor (F v) b else F w) := by
  have g := hBi.rng hr
  have m1 := hM.1
  have m2 := hM.2.1 a (by omega) (by omega)
  have m3 := hM.2.2 a v hr
  refine ⟨us s 11 a (s 33 0 + bor (F v) b), ?_, (Fr.rf _ _).us (by decide), hM.put hBi hr hb⟩
  unfold Pool_seeAt Pool_seenOf
  rw [rd_eq (by omega), ha, Pool_isNode_y (by omega), bndp_eq, if_neg (by decide), rd_eq (by omega), gf_eq, osub_eq (by omega), opure_eq, bndp_eq, m3, gf_eq, opure_eq, oadd_eq (by omega), wr_eq (by omega)]
theorem count_ex {ρ : Int → Int → Prop} {σ τ s : St} (hBi : Bi ρ σ τ) {B x a v : Int} {F : Int → Int} (hM : Mq ρ s B F) (hB : B ≤ 2000000) (hx : 0 ≤ x ∧ x < 256) (ha : s 12 x = a) (hr : ρ a v) (hb : 0 ≤ F v ∧ F v ≤ 254) :
    ∃ s', Pool_countAt s x = some (F v + 1, s') ∧ Fr [11] s s' ∧ Mq ρ s' B (fun w => if w = v then F v + 1 else F w) := by
  have g := hBi.rng hr
  have m1 := hM.1
  have m2 := hM.2.1 a (by omega) (by omega)
  have m3 := hM.2.2 a v hr
  refine ⟨us s 11 a (s 33 0 + (F v + 1)), ?_, (Fr.rf _ _).us (by decide), hM.put hBi hr (by omega)⟩
  unfold Pool_countAt Pool_seenOf
  rw [rd_eq (by omega), ha, Pool_isNode_y (by omega), bndp_eq, if_neg (by decide), rd_eq (by omega), gf_eq, osub_eq (by omega), opure_eq, bndp_eq, m3, oadd_eq (by omega), gf_eq, oadd_eq (by omega), wr_eq (by omega)]
theorem forget_ex {ρ : Int → Int → Prop} {k : Nat} {σ τ : St} (hBi : Bi ρ σ τ) (hn : Sn k σ) (hk : k ≤ 6000) :
    ∃ s, Pool_forget σ = some (0, s) ∧ Fr [33] σ s ∧ Mq ρ s (256 * ((k : Int) + 1)) (fun _ => 0) := by
  obtain ⟨n1, n2⟩ := hn
  refine ⟨us σ 33 0 (σ 33 0 + 256), ?_, (Fr.rf _ _).us (by decide), ?_⟩
  · unfold Pool_forget
    rw [gf_eq, oadd_eq (by omega), pf_eq]
  · have e11 : us σ 33 0 (σ 33 0 + 256) 11 = σ 11 := us_f (by decide)
    unfold Mq
    rw [e11, us_eq]
    refine ⟨by omega, fun a a0 a1 => by have := n2 a a0 a1; omega, fun a v q => ?_⟩
    have g := hBi.rng q
    have := n2 a (by omega) (by omega)
    have := imax_le 0 (σ 11 a - (σ 33 0 + 256))
    show _ = (0 : Int)
    omega
theorem Mq.sn {ρ : Int → Int → Prop} {k : Nat} {s : St} {F : Int → Int} (h : Mq ρ s (256 * ((k : Int) + 1)) F) : Sn (k + 1) s := ⟨⟨h.1.1, by have := h.1.2; omega⟩, h.2.1⟩
def nm (τ : St) (p x : Int) : Int := τ 2 (256 * p + x)
theorem seeAll_loop {ρ : Int → Int → Prop} {σ τ : St} (hBi : Bi ρ σ τ) {B p N : Int} {F : Int → Int} {sl0 u : Int → Int} (hp : 0 ≤ p ∧ p < 6) (hN : 0 ≤ N ∧ N ≤ 255) (hB : B ≤ 2000000) (h01 : ∀ w, F w = 0 ∨ F w = 1) (hr : ∀ x, 0 ≤ x → x < N → ρ (sl0 x) (u x)) : ∀ (r m : Nat) (s : St) (x : Int), x + r = N → 0 ≤ x → r < m → s 25 p = N → (∀ z, 0 ≤ z → z < N → s 12 z = sl0 z) → Mq ρ s B (fun w => if 0 < oc u on1 w x.toNat then 1 else F w) →
    ∃ s', E_seeAll_L21 p 1 m s x = some (0, s') ∧ Fr [11] s s' ∧ Mq ρ s' B (fun w => if 0 < oc u on1 w N.toNat then 1 else F w) := by
  intro r
  induction r with
  | zero =>
    intro m s x h1 h0 h2 h25 h12 hM
    cases m with
    | zero => omega
    | succ m =>
    have e : x = N := by omega
    rw [e] at hM
    refine ⟨s, ?_, Fr.rf _ _, hM⟩
    unfold E_seeAll_L21
    rw [rd_eq (by omega), h25, if_neg (by omega)]
  | succ r ih =>
    intro m s x h1 h0 h2 h25 h12 hM
    cases m with
    | zero => omega
    | succ m =>
    have v01 : (if 0 < oc u on1 (u x) x.toNat then 1 else F (u x)) = 0 ∨ (if 0 < oc u on1 (u x) x.toNat then 1 else F (u x)) = 1 := by
      split
      · exact Or.inr rfl
      · exact h01 _
    have vb : bor (if 0 < oc u on1 (u x) x.toNat then 1 else F (u x)) 1 = 1 := by
      rcases v01 with e | e
      · rw [e]; decide
      · rw [e]; decide
    obtain ⟨s1, e1, f1, m1⟩ := see_ex hBi hM hB (x := x) (by omega) (h12 x h0 (by omega)) (hr x h0 (by omega)) (b := 1) (by rw [vb]; omega)
    obtain ⟨s2, e2, f2, m2⟩ := ih m s1 (x + 1) (by omega) (by omega) (by omega) (by rw [f1 25 (by decide)]; exact h25) (fun z a b => by rw [f1 12 (by decide)]; exact h12 z a b) (m1.ex (fun w => by
      have r := oc_rng u on1 w x.toNat
      by_cases q : w = u x
      · rw [if_pos (c := w = u x) q, vb, on_step u w h0, if_pos (c := u x = w) q.symm, if_pos (c := 0 < oc u on1 w x.toNat + 1) (by omega)]
      · rw [if_neg (c := w = u x) q, on_step u w h0, if_neg (c := u x = w) (fun e => q e.symm), Int.add_zero]))
    refine ⟨s2, ?_, f1.tr f2, m2⟩
    unfold E_seeAll_L21
    rw [rd_eq (by omega), h25, if_pos (by omega), e1, bnd_eq, oadd_eq (by omega)]
    exact e2
/-- what a row of a world says to the masks -/
theorem row_slots {ρ : Int → Int → Prop} {σ τ s : St} (hW : Wd ρ σ τ) {p : Int} (hp : 0 ≤ p ∧ p < 6) (hF : Fr [11, 12, 33] σ s) : ∃ s2, Pool_spread s (s 24 p) (s 25 p) = some (0, s2) ∧ Fr [12] s s2 ∧ (0 ≤ σ 25 p ∧ σ 25 p ≤ 255) ∧ τ 3 p = σ 25 p ∧ s 25 p = σ 25 p ∧ (∀ z, 0 ≤ z → z < σ 25 p → s2 12 z = sl σ (σ 24 p) z) ∧ ∀ z, 0 ≤ z → z < σ 25 p → ρ (sl σ (σ 24 p) z) (nm τ p z) := by
  have hP := hW.2.2 p hp.1 hp.2
  have n0 := hP.1
  have e24 : s 24 p = σ 24 p := by rw [hF 24 (by decide)]
  have e25 : s 25 p = σ 25 p := by rw [hF 25 (by decide)]
  obtain ⟨s2, e2, f2, -, c2⟩ := spread_eq s (s 24 p) (s 25 p) (by rw [e25]; exact n0)
  refine ⟨s2, e2, f2, n0, hP.2.1, e25, fun z a b => ?_, fun z a b => ?_⟩
  · rw [c2 z a (by omega), sl_of (hF 8 (by decide)) (hF 9 (by decide)), e24]
  · have := (hP.2.2.2 z a b).1
    rw [vw1] at this
    exact this
theorem seeAll_ex {ρ : Int → Int → Prop} {σ τ s : St} (hW : Wd ρ σ τ) {p B : Int} {F : Int → Int} (hp : 0 ≤ p ∧ p < 6) (hF : Fr [11, 12, 33] σ s) (hM : Mq ρ s B F) (hB : B ≤ 2000000) (h01 : ∀ w, F w = 0 ∨ F w = 1) :
    ∃ s', E_seeAll s p 1 = some (0, s') ∧ Fr [11, 12] s s' ∧ Mq ρ s' B (fun w => if 0 < oc (nm τ p) on1 w (σ 25 p).toNat then 1 else F w) := by
  obtain ⟨s2, e2, f2, n0, -, h25, c2, c3⟩ := row_slots hW hp hF
  obtain ⟨s3, e3, f3, m3⟩ := seeAll_loop hW.1 (sl0 := fun z => sl σ (σ 24 p) z) (u := nm τ p) hp n0 hB h01 c3 (σ 25 p).toNat FU s2 0 (by omega) (by omega) (by unfold FU; omega) (by rw [f2 25 (by decide)]; exact h25) c2 ((hM.fr f2 (by decide)).ex (fun w => by
    have e : oc (nm τ p) on1 w (0 : Int).toNat = 0 := rfl
    rw [e, if_neg (by omega)]))
  refine ⟨s3, ?_, (f2.mono (by decide)).tr (f3.mono (by decide)), m3⟩
  unfold E_seeAll
  rw [rd_eq (by omega), rd_eq (by omega), e2, bnd_eq]
  exact e3
-- the reference
theorem node_eq {τ : St} {p x : Int} (hp : 0 ≤ p ∧ p < 6) (hx : 0 ≤ x ∧ x < 256) : M_node τ p x = some (nm τ p x) := by
  unfold M_node nm
  rw [omul_eq (by omega), oadd_eq (by omega), rd_eq (by omega)]
theorem hasNode_loop {τ : St} {p v n : Int} (hp : 0 ≤ p ∧ p < 6) (hn : 0 ≤ n ∧ n ≤ 255) : ∀ (r m : Nat) (x : Int), x + r = n → 0 ≤ x → r < m → oc (nm τ p) on1 v x.toNat = 0 → M_hasNode_L3 τ p v n m x = some (if 0 < oc (nm τ p) on1 v n.toNat then 1 else 0) := by
  intro r
  induction r with
  | zero =>
    intro m x h1 h0 h2 hz
    cases m with
    | zero => omega
    | succ m =>
    have e : x = n := by omega
    rw [e] at hz
    unfold M_hasNode_L3
    rw [if_neg (by omega), hz, if_neg (by omega)]
  | succ r ih =>
    intro m x h1 h0 h2 hz
    cases m with
    | zero => omega
    | succ m =>
    have hs := on_step (nm τ p) v h0
    unfold M_hasNode_L3
    rw [if_pos (by omega), node_eq hp (by omega), bndp_eq]
    by_cases q : nm τ p x = v
    · rw [if_pos q] at hs ⊢
      have := oc_mono (nm τ p) on1 v (a := (x + 1).toNat) (b := n.toNat) (by omega)
      rw [if_pos (by omega)]
    · rw [if_neg q] at hs ⊢
      rw [oadd_eq (by omega)]
      exact ih m (x + 1) (by omega) (by omega) (by omega) (by omega)
theorem hasNode_eq {τ : St} {p v n : Int} (hp : 0 ≤ p ∧ p < 6) (hn : 0 ≤ n ∧ n ≤ 255) : M_hasNode τ p v n = some (if 0 < oc (nm τ p) on1 v n.toNat then 1 else 0) :=
  hasNode_loop hp hn n.toNat FU 0 (by omega) (by omega) (by unfold FU; omega) rfl
theorem isFirst_eq {τ : St} {p x : Int} (hp : 0 ≤ p ∧ p < 6) (hx : 0 ≤ x ∧ x ≤ 255) : M_isFirst τ p x = some (if oc (nm τ p) on1 (nm τ p x) x.toNat = 0 then 1 else 0) := by
  have r := oc_rng (nm τ p) on1 (nm τ p x) x.toNat
  unfold M_isFirst
  rw [node_eq hp (by omega), bndp_eq, hasNode_eq hp hx, bndp_eq]
  by_cases q : oc (nm τ p) on1 (nm τ p x) x.toNat = 0
  · rw [if_neg (c := 0 < oc (nm τ p) on1 (nm τ p x) x.toNat) (by omega), if_pos q]; rfl
  · rw [if_pos (c := 0 < oc (nm τ p) on1 (nm τ p x) x.toNat) (by omega), if_neg q]; rfl
theorem often_loop {τ : St} {p v N : Int} (hp : 0 ≤ p ∧ p < 6) (hN : 0 ≤ N ∧ N ≤ 255) (h3 : τ 3 p = N) : ∀ (r m : Nat) (c x : Int), x + r = N → 0 ≤ x → r < m → c = oc (nm τ p) on1 v x.toNat → M_oftenOf_L5 τ p v m c x = some (oc (nm τ p) on1 v N.toNat) := by
  intro r
  induction r with
  | zero =>
    intro m c x h1 h0 h2 hz
    cases m with
    | zero => omega
    | succ m =>
    have e : x = N := by omega
    rw [e] at hz
    unfold M_oftenOf_L5
    rw [rd_eq (by omega), h3, if_neg (by omega), hz]
  | succ r ih =>
    intro m c x h1 h0 h2 hz
    cases m with
    | zero => omega
    | succ m =>
    have hs := on_step (nm τ p) v h0
    have hr := oc_rng (nm τ p) on1 v x.toNat
    unfold M_oftenOf_L5
    rw [rd_eq (by omega), h3, if_pos (by omega), node_eq hp (by omega), bndp_eq]
    by_cases q : nm τ p x = v
    · rw [if_pos q] at hs
      rw [oif_t q (by omega), oadd_eq (by omega), oadd_eq (by omega)]
      exact ih m _ (x + 1) (by omega) (by omega) (by omega) (by omega)
    · rw [if_neg q] at hs
      rw [oif_f q (by omega), oadd_eq (by omega), oadd_eq (by omega)]
      exact ih m _ (x + 1) (by omega) (by omega) (by omega) (by omega)
theorem often_eq {τ : St} {p v : Int} (hp : 0 ≤ p ∧ p < 6) (hN : 0 ≤ τ 3 p ∧ τ 3 p ≤ 255) : M_oftenOf τ p v = some (oc (nm τ p) on1 v (τ 3 p).toNat) :=
  often_loop hp hN rfl (τ 3 p).toNat FU 0 0 (by omega) (by omega) (by unfold FU; omega) rfl
def hh (τ : St) (v q : Int) : Int := if 0 < oc (nm τ q) on1 v (τ 3 q).toNat then 1 else 0
theorem hh_rng (τ : St) (v q : Int) : 0 ≤ hh τ v q ∧ hh τ v q ≤ 1 := ind_rng _
theorem isAhead_loop {τ : St} {v p : Int} (hN : ∀ q, 0 ≤ q → q < 6 → 0 ≤ τ 3 q ∧ τ 3 q ≤ 255) (hp : 0 ≤ p ∧ p ≤ 6) : ∀ (r m : Nat) (x : Int), x + r = p → 0 ≤ x → r < m → sm (hh τ v) x.toNat = 0 → M_isAhead_L2 τ v p m x = some (if 0 < sm (hh τ v) p.toNat then 1 else 0) := by
  intro r
  induction r with
  | zero =>
    intro m x h1 h0 h2 hz
    cases m with
    | zero => omega
    | succ m =>
    have e : x = p := by omega
    rw [e] at hz
    unfold M_isAhead_L2
    rw [if_neg (by omega), hz, if_neg (by omega)]
  | succ r ih =>
    intro m x h1 h0 h2 hz
    cases m with
    | zero => omega
    | succ m =>
    have hs := sm_step (hh τ v) h0
    have hr := hh_rng τ v x
    unfold M_isAhead_L2
    rw [if_pos (by omega), rd_eq (by omega), hasNode_eq (by omega) (hN x h0 (by omega)), bndp_eq]
    show (if hh τ v x = 0 then _ else _) = _
    by_cases q : hh τ v x = 0
    · rw [if_pos q, oadd_eq (by omega)]
      exact ih m (x + 1) (by omega) (by omega) (by omega) (by omega)
    · rw [if_neg q]
      have := sm_pos (fun q => (hh_rng τ v q).1) (x + 1).toNat (p.toNat - (x + 1).toNat)
      rw [show (x + 1).toNat + (p.toNat - (x + 1).toNat) = p.toNat by omega] at this
      rw [if_pos (by omega)]
theorem isAhead_eq {τ : St} {v p : Int} (hN : ∀ q, 0 ≤ q → q < 6 → 0 ≤ τ 3 q ∧ τ 3 q ≤ 255) (hp : 0 ≤ p ∧ p ≤ 6) : M_isAhead τ v p = some (if 0 < sm (hh τ v) p.toNat then 1 else 0) :=
  isAhead_loop hN hp p.toNat FU 0 (by omega) (by omega) (by unfold FU; omega) rfl
theorem placesOf_loop {τ : St} {v p : Int} (hN : ∀ q, 0 ≤ q → q < 6 → 0 ≤ τ 3 q ∧ τ 3 q ≤ 255) (hp : 0 ≤ p ∧ p ≤ 6) : ∀ (r m : Nat) (c x : Int), x + r = 6 → p ≤ x → r < m → c = sm (hh τ v) x.toNat - sm (hh τ v) p.toNat → M_placesOf_L5 τ v m c x = some (sm (hh τ v) 6 - sm (hh τ v) p.toNat) := by
  intro r
  induction r with
  | zero =>
    intro m c x h1 h0 h2 hz
    cases m with
    | zero => omega
    | succ m =>
    have e : x = 6 := by omega
    rw [e] at hz
    unfold M_placesOf_L5
    rw [if_neg (by omega), hz]; rfl
  | succ r ih =>
    intro m c x h1 h0 h2 hz
    cases m with
    | zero => omega
    | succ m =>
    have hs := sm_step (hh τ v) (x := x) (by omega)
    have hr := hh_rng τ v x
    have b1 := sm_one (fun q => hh_rng τ v q) x.toNat
    have b2 := sm_one (fun q => hh_rng τ v q) p.toNat
    unfold M_placesOf_L5
    rw [if_pos (by omega), rd_eq (by omega), hasNode_eq (by omega) (hN x (by omega) (by omega)), bndp_eq]
    have e : (if 0 < oc (nm τ x) on1 v (τ 3 x).toNat then (1 : Int) else 0) = hh τ v x := rfl
    rw [e]
    by_cases q : hh τ v x = 0
    · rw [oif_t q (by omega), oadd_eq (by omega), oadd_eq (by omega)]
      exact ih m _ (x + 1) (by omega) (by omega) (by omega) (by omega)
    · rw [oif_f q (by omega), oadd_eq (by omega), oadd_eq (by omega)]
      exact ih m _ (x + 1) (by omega) (by omega) (by omega) (by omega)
theorem placesOf_eq {τ : St} {v p : Int} (hN : ∀ q, 0 ≤ q → q < 6 → 0 ≤ τ 3 q ∧ τ 3 q ≤ 255) (hp : 0 ≤ p ∧ p ≤ 6) : M_placesOf τ v p = some (sm (hh τ v) 6 - sm (hh τ v) p.toNat) :=
  placesOf_loop hN hp (6 - p).toNat FU 0 p (by omega) (by omega) (by unfold FU; omega) (by omega)
theorem SS.see {k : Nat} {ρ : Int → Int → Prop} {σ τ s σ' τ' : St} {F : Int → Int} (h : SS k σ τ) (hE : Fr [11, 12, 26, 27, 33] σ s) (hM : Mq ρ s (256 * ((k : Int) + 1)) F) (hE2 : Fr [13, 34] s σ') (hT : Fr (5 :: 32 :: SM) τ τ') (hR : Rws [6, 7, 8, 9] τ τ') (hr : Rw σ' τ') : SS (k + 1) σ' τ' := by
  obtain ⟨⟨ρ, hW⟩, hT0, -, hn, hm⟩ := h
  have hE3 : Fr [11, 12, 26, 27, 33, 13, 34] σ σ' := (hE.mono (by decide)).tr (hE2.mono (by decide))
  exact ⟨⟨ρ, hW.mv hE3 (by decide) hR (by decide) (by rw [hT 30 (by decide)])⟩, hT0.fr hE3 hT (by decide) (by decide), hr, (hM.fr hE2 (by decide)).sn, hm.fr hE3 hT (by decide) (by decide)⟩

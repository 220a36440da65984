-- MATH 12: frames, the reference's rows, begin, keep
theorem gf_e {α : Type} {σ : St} {f : Nat} {k : Int → Option α} : gf σ f k = k (σ f 0) := (Eq.refl _).trans (Eq.refl _)
theorem pf_e {α : Type} {σ : St} {f : Nat} {v : Int} {k : St → Option α} : pf σ f v k = k (us σ f 0 v) := (Eq.refl _).trans (Eq.refl _)
theorem bnd_e {α : Type} {r : Int} {τ : St} {k : Int → St → Option α} : bnd (some (r, τ)) k = k r τ := (Eq.refl _).trans (Eq.refl _)
theorem bndp_e {α : Type} {r : Int} {k : Int → Option α} : bndp (some r) k = k r := (Eq.refl _).trans (Eq.refl _)
theorem jn_e {α β : Type} {k : β} {b : β → Option α} : jn k b = b k := (Eq.refl _).trans (Eq.refl _)
theorem opure_e {α : Type} {v : Int} {k : Int → Option α} : opure v k = k v := (Eq.refl _).trans (Eq.refl _)
theorem retZ0_e (σ : St) : retZ 0 σ = some (0, σ) := (Eq.refl _).trans (Eq.refl _)
theorem retZ1_e (σ : St) : retZ 1 σ = some (1, σ) := (Eq.refl _).trans (Eq.refl _)
theorem retZp0_e : retZp 0 = some 0 := (Eq.refl _).trans (Eq.refl _)
theorem retZp1_e : retZp 1 = some 1 := (Eq.refl _).trans (Eq.refl _)
theorem vw1 (r x : Int) : vw r 0 1 x = 256 * r + x := by unfold vw; omega
def RI (ρ : Int → Int → Prop) (σ τ : St) (t n r : Int) : Prop := (0 ≤ n ∧ n ≤ 255) ∧ τ 3 r = n ∧ TW σ t n ∧ Co ρ σ τ t (vw r 0 1) n
def Wd (ρ : Int → Int → Prop) (σ τ : St) : Prop := Bi ρ σ τ ∧ Alloc σ ∧ ∀ p, 0 ≤ p → p < 6 → RI ρ σ τ (σ 24 p) (σ 25 p) p
theorem RI.cp {ρ : Int → Int → Prop} {σ τ τ' : St} {t n r r' : Int} (h : RI ρ σ τ t n r) (hs : τ' 3 r' = n) (hc : ∀ x, 0 ≤ x → x < n → τ' 1 (256 * r' + x) = τ 1 (256 * r + x) ∧ τ' 2 (256 * r' + x) = τ 2 (256 * r + x)) : RI ρ σ τ' t n r' := by
  obtain ⟨h1, h2, h3, h4⟩ := h
  exact ⟨h1, hs, h3, Co.stp (g := vw r 0 1) h4 h3 h1.1 (fun _ _ q => q) (Ext.rf σ) (fun x x0 xn => by rw [vw1, vw1]; exact hc x x0 xn)⟩
theorem RI.sx {ρ ρ' : Int → Int → Prop} {σ τ σ' τ' : St} {t n r d : Int} (h : RI ρ σ τ t n r) (hX : Sx ρ σ τ ρ' σ' τ' d) (hs : τ' 3 r = τ 3 r) (hc : ∀ x, 0 ≤ x → x < n → τ' 1 (256 * r + x) = τ 1 (256 * r + x) ∧ τ' 2 (256 * r + x) = τ 2 (256 * r + x)) : RI ρ' σ' τ' t n r := by
  obtain ⟨h1, h2, h3, h4⟩ := h
  exact ⟨h1, hs.trans h2, h3.ext hX.2.2.2.2.1 h1.1, Co.stp (g := vw r 0 1) h4 h3 h1.1 hX.1 hX.2.2.2.2.1 (fun x x0 xn => by rw [vw1]; exact hc x x0 xn)⟩
/-- of the reference's rows only those of a list change -/
def Rws (l : List Int) (τ τ' : St) : Prop := (∀ q, (∀ r, r ∈ l → ¬ (256 * r ≤ q ∧ q < 256 * r + 256)) → τ' 1 q = τ 1 q ∧ τ' 2 q = τ 2 q) ∧ ∀ p, p ∉ l → τ' 3 p = τ 3 p
theorem Rws.rf (l : List Int) (τ : St) : Rws l τ τ := ⟨fun _ _ => ⟨rfl, rfl⟩, fun _ _ => rfl⟩
theorem Rws.tr {l : List Int} {τ υ φ : St} (h : Rws l τ υ) (k : Rws l υ φ) : Rws l τ φ :=
  ⟨fun q hq => ⟨(k.1 q hq).1.trans (h.1 q hq).1, (k.1 q hq).2.trans (h.1 q hq).2⟩, fun p hp => (k.2 p hp).trans (h.2 p hp)⟩
theorem Rws.mono {l m : List Int} {τ υ : St} (h : Rws l τ υ) (hs : ∀ r ∈ l, r ∈ m) : Rws m τ υ :=
  ⟨fun q hq => h.1 q (fun r hr => hq r (hs r hr)), fun p hp => h.2 p (fun q => hp (hs p q))⟩
theorem Rws.at {l : List Int} {τ υ : St} (h : Rws l τ υ) {r x : Int} (hr : r ∉ l) (hx : 0 ≤ x ∧ x < 256) : υ 1 (256 * r + x) = τ 1 (256 * r + x) ∧ υ 2 (256 * r + x) = τ 2 (256 * r + x) :=
  h.1 _ (fun r' hr' hq => hr (by
    have e : r' = r := by omega
    rw [e] at hr'; exact hr'))
theorem Rws.of {l : List Int} {τ υ : St} (h1 : υ 1 = τ 1) (h2 : υ 2 = τ 2) (h3 : υ 3 = τ 3) : Rws l τ υ := ⟨fun q _ => ⟨by rw [h1], by rw [h2]⟩, fun p _ => by rw [h3]⟩
theorem Rws.fr {m : List Nat} {τ υ : St} (h : Fr m τ υ) (h1 : 1 ∉ m) (h2 : 2 ∉ m) (h3 : 3 ∉ m) (l : List Int) : Rws l τ υ := Rws.of (h 1 h1) (h 2 h2) (h 3 h3)
theorem RI.rw {ρ : Int → Int → Prop} {σ τ τ' : St} {t n r : Int} {l : List Int} (h : RI ρ σ τ t n r) (hR : Rws l τ τ') (hr : r ∉ l) : RI ρ σ τ' t n r :=
  h.cp ((hR.2 r hr).trans h.2.1) (fun x x0 xn => hR.at hr (by have := h.1; omega))
theorem RI.sw {ρ ρ' : Int → Int → Prop} {σ τ σ' τ' : St} {t n r d : Int} {l : List Int} (h : RI ρ σ τ t n r) (hX : Sx ρ σ τ ρ' σ' τ' d) (hR : Rws l τ τ') (hr : r ∉ l) : RI ρ' σ' τ' t n r :=
  h.sx hX (hR.2 r hr) (fun x x0 xn => hR.at hr (by have := h.1; omega))
theorem TW.of {σ σ' : St} {t n : Int} (h : TW σ t n) (h8 : σ' 8 = σ 8) (h9 : σ' 9 = σ 9) (hu : ∀ x, 0 ≤ x → x < n → used σ' (sl σ t x)) : TW σ' t n :=
  ⟨fun x a b => by rw [sl_of h8 h9]; exact hu x a b, fun x a b => by rw [sl_of h8 h9]; exact h.2 x a b⟩
theorem RI.es {ρ : Int → Int → Prop} {σ σ' τ : St} {t n r : Int} (h : RI ρ σ τ t n r) (h7 : σ' 7 = σ 7) (h8 : σ' 8 = σ 8) (h9 : σ' 9 = σ 9) (h10 : σ' 10 = σ 10) (h30 : σ' 30 = σ 30) : RI ρ σ' τ t n r := by
  obtain ⟨a1, a2, a3, a4⟩ := h
  refine ⟨a1, a2, a3.of h8 h9 (fun x x0 xn => ?_), fun x x0 xn => ?_⟩
  · have := a3.1 x x0 xn
    unfold used at *
    rw [h30, h10]; exact this
  · rw [sl_of h8 h9, nu_of h7]; exact a4 x x0 xn
theorem Bi.es {ρ : Int → Int → Prop} {σ σ' τ : St} (h : Bi ρ σ τ) (h10 : σ' 10 = σ 10) (h30 : σ' 30 = σ 30) : Bi ρ σ' τ := ⟨fun a b q => by
  have := h.1 a b q
  unfold used at *
  rw [h30, h10]; exact this, h.2⟩
theorem Alloc.es {σ σ' : St} (h : Alloc σ) (h10 : σ' 10 = σ 10) (h30 : σ' 30 = σ 30) (h31 : σ' 31 = σ 31) : Alloc σ' := by
  unfold Alloc cfr at *
  rw [h10, h30, h31]; exact h
/-- a world of which E's scratch, and rows 6 .. 9 of the reference, changed -/
theorem Wd.mv {ρ : Int → Int → Prop} {σ τ σ' τ' : St} {m : List Nat} {l : List Int} (h : Wd ρ σ τ) (hE : Fr m σ σ') (hm : ∀ f ∈ [7, 8, 9, 10, 24, 25, 30, 31], f ∉ m) (hR : Rws l τ τ') (hl : ∀ p ∈ l, 6 ≤ p) (h30 : τ' 30 0 = τ 30 0) : Wd ρ σ' τ' := by
  have e7 := hE 7 (hm 7 (by decide))
  have e8 := hE 8 (hm 8 (by decide))
  have e9 := hE 9 (hm 9 (by decide))
  have e10 := hE 10 (hm 10 (by decide))
  have e24 := hE 24 (hm 24 (by decide))
  have e25 := hE 25 (hm 25 (by decide))
  have e30 := hE 30 (hm 30 (by decide))
  have e31 := hE 31 (hm 31 (by decide))
  refine ⟨(h.1.es e10 e30).mono (by omega), h.2.1.es e10 e30 e31, fun p p0 p6 => ?_⟩
  rw [e24, e25]
  exact ((h.2.2 p p0 p6).es e7 e8 e9 e10 e30).rw hR (fun q => by have := hl p q; omega)
theorem takes_self (τ : St) (r n : Int) (hr : 0 ≤ r ∧ r ≤ 9) (hn : 0 ≤ n ∧ n ≤ 255) : ∀ (m : Nat) (x : Int), 0 ≤ x → x ≤ n → n - x < m → M_shares_L3 r 0 1 n r 0 1 m τ x = some (0, τ) := by
  intro m
  induction m with
  | zero => intro x h0 hxn hm; exfalso; omega
  | succ m ih =>
    intro x h0 hxn hm
    unfold M_shares_L3
    by_cases hx : x < n
    · simp (disch := omega) only [ite_y, oadd_eq, omul_eq, rd_eq, wr_eq, us_id]
      exact ih (x + 1) (by omega) (by omega) (by omega)
    · simp (disch := omega) only [ite_n]
theorem takes_ex (τ : St) (fr to : Int) (hf : 0 ≤ fr ∧ fr ≤ 9) (ht : 0 ≤ to ∧ to ≤ 9) (hn : 0 ≤ τ 3 fr ∧ τ 3 fr ≤ 255) : ∃ τ', M_takes τ fr to = some (0, τ') ∧ Fr [1, 2, 3] τ τ' ∧ Rws [to] τ τ' ∧ τ' 3 to = τ 3 fr ∧
    (∀ x, 0 ≤ x → x < τ 3 fr → τ' 1 (256 * to + x) = τ 1 (256 * fr + x) ∧ τ' 2 (256 * to + x) = τ 2 (256 * fr + x)) := by
  unfold M_takes
  simp (disch := omega) only [rd_eq]
  by_cases e : fr = to
  · subst e
    have e1 : M_shares τ fr 0 1 (τ 3 fr) fr 0 1 = some (0, τ) := takes_self τ fr _ hf hn FU 0 (by omega) (by omega) (by unfold FU; omega)
    rw [e1, bnd_eq]
    simp (disch := omega) only [rd_eq, wr_eq, us_id]
    exact ⟨τ, rfl, Fr.rf _ _, Rws.rf _ _, rfl, fun x _ _ => ⟨rfl, rfl⟩⟩
  · obtain ⟨τ2, e2, f2, c2, k2⟩ := M_shares_eq τ fr 0 1 (τ 3 fr) to 0 1 hf ht e (by omega) (by omega) (by omega) (by omega) hn (fun k a b => by omega) (fun k a b => by omega)
    rw [e2, bnd_eq]
    simp (disch := omega) only [rd_eq, wr_eq]
    refine ⟨_, rfl, (f2.mono (by decide)).us (by decide), ⟨fun q hq => ?_, fun p hp => ?_⟩, ?_, fun x x0 xn => ?_⟩
    · rw [us_ne (by decide), us_ne (by decide)]
      exact k2 q (fun k k0 kn e => hq to (List.mem_singleton.mpr rfl) (by omega))
    · rw [us_ni (fun q => hp (List.mem_singleton.mpr q)), f2 3 (by decide)]
    · rw [us_eq, f2 3 (by decide)]
    · rw [us_ne (by decide), us_ne (by decide)]
      have c := c2 x x0 xn
      have e1 : 256 * to + 0 + 1 * x = 256 * to + x := by omega
      have e3 : 256 * fr + 0 + 1 * x = 256 * fr + x := by omega
      rw [e1, e3] at c
      exact c
theorem asks_ex (τ : St) (i : Int) (hi : 0 ≤ i ∧ i < 6) (hn : 0 ≤ τ 3 i ∧ τ 3 i ≤ 255) : ∃ τ', M_asks τ i = some (0, τ') ∧ Fr [1, 2, 3] τ τ' ∧ Rws [6, 7] τ τ' ∧ τ' 3 6 = τ 3 i ∧ τ' 3 7 = τ 3 i ∧
    (∀ x, 0 ≤ x → x < τ 3 i → τ' 1 (256 * 6 + x) = τ 1 (256 * i + x) ∧ τ' 2 (256 * 6 + x) = τ 2 (256 * i + x)) ∧ (∀ x, 0 ≤ x → x < τ 3 i → τ' 1 (256 * 7 + x) = τ 1 (256 * i + x) ∧ τ' 2 (256 * 7 + x) = τ 2 (256 * i + x)) := by
  obtain ⟨τ1, e1, f1, r1, s1, c1⟩ := takes_ex τ i 6 (by omega) (by omega) hn
  have ei : τ1 3 i = τ 3 i := r1.2 i (by simp; omega)
  obtain ⟨τ2, e2, f2, r2, s2, c2⟩ := takes_ex τ1 i 7 (by omega) (by omega) (by rw [ei]; exact hn)
  rw [ei] at s2 c2
  refine ⟨τ2, ?_, f1.tr f2, (r1.mono (by decide)).tr (r2.mono (by decide)), (r2.2 6 (by decide)).trans s1, s2, fun x x0 xn => ?_, fun x x0 xn => ?_⟩
  · unfold M_asks
    rw [e1, bnd_eq, e2, bnd_eq]
  · have a := r2.at (r := 6) (x := x) (by decide) (by omega)
    have b := c1 x x0 xn
    exact ⟨a.1.trans b.1, a.2.trans b.2⟩
  · have a := r1.at (r := i) (x := x) (by simp; omega) (by omega)
    have b := c2 x x0 xn
    exact ⟨b.1.trans a.1, b.2.trans a.2⟩
theorem begins_eq (τ : St) : M_begins τ = some (0, us τ 34 0 (τ 30 0)) := rfl
-- begin
theorem cf_ext {K L : Int → Int} : ∀ (m : Nat) (a : Int), (∀ z, a ≤ z → z < a + m → K z = L z) → cf K m a = cf L m a := by
  intro m
  induction m with
  | zero => intro a h; rfl
  | succ m ih =>
    intro a h
    unfold cf
    rw [h a (by omega) (by omega), ih (a + 1) (fun z h1 h2 => h z (by omega) (by omega))]
theorem cf_all {K : Int → Int} : ∀ (m : Nat) (a : Int), (∀ z, a ≤ z → z < a + m → K z = 0) → cf K m a = m := by
  intro m
  induction m with
  | zero => intro a h; rfl
  | succ m ih =>
    intro a h
    unfold cf
    rw [if_pos (h a (by omega) (by omega)), ih (a + 1) (fun z h1 h2 => h z (by omega) (by omega))]
    omega
theorem cf_set {K : Int → Int} {c : Int} (hc : K c = 0) : ∀ (m : Nat) (a : Int), a ≤ c → c < a + m → cf (fun j => if j = c then 1 else K j) m a = cf K m a - 1 := by
  intro m
  induction m with
  | zero => intro a h1 h2; exfalso; omega
  | succ m ih =>
    intro a h1 h2
    unfold cf
    by_cases e : a = c
    · subst e
      have e1 : cf (fun j => if j = a then 1 else K j) m (a + 1) = cf K m (a + 1) := cf_ext m (a + 1) (fun z z1 z2 => if_neg (by omega))
      rw [e1, if_pos hc, if_pos rfl, if_neg (by omega)]; omega
    · rw [if_neg e, ih (a + 1) (by omega) (by omega)]; omega
theorem fillK_loop (σ : St) : ∀ (m : Nat) (σ1 : St) (x : Int), 0 ≤ x → x ≤ 6144 → 6144 - x < m → Fr [10] σ σ1 → (∀ z, 0 ≤ z → z < x → σ1 10 z = 0) → ∃ σ2, Jarr_fill_kept_L5 0 m σ1 x = some (0, σ2) ∧ Fr [10] σ σ2 ∧ ∀ z, 0 ≤ z → z < 6144 → σ2 10 z = 0 := by
  intro m
  induction m with
  | zero => intro σ1 x h0 hxn hm; exfalso; omega
  | succ m ih =>
    intro σ1 x h0 hxn hm hF hz
    unfold Jarr_fill_kept_L5
    by_cases hx : x < 6144
    · simp (disch := omega) only [ite_y, wr_eq, oadd_eq]
      refine ih _ (x + 1) (by omega) (by omega) (by omega) (hF.us (by decide)) (fun z h1 h2 => ?_)
      by_cases hzx : z = x
      · rw [hzx, us_eq]
      · rw [us_ni hzx]; exact hz z h1 (by omega)
    · simp (disch := omega) only [ite_n]
      exact ⟨σ1, rfl, hF, fun z h1 h2 => hz z h1 (by omega)⟩
theorem us_fun (σ : St) (f : Nat) (i v : Int) : us σ f i v f = fun j => if j = i then v else σ f j := by
  funext j; simp [us]
theorem keepAll_loop (n : Int) (hn : 0 ≤ n ∧ n ≤ 255) (s : St) : ∀ (m : Nat) (σ1 : St) (x : Int), 0 ≤ x → x ≤ n → n - x < m → Fr [10, 31] s σ1 → (∀ a, ¬ s 10 a = 0 → ¬ σ1 10 a = 0) → (∀ z, 0 ≤ z → z < x → 1 ≤ s 12 z → s 12 z < 6144 → ¬ σ1 10 (s 12 z) = 0) →
      σ1 31 0 = cf (σ1 10) 6143 1 → s 31 0 - x ≤ σ1 31 0 → ∃ σ2, Pool_keepAll_L8 n m σ1 x = some (0, σ2) ∧ Fr [10, 31] s σ2 ∧ (∀ a, ¬ s 10 a = 0 → ¬ σ2 10 a = 0) ∧ (∀ z, 0 ≤ z → z < n → 1 ≤ s 12 z → s 12 z < 6144 → ¬ σ2 10 (s 12 z) = 0) ∧ σ2 31 0 = cf (σ2 10) 6143 1 ∧ s 31 0 - n ≤ σ2 31 0 := by
  intro m
  induction m with
  | zero => intro σ1 x h0 hxn hm; exfalso; omega
  | succ m ih =>
    intro σ1 x h0 hxn hm hF hk hz hc hl
    unfold Pool_keepAll_L8
    by_cases hx : x < n
    · have e12 : σ1 12 = s 12 := hF 12 (by decide)
      have go : ∀ σb, Fr [10, 31] s σb → (∀ a, ¬ σ1 10 a = 0 → ¬ σb 10 a = 0) → (1 ≤ s 12 x → s 12 x < 6144 → ¬ σb 10 (s 12 x) = 0) → σb 31 0 = cf (σb 10) 6143 1 → σ1 31 0 - 1 ≤ σb 31 0 →
          ∃ σ2, Pool_keepAll_L8 n m σb (x + 1) = some (0, σ2) ∧ Fr [10, 31] s σ2 ∧ (∀ a, ¬ s 10 a = 0 → ¬ σ2 10 a = 0) ∧ (∀ z, 0 ≤ z → z < n → 1 ≤ s 12 z → s 12 z < 6144 → ¬ σ2 10 (s 12 z) = 0) ∧ σ2 31 0 = cf (σ2 10) 6143 1 ∧ s 31 0 - n ≤ σ2 31 0 := fun σb b1 b2 b3 b4 b5 =>
        ih σb (x + 1) (by omega) (by omega) (by omega) b1 (fun a q => b2 a (hk a q)) (fun z z0 zx z1 z2 => by
          by_cases e : z = x
          · rw [e] at z1 z2 ⊢; exact b3 z1 z2
          · exact b2 _ (hz z z0 (by omega) z1 z2)) b4 (by omega)
      simp (disch := omega) only [ite_y, rd_eq, jn_eq, e12]
      by_cases hN : 0 < s 12 x ∧ s 12 x < 6144
      · rw [Pool_isNode_y hN]
        simp (disch := omega) only [bndp_eq, ite_n, rd_eq, e12]
        by_cases h0k : σ1 10 (s 12 x) = 0
        · rw [if_pos h0k]
          have := cf_pos (σ1 10) 6143 1
          simp (disch := omega) only [wr_eq, gf_eq, pf_eq, oadd_eq]
          rw [us_ne (by decide)]
          simp (disch := omega) only [osub_eq]
          refine go _ ((hF.us (by decide)).us (by decide)) (fun a q => ?_) (fun _ _ => ?_) ?_ ?_
          · rw [us_ne (by decide)]
            by_cases e : a = s 12 x
            · rw [e, us_eq]; decide
            · rw [us_ni e]; exact q
          · rw [us_ne (by decide), us_eq]; decide
          · rw [us_eq, us_f (by decide), us_fun, cf_set h0k 6143 1 (by omega) (by omega), hc]
          · rw [us_eq]; omega
        · rw [if_neg h0k]
          simp (disch := omega) only [oadd_eq]
          exact go _ hF (fun _ q => q) (fun _ _ => h0k) hc (by omega)
      · rw [Pool_isNode_n hN]
        simp (disch := omega) only [bndp_eq, ite_y, oadd_eq]
        exact go _ hF (fun _ q => q) (fun q1 q2 => absurd ⟨by omega, q2⟩ hN) hc (by omega)
    · simp (disch := omega) only [ite_n]
      exact ⟨σ1, rfl, hF, hk, fun z h1 h2 => hz z h1 (by omega), hc, by omega⟩
theorem begin_loop {σ : St} (hS : ∀ p, 0 ≤ p → p < 6 → 0 ≤ σ 25 p ∧ σ 25 p ≤ 255) (K : St → Option (Int × St)) : ∀ (m : Nat) (s : St) (x : Int), 0 ≤ x → x ≤ 6 → 6 - x < m → Fr [10, 12, 30, 31] σ s → s 30 0 = 1 →
      (∀ p z, 0 ≤ p → p < x → 0 ≤ z → z < σ 25 p → 1 ≤ sl σ (σ 24 p) z → sl σ (σ 24 p) z < 6144 → ¬ s 10 (sl σ (σ 24 p) z) = 0) → s 31 0 = cf (s 10) 6143 1 → 6143 - 255 * x ≤ s 31 0 →
      ∃ σ2, E_begin_L19 K m s x = K σ2 ∧ Fr [10, 12, 30, 31] σ σ2 ∧ σ2 30 0 = 1 ∧ (∀ p z, 0 ≤ p → p < 6 → 0 ≤ z → z < σ 25 p → 1 ≤ sl σ (σ 24 p) z → sl σ (σ 24 p) z < 6144 → ¬ σ2 10 (sl σ (σ 24 p) z) = 0) ∧ σ2 31 0 = cf (σ2 10) 6143 1 ∧ 4096 ≤ σ2 31 0 := by
  intro m
  induction m with
  | zero => intro s x h0 hxn hm; exfalso; omega
  | succ m ih =>
    intro s x h0 hxn hm hF h30 hz hc hl
    unfold E_begin_L19
    by_cases hx : x < 6
    · have hsx := hS x h0 hx
      simp (disch := omega) only [ite_y, rd_eq, hF 24 (by decide), hF 25 (by decide)]
      obtain ⟨sa, ea, fa, -, ga⟩ := spread_eq s (σ 24 x) (σ 25 x) hsx
      have hca : sa 31 0 = cf (sa 10) 6143 1 := by rw [fa 31 (by decide), fa 10 (by decide)]; exact hc
      obtain ⟨sb, eb, fb, kb, zb, cb, lb⟩ := keepAll_loop (σ 25 x) hsx sa FU sa 0 (by omega) (by omega) (by unfold FU; omega) (Fr.rf _ _) (fun _ q => q) (fun z h1 h2 => by omega) hca (by omega)
      have ek : Pool_keepAll s (σ 24 x) (σ 25 x) = some (0, sb) := by unfold Pool_keepAll; rw [ea, bnd_eq]; exact eb
      rw [ek, bnd_eq]
      simp (disch := omega) only [oadd_eq]
      have e10 : sa 10 = s 10 := fa 10 (by decide)
      have e31 : sa 31 = s 31 := fa 31 (by decide)
      rw [e31] at lb
      refine ih sb (x + 1) (by omega) (by omega) (by omega) (hF.tr ((fa.mono (by decide)).tr (fb.mono (by decide)))) (by rw [fb 30 (by decide), fa 30 (by decide)]; exact h30) (fun p z p0 px z0 zn h1 h2 => ?_) cb (by omega)
      by_cases e : p = x
      · subst e
        have g := ga z z0 zn
        rw [sl_of (hF 8 (by decide)) (hF 9 (by decide))] at g
        have := zb z z0 zn (by rw [g]; exact h1) (by rw [g]; exact h2)
        rw [g] at this
        exact this
      · exact kb _ (by rw [e10]; exact hz p z p0 (by omega) z0 zn h1 h2)
    · simp (disch := omega) only [ite_n]
      exact ⟨s, rfl, hF, h30, fun p z p0 p6 => hz p z p0 (by omega), hc, by omega⟩
theorem forgetKept_ex (σ : St) : ∃ s, Pool_forgetKept σ = some (0, s) ∧ Fr [10, 30, 31] σ s ∧ s 30 0 = 1 ∧ s 31 0 = 6143 ∧ ∀ n : Nat, n = 6143 → cf (s 10) n 1 = n := by
  obtain ⟨sa, ea, fa, ga⟩ := fillK_loop σ FU σ 0 (by omega) (by omega) (by unfold FU; omega) (Fr.rf _ _) (fun z h1 h2 => by omega)
  refine ⟨us (us (us sa 10 0 1) 31 0 6143) 30 0 1, ?_, (((fa.mono (by decide)).us (by decide)).us (by decide)).us (by decide), us_eq _ _ _ _, ?_, fun n hn => ?_⟩
  · unfold Pool_forgetKept Jarr_fill_kept
    rw [ea, bnd_eq]
    simp (disch := omega) only [wr_eq, pf_eq]
  · rw [us_ne (by decide), us_eq]
  · rw [us_f (by decide), us_f (by decide), us_fun]
    exact cf_all n 1 (fun z z1 z2 => by rw [if_neg (by omega)]; exact ga z (by omega) (by omega))
theorem begin_ex {ρ : Int → Int → Prop} {σ τ : St} (h : Wd ρ σ τ) : ∃ σ1 ρ1, E_begin σ = some (σ 32 0, σ1) ∧ Wd ρ1 σ1 τ ∧ 4096 ≤ σ1 31 0 ∧ Fr [10, 12, 30, 31] σ σ1 := by
  obtain ⟨hB, hA, hP⟩ := h
  unfold E_begin Pool_hasRoom
  by_cases hr : σ 31 0 < 4096
  · obtain ⟨sb, ek, fb, b30, b31, bc⟩ := forgetKept_ex σ
    simp (disch := omega) only [↓gf_e, ↓oif_t, ↓retZp0_e, ↓bndp_e, ↓jn_e, ↓ite_y, ↓ek, ↓bnd_e]
    have bc1 := bc 6143 rfl
    obtain ⟨σ2, e2, f2, h30, hk, hc, hl⟩ := begin_loop (σ := σ) (fun p p0 p6 => (hP p p0 p6).1) (fun s2 => some (s2 32 0, s2)) FU sb 0 (by omega) (by omega) (by unfold FU; omega) (fb.mono (by decide)) b30 (fun p z p0 p6 => by omega) (by rw [bc1, b31]; omega) (by omega)
    rw [e2]
    have h32 : σ2 32 0 = σ 32 0 := by rw [f2 32 (by decide)]
    simp only [h32]
    have hu : ∀ p z, 0 ≤ p → p < 6 → 0 ≤ z → z < σ 25 p → used σ2 (sl σ (σ 24 p) z) := fun p z p0 p6 z0 zn => by
      have u := (hP p p0 p6).2.2.1.1 z z0 zn
      exact ⟨u.1, u.2.1, Or.inr (hk p z p0 p6 z0 zn u.1 u.2.1)⟩
    refine ⟨σ2, fun a b => ρ a b ∧ used σ2 a, rfl, ⟨⟨fun a b q => ⟨q.2, (hB.1 a b q.1).2⟩, fun a b c q1 q2 => hB.2.1 a b c q1.1 q2.1, fun a b c q1 q2 => hB.2.2 a b c q1.1 q2.1⟩, ⟨by omega, by omega, ?_⟩, fun p p0 p6 => ?_⟩, hl, f2⟩
    · have e1 : ∀ n : Nat, n = 6143 → cfr σ2 = cf (σ2 10) n 1 := fun n hn => by
        have e2 : (6144 - (1 : Int)).toNat = n := by omega
        unfold cfr
        rw [h30, e2]
      rw [e1 6143 rfl, hc]
      exact Int.le_refl _
    · rw [f2 24 (by decide), f2 25 (by decide)]
      obtain ⟨a1, a2, a3, a4⟩ := hP p p0 p6
      refine ⟨a1, a2, a3.of (f2 8 (by decide)) (f2 9 (by decide)) (fun z z0 zn => hu p z p0 p6 z0 zn), fun z z0 zn => ?_⟩
      rw [sl_of (f2 8 (by decide)) (f2 9 (by decide)), nu_of (f2 7 (by decide))]
      have c := a4 z z0 zn
      exact ⟨⟨c.1, hu p z p0 p6 z0 zn⟩, c.2⟩
  · simp (disch := omega) only [↓gf_e, ↓oif_f, ↓retZp1_e, ↓bndp_e, ↓jn_e, ↓ite_n]
    exact ⟨σ, ρ, rfl, ⟨hB, hA, hP⟩, by omega, Fr.rf _ _⟩
/-- a place has what was made -/
theorem keep_ends {ρ ρ' : Int → Int → Prop} {σ τ σ' τ' : St} {d y n k : Int} {l : List Int} (hW : Wd ρ σ τ) (hX : Sx ρ σ τ ρ' σ' τ' d) (hR : Rws l τ τ') (hl : ∀ p ∈ l, 6 ≤ p) {w : Int} (hw : 0 ≤ w ∧ w ≤ 9) (hI : RI ρ' σ' τ' y n w) (hk : 0 ≤ k ∧ k < 6) :
    ∃ σ2 τ2, E_keep σ' k y n = some (n, σ2) ∧ M_takes τ' w k = some (0, τ2) ∧ Wd ρ' σ2 τ2 ∧ Fr [24, 25] σ' σ2 ∧ Fr [1, 2, 3] τ' τ2 ∧ Rws [k] τ' τ2 ∧ τ2 3 k = n := by
  have hs := hI.2.1
  obtain ⟨τ2, e2, f2, r2, s2, c2⟩ := takes_ex τ' w k hw (by omega) (by rw [hs]; exact hI.1)
  rw [hs] at s2 c2
  have fk : Fr [24, 25] σ' (us (us σ' 24 k y) 25 k n) := ((Fr.rf _ _).us (by decide)).us (by decide)
  refine ⟨us (us σ' 24 k y) 25 k n, τ2, ?_, e2, ⟨?_, ?_, fun p p0 p6 => ?_⟩, fk, f2, r2, s2⟩
  · unfold E_keep
    simp (disch := omega) only [wr_eq]
  · exact (hX.2.2.1.es (fk 10 (by decide)) (fk 30 (by decide))).mono (by rw [f2 30 (by decide)]; omega)
  · exact hX.2.2.2.1.es (fk 10 (by decide)) (fk 30 (by decide)) (fk 31 (by decide))
  · have go : ∀ t m, RI ρ' σ' τ2 t m p → RI ρ' (us (us σ' 24 k y) 25 k n) τ2 t m p := fun t m h => h.es (fk 7 (by decide)) (fk 8 (by decide)) (fk 9 (by decide)) (fk 10 (by decide)) (fk 30 (by decide))
    by_cases e : p = k
    · subst e
      rw [us_eq, us_ne (by decide), us_eq]
      exact go _ _ (hI.cp s2 c2)
    · have a1 : us (us σ' 24 k y) 25 k n 24 p = σ 24 p := by rw [us_ne (by decide), us_ni e, hX.2.2.2.2.2.1 24 (by decide)]
      have a2 : us (us σ' 24 k y) 25 k n 25 p = σ 25 p := by rw [us_ni e, us_ne (by decide), hX.2.2.2.2.2.1 25 (by decide)]
      rw [a1, a2]
      exact go _ _ (((hW.2.2 p p0 p6).sw hX hR (fun q => by have := hl p q; omega)).rw r2 (by simp; exact e))

-- BASE: whole numbers in the machine's, memories as functions, programs as partial functions, and the kit's rows in these words
abbrev St : Type := Nat → Int → Int
abbrev Res : Type := Option (Int × St)
abbrev in32 (a : Int) : Prop := -2147483648 ≤ a ∧ a ≤ 2147483647
abbrev in64 (a : Int) : Prop := -9223372036854775808 ≤ a ∧ a ≤ 9223372036854775807
abbrev I (a : Int) : Int32 := Int32.ofInt a
abbrev J (a : Int) : Int64 := Int64.ofInt a
theorem I_toInt {a : Int} (h : in32 a) : (I a).toInt = a := Int32.toInt_ofInt_of_le (by omega) (by omega)
theorem J_toInt {a : Int} (h : in64 a) : (J a).toInt = a := Int64.toInt_ofInt_of_le (by omega) (by omega)
theorem in32_toInt (x : Int32) : in32 x.toInt := ⟨by have := x.le_toInt; omega, by have := x.toInt_lt; omega⟩
theorem in64_toInt (x : Int64) : in64 x.toInt := ⟨by have := x.le_toInt; omega, by have := x.toInt_lt; omega⟩
theorem in64_of {a : Int} (h : in32 a) : in64 a := ⟨by omega, by omega⟩
theorem I_lt {a b : Int} (ha : in32 a) (hb : in32 b) : I a < I b ↔ a < b := by rw [Int32.lt_iff_toInt_lt, I_toInt ha, I_toInt hb]
theorem I_le {a b : Int} (ha : in32 a) (hb : in32 b) : I a ≤ I b ↔ a ≤ b := by rw [Int32.le_iff_toInt_le, I_toInt ha, I_toInt hb]
theorem I_eq {a b : Int} (ha : in32 a) (hb : in32 b) : I a = I b ↔ a = b := by rw [← Int32.toInt_inj, I_toInt ha, I_toInt hb]
theorem I_clamp {a : Int} (h0 : 0 ≤ a) (h : in32 a) : (I a).toNatClampNeg = a.toNat := Int32.toNatClampNeg_ofInt_of_le (by omega) (by omega)
theorem I_in {i n : Int} (h0 : 0 ≤ i) (h : i < n) (hn : in32 i) {N : Nat} (hN : n = (N : Int)) : vp_in (I i) N := by
  intro q
  rcases q with q | q
  · rw [show (0 : Int32) = I 0 from rfl, I_lt hn (by decide)] at q; omega
  · rw [I_clamp h0 hn] at q; omega
-- memories
def us (σ : St) (f : Nat) (i v : Int) : St := fun g j => if g = f then (if j = i then v else σ g j) else σ g j
def R32 (σ : St) : Prop := ∀ f j, in32 (σ f j)
theorem us_R32 {σ : St} (h : R32 σ) {f : Nat} {i v : Int} (hv : in32 v) : R32 (us σ f i v) := by
  intro g j
  unfold us
  split
  · split
    · exact hv
    · exact h g j
  · exact h g j
theorem us_eq (σ : St) (f : Nat) (i v : Int) : us σ f i v f i = v := by simp [us]
theorem us_ne {σ : St} {f g : Nat} {i j v : Int} (h : g ≠ f) : us σ f i v g j = σ g j := by simp [us, h]
theorem us_ni {σ : St} {f : Nat} {i j v : Int} (h : j ≠ i) : us σ f i v f j = σ f j := by simp [us, h]
-- programs
def oadd {α : Type} (a b : Int) (k : Int → Option α) : Option α := if in32 (a + b) then k (a + b) else none
def osub {α : Type} (a b : Int) (k : Int → Option α) : Option α := if in32 (a - b) then k (a - b) else none
def omul {α : Type} (a b : Int) (k : Int → Option α) : Option α := if in32 (a * b) then k (a * b) else none
def oneg {α : Type} (a : Int) (k : Int → Option α) : Option α := if in32 (-a) then k (-a) else none
def odiv {α : Type} (a b : Int) (k : Int → Option α) : Option α := if 0 ≤ a ∧ 0 < b then k (a / b) else none
def orem {α : Type} (a b : Int) (k : Int → Option α) : Option α := if 0 ≤ a ∧ 0 < b then k (a % b) else none
def bshl (a b : Int) : Int := (I a <<< (I b &&& 31)).toInt
def bshr (a b : Int) : Int := (I a >>> (I b &&& 31)).toInt
def bushr (a b : Int) : Int := ((I a).toUInt32 >>> ((I b).toUInt32 &&& Int32.toUInt32 31)).toInt32.toInt
def band (a b : Int) : Int := (I a &&& I b).toInt
def bor (a b : Int) : Int := (I a ||| I b).toInt
def bi2b (a : Int) : Int := (I a).toInt8.toInt32.toInt
def lland (a b : Int) : Int := (J a &&& J b).toInt
def llor (a b : Int) : Int := (J a ||| J b).toInt
def llshl (a b : Int) : Int := (J a <<< ((I b).toInt64 &&& 63)).toInt
def llshr (a b : Int) : Int := (J a >>> ((I b).toInt64 &&& 63)).toInt
def llushr (a b : Int) : Int := ((J a).toUInt64 >>> ((I b).toInt64.toUInt64 &&& Int64.toUInt64 63)).toInt64.toInt
def lcmpv (a b : Int) : Int := if a < b then -1 else if a = b then 0 else 1
def imax (a b : Int) : Int := if a < b then b else a
def imin (a b : Int) : Int := if b < a then b else a
def opure {α : Type} (v : Int) (k : Int → Option α) : Option α := k v
def gf {α : Type} (σ : St) (f : Nat) (k : Int → Option α) : Option α := k (σ f 0)
def rd {α : Type} (σ : St) (f : Nat) (n i : Int) (k : Int → Option α) : Option α := if 0 ≤ i ∧ i < n then k (σ f i) else none
def pf {α : Type} (σ : St) (f : Nat) (v : Int) (k : St → Option α) : Option α := k (us σ f 0 v)
def wr {α : Type} (σ : St) (f : Nat) (n i v : Int) (k : St → Option α) : Option α := if 0 ≤ i ∧ i < n then k (us σ f i v) else none
def wrL {α : Type} (σ : St) (f : Nat) (n i v : Int) (k : St → Option α) : Option α := if (0 ≤ i ∧ i < n) ∧ in32 v then k (us σ f i v) else none
def wrZ {α : Type} (σ : St) (f : Nat) (n i v : Int) (k : St → Option α) : Option α := if (0 ≤ i ∧ i < n) ∧ (v = 0 ∨ v = 1) then k (us σ f i v) else none
def wrB {α : Type} (σ : St) (f : Nat) (n i v : Int) (k : St → Option α) : Option α := if (0 ≤ i ∧ i < n) ∧ (-128 ≤ v ∧ v ≤ 127) then k (us σ f i v) else none
def bnd {α : Type} (o : Res) (k : Int → St → Option α) : Option α := match o with
  | none => none
  | some q => k q.1 q.2
def retZ (v : Int) (σ : St) : Res := if v = 0 ∨ v = 1 then some (v, σ) else none
def oif {α : Type} (c : Prop) (d : Decidable c) (a b : Int) (k : Int → Option α) : Option α := if in32 (@ite Int c d a b) then k (@ite Int c d a b) else none
def FU : Nat := 8000
def RD : Nat := 12
theorem ck_s {α : Type} {c : Prop} {d : Decidable c} {k : Option α} {x : α} (h : (@ite _ c d k none) = some x) : c ∧ k = some x := by
  by_cases hc : c
  · rw [if_pos hc] at h; exact ⟨hc, h⟩
  · rw [if_neg hc] at h; cases h
theorem oadd_s {α : Type} {a b : Int} {k : Int → Option α} {x : α} (h : oadd a b k = some x) : ∃ c, c = a + b ∧ in32 c ∧ k c = some x := ⟨_, rfl, ck_s h⟩
theorem osub_s {α : Type} {a b : Int} {k : Int → Option α} {x : α} (h : osub a b k = some x) : ∃ c, c = a - b ∧ in32 c ∧ k c = some x := ⟨_, rfl, ck_s h⟩
theorem omul_s {α : Type} {a b : Int} {k : Int → Option α} {x : α} (h : omul a b k = some x) : ∃ c, c = a * b ∧ in32 c ∧ k c = some x := ⟨_, rfl, ck_s h⟩
theorem oneg_s {α : Type} {a : Int} {k : Int → Option α} {x : α} (h : oneg a k = some x) : ∃ c, c = -a ∧ in32 c ∧ k c = some x := ⟨_, rfl, ck_s h⟩
theorem div_in {a b : Int} (ha : in32 a) (h0 : 0 ≤ a) (hb : 0 < b) : 0 ≤ a / b ∧ in32 (a / b) := by
  have h1 := Int.ediv_nonneg h0 (Int.le_of_lt hb)
  have h2 := Int.ediv_le_self b h0
  exact ⟨h1, by omega⟩
theorem odiv_s {α : Type} {a b : Int} {k : Int → Option α} {x : α} (ha : in32 a) (h : odiv a b k = some x) : ∃ c, (c = a / b ∧ 0 ≤ a ∧ 0 < b) ∧ in32 c ∧ k c = some x := by
  obtain ⟨h1, h2⟩ := ck_s h
  exact ⟨_, ⟨rfl, h1⟩, (div_in ha h1.1 h1.2).2, h2⟩
theorem orem_s {α : Type} {a b : Int} {k : Int → Option α} {x : α} (hb : in32 b) (h : orem a b k = some x) : ∃ c, (c = a % b ∧ 0 ≤ a ∧ 0 < b) ∧ in32 c ∧ k c = some x := by
  obtain ⟨h1, h2⟩ := ck_s h
  have h3 := Int.emod_nonneg a (show b ≠ 0 by omega)
  have h4 := Int.emod_lt_of_pos a h1.2
  exact ⟨_, ⟨rfl, h1⟩, by omega, h2⟩
theorem opure_s {α : Type} {v : Int} {k : Int → Option α} {x : α} (h : opure v k = some x) (hv : in32 v) : ∃ c, c = v ∧ in32 c ∧ k c = some x := ⟨_, rfl, hv, h⟩
theorem opure_l {α : Type} {v : Int} {k : Int → Option α} {x : α} (h : opure v k = some x) (hv : in64 v) : ∃ c, c = v ∧ in64 c ∧ k c = some x := ⟨_, rfl, hv, h⟩
theorem gf_s {α : Type} {σ : St} (hR : R32 σ) {f : Nat} {k : Int → Option α} {x : α} (h : gf σ f k = some x) : ∃ c, c = σ f 0 ∧ in32 c ∧ k c = some x := ⟨_, rfl, hR f 0, h⟩
theorem rd_s {α : Type} {σ : St} (hR : R32 σ) {f : Nat} {n i : Int} {k : Int → Option α} {x : α} (h : rd σ f n i k = some x) : ∃ c, (c = σ f i ∧ 0 ≤ i ∧ i < n) ∧ in32 c ∧ k c = some x := by
  obtain ⟨h1, h2⟩ := ck_s h
  exact ⟨_, ⟨rfl, h1⟩, hR f i, h2⟩
theorem pf_s {α : Type} {σ : St} (hR : R32 σ) {f : Nat} {v : Int} (hv : in32 v) {k : St → Option α} {x : α} (h : pf σ f v k = some x) : ∃ τ, τ = us σ f 0 v ∧ R32 τ ∧ k τ = some x := ⟨_, rfl, us_R32 hR hv, h⟩
theorem wr_s {α : Type} {σ : St} (hR : R32 σ) {f : Nat} {n i v : Int} (hv : in32 v) {k : St → Option α} {x : α} (h : wr σ f n i v k = some x) : ∃ τ, (τ = us σ f i v ∧ 0 ≤ i ∧ i < n) ∧ R32 τ ∧ k τ = some x := by
  obtain ⟨h1, h2⟩ := ck_s h
  exact ⟨_, ⟨rfl, h1⟩, us_R32 hR hv, h2⟩
theorem wrL_s {α : Type} {σ : St} (hR : R32 σ) {f : Nat} {n i v : Int} {k : St → Option α} {x : α} (h : wrL σ f n i v k = some x) : ∃ τ, (τ = us σ f i v ∧ 0 ≤ i ∧ i < n) ∧ R32 τ ∧ k τ = some x := by
  obtain ⟨h1, h2⟩ := ck_s h
  exact ⟨_, ⟨rfl, h1.1⟩, us_R32 hR h1.2, h2⟩
theorem wrZ_s {α : Type} {σ : St} (hR : R32 σ) {f : Nat} {n i v : Int} {k : St → Option α} {x : α} (h : wrZ σ f n i v k = some x) : ∃ τ, ((τ = us σ f i v ∧ 0 ≤ i ∧ i < n) ∧ (v = 0 ∨ v = 1)) ∧ R32 τ ∧ k τ = some x := by
  obtain ⟨h1, h2⟩ := ck_s h
  exact ⟨_, ⟨⟨rfl, h1.1⟩, h1.2⟩, us_R32 hR (by rcases h1.2 with q | q <;> rw [q] <;> decide), h2⟩
theorem wrB_s {α : Type} {σ : St} (hR : R32 σ) {f : Nat} {n i v : Int} {k : St → Option α} {x : α} (h : wrB σ f n i v k = some x) : ∃ τ, ((τ = us σ f i v ∧ 0 ≤ i ∧ i < n) ∧ (-128 ≤ v ∧ v ≤ 127)) ∧ R32 τ ∧ k τ = some x := by
  obtain ⟨h1, h2⟩ := ck_s h
  exact ⟨_, ⟨⟨rfl, h1.1⟩, h1.2⟩, us_R32 hR (by omega), h2⟩
theorem bnd_s {α : Type} {o : Res} {k : Int → St → Option α} {x : α} (h : bnd o k = some x) : ∃ r τ, o = some (r, τ) ∧ k r τ = some x := by
  cases o with
  | none => cases h
  | some q => exact ⟨q.1, q.2, rfl, h⟩
theorem oif_s {α : Type} {c : Prop} {d : Decidable c} {a b : Int} {k : Int → Option α} {x : α} (h : oif c d a b k = some x) : ∃ v, v = @ite Int c d a b ∧ in32 v ∧ k v = some x := ⟨_, rfl, ck_s h⟩
theorem retZ_s {v : Int} {σ : St} {x : Int × St} (h : retZ v σ = some x) : (v = 0 ∨ v = 1) ∧ some (v, σ) = some x := ck_s h
theorem ite_t {α : Type} {c : Prop} {d : Decidable c} {A B : Option α} {x : Option α} (hc : c) (h : (@ite _ c d A B) = x) : A = x := (if_pos hc).symm.trans h
theorem ite_f {α : Type} {c : Prop} {d : Decidable c} {A B : Option α} {x : Option α} (hc : ¬ c) (h : (@ite _ c d A B) = x) : B = x := (if_neg hc).symm.trans h
theorem bshl_in (a b : Int) : in32 (bshl a b) := in32_toInt _
theorem bshr_in (a b : Int) : in32 (bshr a b) := in32_toInt _
theorem bushr_in (a b : Int) : in32 (bushr a b) := in32_toInt _
theorem band_in (a b : Int) : in32 (band a b) := in32_toInt _
theorem bor_in (a b : Int) : in32 (bor a b) := in32_toInt _
theorem bi2b_in (a : Int) : in32 (bi2b a) := in32_toInt _
theorem lland_in (a b : Int) : in64 (lland a b) := in64_toInt _
theorem llor_in (a b : Int) : in64 (llor a b) := in64_toInt _
theorem llshl_in (a b : Int) : in64 (llshl a b) := in64_toInt _
theorem llshr_in (a b : Int) : in64 (llshr a b) := in64_toInt _
theorem llushr_in (a b : Int) : in64 (llushr a b) := in64_toInt _
theorem lcmpv_in (a b : Int) : in32 (lcmpv a b) := by
  unfold lcmpv
  split
  · decide
  · split <;> decide
theorem imax_in {a b : Int} (ha : in32 a) (hb : in32 b) : in32 (imax a b) := by unfold imax; split <;> assumption
theorem imin_in {a b : Int} (ha : in32 a) (hb : in32 b) : in32 (imin a b) := by unfold imin; split <;> assumption
def bndp {α : Type} (o : Option Int) (k : Int → Option α) : Option α := match o with
  | none => none
  | some q => k q
theorem bndp_s {α : Type} {o : Option Int} {k : Int → Option α} {x : α} (h : bndp o k = some x) : ∃ r, o = some r ∧ k r = some x := by
  cases o with
  | none => cases h
  | some q => exact ⟨q, rfl, h⟩
def jn {α β : Type} (k : β) (b : β → Option α) : Option α := b k
theorem jn_s {α β : Type} {k : β} {b : β → Option α} {x : α} (h : jn k b = some x) : ∃ j, j = k ∧ b j = some x := ⟨_, rfl, h⟩
def pfZ {α : Type} (σ : St) (f : Nat) (v : Int) (k : St → Option α) : Option α := if v = 0 ∨ v = 1 then k (us σ f 0 v) else none
theorem pfZ_s {α : Type} {σ : St} (hR : R32 σ) {f : Nat} {v : Int} {k : St → Option α} {x : α} (h : pfZ σ f v k = some x) : ∃ τ, (τ = us σ f 0 v ∧ (v = 0 ∨ v = 1)) ∧ R32 τ ∧ k τ = some x := by
  obtain ⟨h1, h2⟩ := ck_s h
  exact ⟨_, ⟨rfl, h1⟩, us_R32 hR (by rcases h1 with q | q <;> rw [q] <;> decide), h2⟩
def retZp (v : Int) : Option Int := if v = 0 ∨ v = 1 then some v else none
theorem retZp_s {v x : Int} (h : retZp v = some x) : (v = 0 ∨ v = 1) ∧ some v = some x := ck_s h
def iabs (a : Int) : Int := if a < 0 then -a else a
def oabs {α : Type} (a : Int) (k : Int → Option α) : Option α := if in32 (-a) then k (iabs a) else none
theorem oabs_s {α : Type} {a : Int} (ha : in32 a) {k : Int → Option α} {x : α} (h : oabs a k = some x) : ∃ c, c = iabs a ∧ in32 c ∧ k c = some x := by
  obtain ⟨h1, h2⟩ := ck_s h
  refine ⟨_, rfl, ?_, h2⟩
  unfold iabs
  split <;> assumption

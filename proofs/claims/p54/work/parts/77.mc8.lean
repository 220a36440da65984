-- P54, 8: the acts, by the object
theorem front_q {k : Nat} {σ τ : St} {i v l n : Int} (hk : k < 512) (hS : SS k σ τ) (hi : 0 ≤ i ∧ i < 6) (hl : 0 ≤ l ∧ l < 6) (hv : -999 ≤ v ∧ v ≤ 999) (h3 : τ 3 i = n) (hn : n ≤ 254) :
    ∃ r σ1 τ1, E_front σ i v l = some (r, σ1) ∧ SS (k + 1) σ1 τ1 ∧ Op τ τ1 l (n + 1) (fun x => if x = 0 then v else τ 1 (256 * i + (x - 1))) r := by
  have ok := hS.ok hk
  obtain ⟨r, σ1, τ1, e1, e2, e3⟩ := call_front k σ τ i v l hk hS (by omega) (by omega) (by omega)
  obtain ⟨r9, τ9, e4, e5⟩ := front_m ok hi hl hv h3 hn
  rw [e4] at e2
  cases e2
  exact ⟨r, σ1, τ1, e1, e3, e5⟩
theorem back_q {k : Nat} {σ τ : St} {i v l n : Int} (hk : k < 512) (hS : SS k σ τ) (hi : 0 ≤ i ∧ i < 6) (hl : 0 ≤ l ∧ l < 6) (hv : -999 ≤ v ∧ v ≤ 999) (h3 : τ 3 i = n) (hn : n ≤ 254) :
    ∃ r σ1 τ1, E_back σ i v l = some (r, σ1) ∧ SS (k + 1) σ1 τ1 ∧ Op τ τ1 l (n + 1) (fun x => if x = n then v else τ 1 (256 * i + x)) r := by
  have ok := hS.ok hk
  obtain ⟨r, σ1, τ1, e1, e2, e3⟩ := call_back k σ τ i v l hk hS (by omega) (by omega) (by omega)
  obtain ⟨r9, τ9, e4, e5⟩ := back_m ok hi hl hv h3 hn
  rw [e4] at e2
  cases e2
  exact ⟨r, σ1, τ1, e1, e3, e5⟩
theorem first_q {k : Nat} {σ τ : St} {i l n : Int} (hk : k < 512) (hS : SS k σ τ) (hi : 0 ≤ i ∧ i < 6) (hl : 0 ≤ l ∧ l < 6) (h3 : τ 3 i = n) (hn : 1 ≤ n) :
    ∃ r σ1 τ1, E_first σ i l = some (r, σ1) ∧ SS (k + 1) σ1 τ1 ∧ Op τ τ1 l (n - 1) (fun x => τ 1 (256 * i + (x + 1))) r ∧ τ1 32 0 = 1 ∧ τ1 5 0 = τ 1 (256 * i) := by
  have ok := hS.ok hk
  obtain ⟨r, σ1, τ1, e1, e2, e3⟩ := call_first k σ τ i l hk hS (by omega) (by omega)
  obtain ⟨r9, τ9, e4, e5⟩ := first_m ok hi hl h3 hn
  rw [e4] at e2
  cases e2
  exact ⟨r, σ1, τ1, e1, e3, e5⟩
theorem last_q {k : Nat} {σ τ : St} {i l n : Int} (hk : k < 512) (hS : SS k σ τ) (hi : 0 ≤ i ∧ i < 6) (hl : 0 ≤ l ∧ l < 6) (h3 : τ 3 i = n) (hn : 1 ≤ n) :
    ∃ r σ1 τ1, E_last σ i l = some (r, σ1) ∧ SS (k + 1) σ1 τ1 ∧ Op τ τ1 l (n - 1) (fun x => τ 1 (256 * i + x)) r ∧ τ1 32 0 = 1 ∧ τ1 5 0 = τ 1 (256 * i + (n - 1)) := by
  have ok := hS.ok hk
  obtain ⟨r, σ1, τ1, e1, e2, e3⟩ := call_last k σ τ i l hk hS (by omega) (by omega)
  obtain ⟨r9, τ9, e4, e5⟩ := last_m ok hi hl h3 hn
  rw [e4] at e2
  cases e2
  exact ⟨r, σ1, τ1, e1, e3, e5⟩
theorem sets_q {k : Nat} {σ τ : St} {i x v l n : Int} (hk : k < 512) (hS : SS k σ τ) (hi : 0 ≤ i ∧ i < 6) (hl : 0 ≤ l ∧ l < 6) (hv : -999 ≤ v ∧ v ≤ 999) (h3 : τ 3 i = n) (hx : 0 ≤ x ∧ x < n) (hn : n ≤ 254) :
    ∃ r σ1 τ1, E_sets σ i x v l = some (r, σ1) ∧ SS (k + 1) σ1 τ1 ∧ Op τ τ1 l n (fun y => if y = x then v else τ 1 (256 * i + y)) r ∧ (0 < r ↔ τ 1 (256 * i + x) ≠ v) := by
  have ok := hS.ok hk
  obtain ⟨r, σ1, τ1, e1, e2, e3⟩ := call_sets k σ τ i x v l hk hS (by omega) (by omega) (by omega) (by omega)
  obtain ⟨r9, τ9, e4, e5⟩ := sets_m ok hi hl hv h3 hx hn
  rw [e4] at e2
  cases e2
  exact ⟨r, σ1, τ1, e1, e3, e5⟩
theorem keeps_q {k : Nat} {σ τ : St} {i x l n : Int} (hk : k < 512) (hS : SS k σ τ) (hi : 0 ≤ i ∧ i < 6) (hl : 0 ≤ l ∧ l < 6) (h3 : τ 3 i = n) (hx : 0 ≤ x ∧ x ≤ n) (hn : n ≤ 254) :
    ∃ r σ1 τ1, E_keeps σ i x l = some (r, σ1) ∧ SS (k + 1) σ1 τ1 ∧ Op τ τ1 l x (fun y => τ 1 (256 * i + y)) r := by
  have ok := hS.ok hk
  obtain ⟨r, σ1, τ1, e1, e2, e3⟩ := call_keeps k σ τ i x l hk hS (by omega) (by omega) (by omega)
  obtain ⟨r9, τ9, e4, e5⟩ := keeps_m ok hi hl h3 hx
  rw [e4] at e2
  cases e2
  exact ⟨r, σ1, τ1, e1, e3, e5⟩
theorem skips_q {k : Nat} {σ τ : St} {i x l n : Int} (hk : k < 512) (hS : SS k σ τ) (hi : 0 ≤ i ∧ i < 6) (hl : 0 ≤ l ∧ l < 6) (h3 : τ 3 i = n) (hx : 0 ≤ x ∧ x ≤ n) (hn : n ≤ 254) :
    ∃ r σ1 τ1, E_skips σ i x l = some (r, σ1) ∧ SS (k + 1) σ1 τ1 ∧ Op τ τ1 l (n - x) (fun y => τ 1 (256 * i + (y + x))) r := by
  have ok := hS.ok hk
  obtain ⟨r, σ1, τ1, e1, e2, e3⟩ := call_skips k σ τ i x l hk hS (by omega) (by omega) (by omega)
  obtain ⟨r9, τ9, e4, e5⟩ := skips_m ok hi hl h3 hx
  rw [e4] at e2
  cases e2
  exact ⟨r, σ1, τ1, e1, e3, e5⟩
theorem turned_q {k : Nat} {σ τ : St} {i x l n : Int} (hk : k < 512) (hS : SS k σ τ) (hi : 0 ≤ i ∧ i < 6) (hl : 0 ≤ l ∧ l < 6) (h3 : τ 3 i = n) (hx : 0 ≤ x ∧ x ≤ 255) (hn : 1 ≤ n) :
    ∃ r σ1 τ1, E_turned σ i x l = some (r, σ1) ∧ SS (k + 1) σ1 τ1 ∧ Op τ τ1 l n (fun y => τ 1 (256 * i + (y + x) % n)) r := by
  have ok := hS.ok hk
  obtain ⟨r, σ1, τ1, e1, e2, e3⟩ := call_turned k σ τ i x l hk hS (by omega) (by omega) (by omega)
  obtain ⟨r9, τ9, e4, e5⟩ := turned_m ok hi hl h3 hx hn
  rw [e4] at e2
  cases e2
  exact ⟨r, σ1, τ1, e1, e3, e5⟩
theorem fills_q {k : Nat} {σ τ : St} {x v l : Int} (hk : k < 512) (hS : SS k σ τ) (hl : 0 ≤ l ∧ l < 6) (hv : -999 ≤ v ∧ v ≤ 999) (hx : 0 ≤ x ∧ x ≤ 200) :
    ∃ r σ1 τ1, E_fills σ x v l = some (r, σ1) ∧ SS (k + 1) σ1 τ1 ∧ Op τ τ1 l x (fun _ => v) r := by
  have ok := hS.ok hk
  obtain ⟨r, σ1, τ1, e1, e2, e3⟩ := call_fills k σ τ x v l hk hS (by omega) (by omega) (by omega)
  obtain ⟨r9, τ9, e4, e5⟩ := fills_m ok hl hv hx
  rw [e4] at e2
  cases e2
  exact ⟨r, σ1, τ1, e1, e3, e5⟩
theorem heaps_q {k : Nat} {σ τ : St} {i l n : Int} (hk : k < 512) (hS : SS k σ τ) (hi : 0 ≤ i ∧ i < 6) (hl : 0 ≤ l ∧ l < 6) (h3 : τ 3 i = n) (hn : n ≤ 254) :
    ∃ r σ1 τ1, E_heaps σ i l = some (r, σ1) ∧ SS (k + 1) σ1 τ1 ∧ Op τ τ1 l n (fun x => τ1 1 (256 * l + x)) r ∧ HP (fun x => τ1 1 (256 * l + x)) n ∧ sm (fun x => τ1 1 (256 * l + x)) n.toNat = sm (fun x => τ 1 (256 * i + x)) n.toNat ∧ (1 ≤ n → τ1 1 (256 * l) = mnl (fun x => τ 1 (256 * i + x)) n.toNat) := by
  have ok := hS.ok hk
  obtain ⟨r, σ1, τ1, e1, e2, e3⟩ := call_heaps k σ τ i l hk hS (by omega) (by omega)
  obtain ⟨r9, τ9, e4, e5⟩ := heaps_m ok hi hl h3 hn
  rw [e4] at e2
  cases e2
  exact ⟨r, σ1, τ1, e1, e3, e5⟩
theorem pop_q {k : Nat} {σ τ : St} {i l n : Int} (hk : k < 512) (hS : SS k σ τ) (hi : 0 ≤ i ∧ i < 6) (hl : 0 ≤ l ∧ l < 6) (h3 : τ 3 i = n) (hn : 1 ≤ n ∧ n ≤ 254) :
    ∃ r σ1 τ1, E_pop σ i l = some (r, σ1) ∧ SS (k + 1) σ1 τ1 ∧ Op τ τ1 l (n - 1) (fun x => τ1 1 (256 * l + x)) r ∧ sm (fun x => τ1 1 (256 * l + x)) (n - 1).toNat + τ 1 (256 * i) = sm (fun x => τ 1 (256 * i + x)) n.toNat ∧ τ1 32 0 = 1 ∧ τ1 5 0 = τ 1 (256 * i) := by
  have ok := hS.ok hk
  obtain ⟨r, σ1, τ1, e1, e2, e3⟩ := call_pop k σ τ i l hk hS (by omega) (by omega)
  obtain ⟨r9, τ9, e4, e5⟩ := pop_m ok hi hl h3 hn
  rw [e4] at e2
  cases e2
  exact ⟨r, σ1, τ1, e1, e3, e5⟩
theorem appends_q {k : Nat} {σ τ : St} {i j l n m : Int} (hk : k < 512) (hS : SS k σ τ) (hi : 0 ≤ i ∧ i < 6) (hj : 0 ≤ j ∧ j < 6) (hl : 0 ≤ l ∧ l < 6) (h3 : τ 3 i = n) (hm : τ 3 j = m) (hn : n + m ≤ 255) :
    ∃ r σ1 τ1, E_appends σ i j l = some (r, σ1) ∧ SS (k + 1) σ1 τ1 ∧ Op τ τ1 l (n + m) (fun x => if x < n then τ 1 (256 * i + x) else τ 1 (256 * j + (x - n))) r := by
  have ok := hS.ok hk
  obtain ⟨r, σ1, τ1, e1, e2, e3⟩ := call_appends k σ τ i j l hk hS (by omega) (by omega) (by omega)
  obtain ⟨r9, τ9, e4, e5⟩ := appends_m ok hi hj hl h3 hm hn
  rw [e4] at e2
  cases e2
  exact ⟨r, σ1, τ1, e1, e3, e5⟩
theorem adds_q {k : Nat} {σ τ : St} {i x v l n : Int} (hk : k < 512) (hS : SS k σ τ) (hi : 0 ≤ i ∧ i < 6) (hl : 0 ≤ l ∧ l < 6) (hv : -999 ≤ v ∧ v ≤ 999) (h3 : τ 3 i = n) (hx : 0 ≤ x ∧ x ≤ n) (hn : n ≤ 254) :
    ∃ r σ1 τ1, E_adds σ i x n v l = some (r, σ1) ∧ SS (k + 1) σ1 τ1 ∧ Op τ τ1 l n (fun y => if y < x then τ 1 (256 * i + y) else hd9 (τ 1 (256 * i + y) + v)) r := by
  have ok := hS.ok hk
  obtain ⟨r, σ1, τ1, e1, e2, e3⟩ := call_adds k σ τ i x n v l hk hS (by omega) (by omega) (by omega) (by omega) (by omega)
  obtain ⟨r9, τ9, e4, e5⟩ := adds_m ok hi hl hv h3 hx hn
  rw [e4] at e2
  cases e2
  exact ⟨r, σ1, τ1, e1, e3, e5⟩
theorem sides_q {k : Nat} {σ τ : St} {i b l n m : Int} (hk : k < 512) (hS : SS k σ τ) (hi : 0 ≤ i ∧ i < 6) (hl : 0 ≤ l ∧ l < 6) (h3 : τ 3 i = n) (hm : (b = 0 ∧ m = n / 2) ∨ (b = 1 ∧ m = (n - 1) / 2)) (h1 : 1 ≤ m) :
    ∃ σ1 τ1, E_sides σ i b l = some (m, σ1) ∧ SS (k + 1) σ1 τ1 ∧ Op τ τ1 l m (fun x => τ 1 (256 * i + (1 + b + 2 * x))) 0 := by
  have ok := hS.ok hk
  obtain ⟨r, σ1, τ1, e1, e2, e3⟩ := call_sides k σ τ i b l hk hS (by omega) (by omega) (by omega)
  obtain ⟨τ9, e4, e5⟩ := sides_m ok hi hl h3 hm h1
  rw [e4] at e2
  cases e2
  exact ⟨σ1, τ1, e1, e3, e5⟩
theorem first_0 {k : Nat} {σ τ : St} {i l : Int} (hk : k < 512) (hS : SS k σ τ) (hi : 0 ≤ i ∧ i < 6) (hl : 0 ≤ l ∧ l < 6) (h3 : τ 3 i = 0) :
    ∃ σ1 τ1, E_first σ i l = some ((-2), σ1) ∧ SS (k + 1) σ1 τ1 ∧ Rq τ τ1 := by
  have ok := hS.ok hk
  have n0 := ok.2 i hi.1 hi.2
  obtain ⟨r, σ1, τ1, e1, e2, e3⟩ := call_first k σ τ i l hk hS (by omega) (by omega)
  have e4 : M_first τ i l = some ((-2), us τ 33 0 0) := by
    unfold M_first
    simp (disch := omega) only [↓jn_e, ↓ite_y, ↓ite_n, ↓oadd_eq, ↓osub_eq, ↓omul_eq, ↓odiv_eq, ↓orem_eq, ↓rd_eq, ↓wr_eq, ↓gf_e, ↓pf_e, ↓bnd_e, ↓bndp_e, ↓opure_e, ↓oif_t, ↓oif_f, ↓E_isPlace_y, ↓E_isPlace_n, ↓E_isNumber_y, ↓E_isNumber_n, ↓M_isPlace_y, ↓M_isPlace_n, ↓M_isNumber_y, ↓M_isNumber_n, ↓M_in_y, ↓M_in_n, ↓us_ne, ↓h3]
    exact if_pos trivial
  rw [e4] at e2
  cases e2
  exact ⟨σ1, _, e1, e3, Rq.fr ((Fr.rf [33] τ).us (by decide)) (by decide) (by decide)⟩
theorem last_0 {k : Nat} {σ τ : St} {i l : Int} (hk : k < 512) (hS : SS k σ τ) (hi : 0 ≤ i ∧ i < 6) (hl : 0 ≤ l ∧ l < 6) (h3 : τ 3 i = 0) :
    ∃ σ1 τ1, E_last σ i l = some ((-2), σ1) ∧ SS (k + 1) σ1 τ1 ∧ Rq τ τ1 := by
  have ok := hS.ok hk
  have n0 := ok.2 i hi.1 hi.2
  obtain ⟨r, σ1, τ1, e1, e2, e3⟩ := call_last k σ τ i l hk hS (by omega) (by omega)
  have e4 : M_last τ i l = some ((-2), us τ 33 0 0) := by
    unfold M_last
    simp (disch := omega) only [↓jn_e, ↓ite_y, ↓ite_n, ↓oadd_eq, ↓osub_eq, ↓omul_eq, ↓odiv_eq, ↓orem_eq, ↓rd_eq, ↓wr_eq, ↓gf_e, ↓pf_e, ↓bnd_e, ↓bndp_e, ↓opure_e, ↓oif_t, ↓oif_f, ↓E_isPlace_y, ↓E_isPlace_n, ↓E_isNumber_y, ↓E_isNumber_n, ↓M_isPlace_y, ↓M_isPlace_n, ↓M_isNumber_y, ↓M_isNumber_n, ↓M_in_y, ↓M_in_n, ↓us_ne, ↓h3]
    exact if_pos trivial
  rw [e4] at e2
  cases e2
  exact ⟨σ1, _, e1, e3, Rq.fr ((Fr.rf [33] τ).us (by decide)) (by decide) (by decide)⟩
theorem pop_0 {k : Nat} {σ τ : St} {i l : Int} (hk : k < 512) (hS : SS k σ τ) (hi : 0 ≤ i ∧ i < 6) (hl : 0 ≤ l ∧ l < 6) (h3 : τ 3 i = 0) :
    ∃ σ1 τ1, E_pop σ i l = some ((-2), σ1) ∧ SS (k + 1) σ1 τ1 ∧ Rq τ τ1 := by
  have ok := hS.ok hk
  have n0 := ok.2 i hi.1 hi.2
  obtain ⟨r, σ1, τ1, e1, e2, e3⟩ := call_pop k σ τ i l hk hS (by omega) (by omega)
  have e4 : M_pop τ i l = some ((-2), us τ 33 0 0) := by
    unfold M_pop
    simp (disch := omega) only [↓jn_e, ↓ite_y, ↓ite_n, ↓oadd_eq, ↓osub_eq, ↓omul_eq, ↓odiv_eq, ↓orem_eq, ↓rd_eq, ↓wr_eq, ↓gf_e, ↓pf_e, ↓bnd_e, ↓bndp_e, ↓opure_e, ↓oif_t, ↓oif_f, ↓E_isPlace_y, ↓E_isPlace_n, ↓E_isNumber_y, ↓E_isNumber_n, ↓M_isPlace_y, ↓M_isPlace_n, ↓M_isNumber_y, ↓M_isNumber_n, ↓M_in_y, ↓M_in_n, ↓us_ne, ↓h3]
    exact if_pos trivial
  rw [e4] at e2
  cases e2
  exact ⟨σ1, _, e1, e3, Rq.fr ((Fr.rf [33] τ).us (by decide)) (by decide) (by decide)⟩
theorem turned_0 {k : Nat} {σ τ : St} {i x l : Int} (hk : k < 512) (hS : SS k σ τ) (hi : 0 ≤ i ∧ i < 6) (hl : 0 ≤ l ∧ l < 6) (h3 : τ 3 i = 0) (hx : 0 ≤ x ∧ x ≤ 255) :
    ∃ σ1 τ1, E_turned σ i x l = some ((-2), σ1) ∧ SS (k + 1) σ1 τ1 ∧ Rq τ τ1 := by
  have ok := hS.ok hk
  have n0 := ok.2 i hi.1 hi.2
  obtain ⟨r, σ1, τ1, e1, e2, e3⟩ := call_turned k σ τ i x l hk hS (by omega) (by omega) (by omega)
  have e4 : M_turned τ i x l = some ((-2), us τ 33 0 0) := by
    unfold M_turned
    simp (disch := omega) only [↓jn_e, ↓ite_y, ↓ite_n, ↓oadd_eq, ↓osub_eq, ↓omul_eq, ↓odiv_eq, ↓orem_eq, ↓rd_eq, ↓wr_eq, ↓gf_e, ↓pf_e, ↓bnd_e, ↓bndp_e, ↓opure_e, ↓oif_t, ↓oif_f, ↓E_isPlace_y, ↓E_isPlace_n, ↓E_isNumber_y, ↓E_isNumber_n, ↓M_isPlace_y, ↓M_isPlace_n, ↓M_isNumber_y, ↓M_isNumber_n, ↓M_in_y, ↓M_in_n, ↓us_ne, ↓h3]
    exact if_pos trivial
  rw [e4] at e2
  cases e2
  exact ⟨σ1, _, e1, e3, Rq.fr ((Fr.rf [33] τ).us (by decide)) (by decide) (by decide)⟩
theorem sets_n {k : Nat} {σ τ : St} {i x v l : Int} (hk : k < 512) (hS : SS k σ τ) (hi : 0 ≤ i ∧ i < 6) (hl : 0 ≤ l ∧ l < 6) (h3 : τ 3 i = x) (hv : -999 ≤ v ∧ v ≤ 999) :
    ∃ σ1 τ1, E_sets σ i x v l = some ((-1), σ1) ∧ SS (k + 1) σ1 τ1 ∧ Rq τ τ1 := by
  have ok := hS.ok hk
  have n0 := ok.2 i hi.1 hi.2
  obtain ⟨r, σ1, τ1, e1, e2, e3⟩ := call_sets k σ τ i x v l hk hS (by omega) (by omega) (by omega) (by omega)
  have e4 : M_sets τ i x v l = some ((-1), us τ 33 0 0) := by
    unfold M_sets
    have b2 : M_isIndex (us τ 33 0 0) i x = some 0 := isIndexM_n hi (by rw [us_ne (by decide)]; omega) (by rw [us_ne (by decide)]; omega)
    simp (disch := omega) only [↓jn_e, ↓ite_y, ↓ite_n, ↓oadd_eq, ↓osub_eq, ↓omul_eq, ↓odiv_eq, ↓orem_eq, ↓rd_eq, ↓wr_eq, ↓gf_e, ↓pf_e, ↓bnd_e, ↓bndp_e, ↓opure_e, ↓oif_t, ↓oif_f, ↓E_isPlace_y, ↓E_isPlace_n, ↓E_isNumber_y, ↓E_isNumber_n, ↓M_isPlace_y, ↓M_isPlace_n, ↓M_isNumber_y, ↓M_isNumber_n, ↓M_in_y, ↓M_in_n, ↓us_ne, ↓b2]
  rw [e4] at e2
  cases e2
  exact ⟨σ1, _, e1, e3, Rq.fr ((Fr.rf [33] τ).us (by decide)) (by decide) (by decide)⟩
theorem sides_0 {k : Nat} {σ τ : St} {i b l n : Int} (hk : k < 512) (hS : SS k σ τ) (hi : 0 ≤ i ∧ i < 6) (hl : 0 ≤ l ∧ l < 6) (h3 : τ 3 i = n) (hb : (b = 0 ∧ n ≤ 1) ∨ (b = 1 ∧ n ≤ 2)) :
    ∃ σ1 τ1, E_sides σ i b l = some (-2, σ1) ∧ SS (k + 1) σ1 τ1 ∧ Rq τ τ1 := by
  have ok := hS.ok hk
  have n0 := (ok.2 i hi.1 hi.2).1
  obtain ⟨r, σ1, τ1, e1, e2, e3⟩ := call_sides k σ τ i b l hk hS (by omega) (by omega) (by omega)
  have e4 : M_sides τ i b l = some (-2, us τ 33 0 0) := by
    unfold M_sides
    rcases hb with ⟨hb, hn⟩ | ⟨hb, hn⟩
    · subst hb
      have q : n / 2 = 0 := by omega
      simp (disch := omega) only [↓jn_e, ↓ite_y, ↓ite_n, ↓oadd_eq, ↓osub_eq, ↓omul_eq, ↓odiv_eq, ↓orem_eq, ↓rd_eq, ↓wr_eq, ↓gf_e, ↓pf_e, ↓bnd_e, ↓bndp_e, ↓opure_e, ↓oif_t, ↓oif_f, ↓E_isPlace_y, ↓E_isPlace_n, ↓E_isNumber_y, ↓E_isNumber_n, ↓M_isPlace_y, ↓M_isPlace_n, ↓M_isNumber_y, ↓M_isNumber_n, ↓M_in_y, ↓M_in_n, ↓us_ne, ↓h3, ↓M_leftSize_eq, ↓q]
    · subst hb
      by_cases z : n = 0
      · subst z
        simp (disch := omega) only [↓jn_e, ↓ite_y, ↓ite_n, ↓oadd_eq, ↓osub_eq, ↓omul_eq, ↓odiv_eq, ↓orem_eq, ↓rd_eq, ↓wr_eq, ↓gf_e, ↓pf_e, ↓bnd_e, ↓bndp_e, ↓opure_e, ↓oif_t, ↓oif_f, ↓E_isPlace_y, ↓E_isPlace_n, ↓E_isNumber_y, ↓E_isNumber_n, ↓M_isPlace_y, ↓M_isPlace_n, ↓M_isNumber_y, ↓M_isNumber_n, ↓M_in_y, ↓M_in_n, ↓us_ne, ↓h3, ↓rsM_0]
      · have q : (n - 1) / 2 = 0 := by omega
        simp (disch := omega) only [↓jn_e, ↓ite_y, ↓ite_n, ↓oadd_eq, ↓osub_eq, ↓omul_eq, ↓odiv_eq, ↓orem_eq, ↓rd_eq, ↓wr_eq, ↓gf_e, ↓pf_e, ↓bnd_e, ↓bndp_e, ↓opure_e, ↓oif_t, ↓oif_f, ↓E_isPlace_y, ↓E_isPlace_n, ↓E_isNumber_y, ↓E_isNumber_n, ↓M_isPlace_y, ↓M_isPlace_n, ↓M_isNumber_y, ↓M_isNumber_n, ↓M_in_y, ↓M_in_n, ↓us_ne, ↓h3, ↓M_rightSize_eq, ↓q]
  rw [e4] at e2
  cases e2
  exact ⟨σ1, _, e1, e3, Rq.fr ((Fr.rf [33] τ).us (by decide)) (by decide) (by decide)⟩

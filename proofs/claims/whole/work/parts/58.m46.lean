-- MATH 46: a tree read in: what holds of its tables
def st1 (f : Int → Int) (p v : Int) : Int → Int := fun j => if j = p then v else f j
theorem st1_y {f : Int → Int} {p v j : Int} (h : j = p) : st1 f p v j = v := if_pos h
theorem st1_n {f : Int → Int} {p v j : Int} (h : ¬ j = p) : st1 f p v j = f j := if_neg h
def TT (ab sd sr ls rs : Int → Int) (N o : Int) : Prop :=
  (∀ c, 0 ≤ c → c < N → (-1 ≤ ab c ∧ ab c < c ∧ (ab c = -1 → c = 0)) ∧ (0 ≤ sd c ∧ sd c ≤ 1) ∧ (0 ≤ sr c ∧ sr c ≤ 2) ∧ (1 ≤ sr c → 0 ≤ ls c ∧ ls c ≤ N) ∧ (sr c = 2 → 0 ≤ rs c ∧ rs c ≤ N)) ∧
  (∀ c, 0 ≤ c → c < N → 0 ≤ ab c → (sd c = 0 → c = ab c + 1) ∧ (sd c = 1 → c = ab c + 1 + ls (ab c)) ∧ (sr c = 2 → ¬ c = o → (sd c = 0 → ls (ab c) = 1 + ls c + rs c) ∧ (sd c = 1 → rs (ab c) = 1 + ls c + rs c) ∧ sd c < sr (ab c)) ∧ ((sr c < 2 ∨ c = o) → sr (ab c) = sd c)) ∧
  (∀ c, 0 ≤ c → c < N → o < c → sr c = 2) ∧
  (∀ c d, 0 ≤ c → c < d → d < N → sr c < 2 → (sr d < 2 ∨ d = o) → c ≤ ab d) ∧
  (0 ≤ o → (sr o = 0 → N = o + 1) ∧ (sr o = 1 → N = o + 1 + ls o) ∧ (sr o = 2 → N = o + 1 + ls o + rs o)) ∧
  (∀ c, 0 ≤ c → c < N → (1 ≤ sr c → ¬ ls c = 0 → c + 1 < N ∧ ab (c + 1) = c ∧ sd (c + 1) = 0) ∧ (sr c = 2 → ¬ rs c = 0 → c + 1 + ls c < N ∧ ab (c + 1 + ls c) = c ∧ sd (c + 1 + ls c) = 1)) ∧
  (-1 ≤ o ∧ o < N ∧ 0 ≤ N)
theorem TT.op {ab sd sr ls rs : Int → Int} {N o e : Int} (h : TT ab sd sr ls rs N o) (h1 : o = -1 → N = 0) (h2 : 0 ≤ o → sr o ≤ 1 ∧ e = sr o) (h3 : o = -1 → e = 0) :
    TT (st1 ab N o) (st1 sd N e) (st1 sr N 0) ls rs (N + 1) N := by
  obtain ⟨t1, t2, t3, t4, t5, t6, t7⟩ := h
  refine ⟨fun c c0 cn => ?_, fun c c0 cn => ?_, fun c c0 cn => ?_, fun c d c0 cd dn => ?_, fun n0 => ?_, fun c c0 cn => ?_, ?_⟩
  · by_cases q : c = N
    · simp (disch := omega) only [st1_y]
      by_cases w : 0 ≤ o
      · have := t1 o w (by omega)
        have := h2 w
        omega
      · omega
    · have := t1 c c0 (by omega)
      simp (disch := omega) only [st1_n]
      omega
  · by_cases q : c = N
    · simp (disch := omega) only [st1_y]
      intro w
      simp (disch := omega) only [st1_n]
      have := h2 w
      have := t5 w
      omega
    · have a1 := t1 c c0 (by omega)
      have a2 := t2 c c0 (by omega)
      simp (disch := omega) only [st1_n]
      intro w
      have a3 := a2 w
      by_cases u : c = o
      · have := h2 (by omega)
        rw [← u] at this
        omega
      · omega
  · intro w; omega
  · by_cases q : d = N
    · simp (disch := omega) only [st1_y, st1_n]
      intro w _
      have := t3 c c0 (by omega)
      omega
    · simp (disch := omega) only [st1_n]
      have := t4 c d c0 cd (by omega)
      omega
  · have e : st1 sr N 0 N = 0 := st1_y rfl
    rw [e]
    exact ⟨fun _ => rfl, fun e => by omega, fun e => by omega⟩
  · by_cases q : c = N
    · simp (disch := omega) only [st1_y]
      exact ⟨fun e => by omega, fun e => by omega⟩
    · have a := t6 c c0 (by omega)
      simp (disch := omega) only [st1_n]
      refine ⟨fun u v => ?_, fun u v => ?_⟩
      · have := a.1 u v
        simp (disch := omega) only [st1_n]
        omega
      · have := a.2 u v
        simp (disch := omega) only [st1_n]
        omega
  · omega
theorem TT.dot0 {ab sd sr ls rs : Int → Int} {N o : Int} (h : TT ab sd sr ls rs N o) (ho : 0 ≤ o) (hs : sr o = 0) : TT ab sd (st1 sr o 1) (st1 ls o 0) rs N o := by
  obtain ⟨t1, t2, t3, t4, t5, t6, t7⟩ := h
  have no : ∀ c, 0 ≤ c → c < N → ¬ ab c = o := fun c c0 cn e => by
    have a1 := t1 c c0 cn
    have a2 := t2 c c0 cn (by omega)
    have a3 := t3 c c0 cn (by omega)
    rw [e] at a2
    omega
  refine ⟨fun c c0 cn => ?_, fun c c0 cn w => ?_, fun c c0 cn w => ?_, fun c d c0 cd dn => ?_, fun n0 => ?_, fun c c0 cn => ?_, t7⟩
  · have := t1 c c0 cn
    by_cases q : c = o
    · simp (disch := omega) only [st1_y]
      omega
    · simp (disch := omega) only [st1_n]
      omega
  · have a0 := no c c0 cn
    have a1 := t1 c c0 cn
    have a2 := t2 c c0 cn w
    by_cases q : c = o
    · have a5 : sr c = 0 := by rw [q]; exact hs
      simp (disch := omega) only [st1_y, st1_n]
      omega
    · simp (disch := omega) only [st1_n]
      omega
  · simp (disch := omega) only [st1_n]
    exact t3 c c0 cn w
  · have a4 := t4 c d c0 cd dn
    by_cases q : c = o
    · have a5 : sr c = 0 := by rw [q]; exact hs
      simp (disch := omega) only [st1_y, st1_n]
      omega
    · by_cases u : d = o
      · simp (disch := omega) only [st1_y, st1_n]
        omega
      · simp (disch := omega) only [st1_n]
        omega
  · have := t5 ho
    simp (disch := omega) only [st1_y]
    omega
  · have a := t6 c c0 cn
    by_cases q : c = o
    · simp (disch := omega) only [st1_y]
      exact ⟨fun _ e => absurd trivial e, fun e => by omega⟩
    · simp (disch := omega) only [st1_n]
      exact a
theorem TT.dot1 {ab sd sr ls rs : Int → Int} {N o : Int} (h : TT ab sd sr ls rs N o) (ho : 0 ≤ o) (hs : sr o = 1) : TT ab sd (st1 sr o 2) ls (st1 rs o 0) N o := by
  obtain ⟨t1, t2, t3, t4, t5, t6, t7⟩ := h
  refine ⟨fun c c0 cn => ?_, fun c c0 cn w => ?_, fun c c0 cn w => ?_, fun c d c0 cd dn => ?_, fun n0 => ?_, fun c c0 cn => ?_, t7⟩
  · have := t1 c c0 cn
    by_cases q : c = o
    · have a5 : sr c = 1 := by rw [q]; exact hs
      simp (disch := omega) only [st1_y]
      omega
    · simp (disch := omega) only [st1_n]
      omega
  · have a1 := t1 c c0 cn
    have a2 := t2 c c0 cn w
    by_cases q : c = o
    · have a5 : sr c = 1 := by rw [q]; exact hs
      simp (disch := omega) only [st1_y, st1_n]
      omega
    · by_cases u : ab c = o
      · have a3 := t3 c c0 cn (by omega)
        have a5 : sr (ab c) = 1 := by rw [u]; exact hs
        simp (disch := omega) only [st1_y, st1_n]
        omega
      · simp (disch := omega) only [st1_n]
        omega
  · simp (disch := omega) only [st1_n]
    exact t3 c c0 cn w
  · have a4 := t4 c d c0 cd dn
    by_cases q : c = o
    · simp (disch := omega) only [st1_y, st1_n]
      omega
    · by_cases u : d = o
      · simp (disch := omega) only [st1_y, st1_n]
        omega
      · simp (disch := omega) only [st1_n]
        omega
  · have := t5 ho
    simp (disch := omega) only [st1_y]
    omega
  · have a := t6 c c0 cn
    by_cases q : c = o
    · have a5 : sr c = 1 := by rw [q]; exact hs
      simp (disch := omega) only [st1_y]
      exact ⟨fun _ e => a.1 (by omega) e, fun _ e => absurd trivial e⟩
    · simp (disch := omega) only [st1_n]
      exact a
theorem TT.end {ab sd sr ls rs : Int → Int} {N o : Int} (h : TT ab sd sr ls rs N o) (ho : 0 ≤ o) (hs : sr o = 2) (hp : ab o = -1) : TT ab sd sr ls rs N (-1) ∧ o = 0 ∧ N = 1 + ls 0 + rs 0 := by
  obtain ⟨t1, t2, t3, t4, t5, t6, t7⟩ := h
  have a1 := t1 o ho (by omega)
  have a5 := t5 ho
  have e : o = 0 := by omega
  refine ⟨⟨t1, fun c c0 cn w => ?_, fun c c0 cn w => ?_, fun c d c0 cd dn u v => ?_, fun n0 => by omega, t6, by omega⟩, e, ?_⟩
  · have a2 := t2 c c0 cn w
    by_cases q : c = o
    · rw [q] at w; omega
    · omega
  · by_cases q : c = o
    · rw [q]; exact hs
    · exact t3 c c0 cn (by omega)
  · exact t4 c d c0 cd dn u (by omega)
  · rw [e] at a5 hs; omega
theorem TT.cl0 {ab sd sr ls rs : Int → Int} {N o p v : Int} (h : TT ab sd sr ls rs N o) (ho : 0 ≤ o) (hs : sr o = 2) (hp : ab o = p) (hp0 : 0 ≤ p) (he : sd o = 0) (hv : v = 1 + ls o + rs o) : sr p = 0 ∧ TT ab sd (st1 sr p 1) (st1 ls p v) rs N p := by
  obtain ⟨t1, t2, t3, t4, t5, t6, t7⟩ := h
  have o1 := t1 o ho (by omega)
  have o2 := t2 o ho (by omega) (by omega)
  have o5 := t5 ho
  rw [hp] at o1 o2
  have sp : sr p = 0 := by omega
  have p1 := t1 p hp0 (by omega)
  have oth : ∀ c, 0 ≤ c → c < N → ab c = p → c = o := fun c c0 cn e => by
    have a1 := t1 c c0 cn
    have a2 := t2 c c0 cn (by omega)
    rw [e] at a2
    omega
  refine ⟨sp, fun c c0 cn => ?_, fun c c0 cn w => ?_, fun c c0 cn w => ?_, fun c d c0 cd dn => ?_, fun n0 => ?_, fun c c0 cn => ?_, by omega⟩
  · have := t1 c c0 cn
    by_cases q : c = p
    · simp (disch := omega) only [st1_y]
      omega
    · simp (disch := omega) only [st1_n]
      omega
  · have a1 := t1 c c0 cn
    have a2 := t2 c c0 cn w
    by_cases q : c = p
    · have a5 : sr c = 0 := by rw [q]; exact sp
      simp (disch := omega) only [st1_y, st1_n]
      omega
    · by_cases u : ab c = p
      · have a3 := oth c c0 cn u
        have a6 : sd c = 0 := by rw [a3]; exact he
        have a7 : sr c = 2 := by rw [a3]; exact hs
        have a8 : v = 1 + ls c + rs c := by rw [a3]; exact hv
        simp (disch := omega) only [st1_y, st1_n]
        omega
      · have : ¬ c = o := fun e => u (by rw [e]; exact hp)
        simp (disch := omega) only [st1_n]
        omega
  · simp (disch := omega) only [st1_n]
    by_cases q : o < c
    · exact t3 c c0 cn q
    · by_cases u : c = o
      · rw [u]; exact hs
      · have a1 := t1 c c0 cn
        have a4 := t4 c o c0 (by omega) (by omega)
        rw [hp] at a4
        omega
  · have a4 := t4 c d c0 cd dn
    by_cases q : c = p
    · have a5 : sr c = 0 := by rw [q]; exact sp
      simp (disch := omega) only [st1_y, st1_n]
      omega
    · by_cases u : d = p
      · have a5 : sr d = 0 := by rw [u]; exact sp
        simp (disch := omega) only [st1_y, st1_n]
        omega
      · simp (disch := omega) only [st1_n]
        omega
  · simp (disch := omega) only [st1_y]
    omega
  · have a := t6 c c0 cn
    by_cases q : c = p
    · have e : c + 1 = o := by omega
      simp (disch := omega) only [st1_y]
      rw [e]
      exact ⟨fun _ _ => ⟨by omega, by omega, he⟩, fun e => by omega⟩
    · simp (disch := omega) only [st1_n]
      exact a
theorem TT.cl1 {ab sd sr ls rs : Int → Int} {N o p v : Int} (h : TT ab sd sr ls rs N o) (ho : 0 ≤ o) (hs : sr o = 2) (hp : ab o = p) (hp0 : 0 ≤ p) (he : sd o = 1) (hv : v = 1 + ls o + rs o) : sr p = 1 ∧ TT ab sd (st1 sr p 2) ls (st1 rs p v) N p := by
  obtain ⟨t1, t2, t3, t4, t5, t6, t7⟩ := h
  have o1 := t1 o ho (by omega)
  have o2 := t2 o ho (by omega) (by omega)
  have o5 := t5 ho
  rw [hp] at o1 o2
  have sp : sr p = 1 := by omega
  have p1 := t1 p hp0 (by omega)
  refine ⟨sp, fun c c0 cn => ?_, fun c c0 cn w => ?_, fun c c0 cn w => ?_, fun c d c0 cd dn => ?_, fun n0 => ?_, fun c c0 cn => ?_, by omega⟩
  · have := t1 c c0 cn
    by_cases q : c = p
    · have a5 : sr c = 1 := by rw [q]; exact sp
      simp (disch := omega) only [st1_y]
      omega
    · simp (disch := omega) only [st1_n]
      omega
  · have a1 := t1 c c0 cn
    have a2 := t2 c c0 cn w
    by_cases q : c = p
    · have a5 : sr c = 1 := by rw [q]; exact sp
      simp (disch := omega) only [st1_y, st1_n]
      omega
    · by_cases u : ab c = p
      · have a5 : sr (ab c) = 1 := by rw [u]; exact sp
        have a9 : ls (ab c) = ls p := by rw [u]
        by_cases x : c = o
        · have a6 : sd c = 1 := by rw [x]; exact he
          have a7 : sr c = 2 := by rw [x]; exact hs
          have a8 : v = 1 + ls c + rs c := by rw [x]; exact hv
          simp (disch := omega) only [st1_y, st1_n]
          omega
        · simp (disch := omega) only [st1_y, st1_n]
          omega
      · have : ¬ c = o := fun e => u (by rw [e]; exact hp)
        simp (disch := omega) only [st1_n]
        omega
  · simp (disch := omega) only [st1_n]
    by_cases q : o < c
    · exact t3 c c0 cn q
    · by_cases u : c = o
      · rw [u]; exact hs
      · have a1 := t1 c c0 cn
        have a4 := t4 c o c0 (by omega) (by omega)
        rw [hp] at a4
        omega
  · have a4 := t4 c d c0 cd dn
    by_cases q : c = p
    · simp (disch := omega) only [st1_y, st1_n]
      omega
    · by_cases u : d = p
      · have a5 : sr d = 1 := by rw [u]; exact sp
        simp (disch := omega) only [st1_y, st1_n]
        omega
      · simp (disch := omega) only [st1_n]
        omega
  · simp (disch := omega) only [st1_y]
    omega
  · have a := t6 c c0 cn
    by_cases q : c = p
    · have a5 : sr c = 1 := by rw [q]; exact sp
      have e : c + 1 + ls c = o := by rw [q]; omega
      simp (disch := omega) only [st1_y]
      rw [e]
      exact ⟨fun _ x => a.1 (by omega) x, fun _ _ => ⟨by omega, by omega, he⟩⟩
    · simp (disch := omega) only [st1_n]
      exact a

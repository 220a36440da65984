-- MATH 90: from the first memories on
theorem ss_start : SS 0 zE zM := by
  refine ⟨⟨fun _ _ => False, ⟨⟨fun a b h => h.elim, fun a b c h => h.elim, fun a b c h => h.elim⟩, ⟨?_, ?_, ?_⟩, fun p p0 p1 => ⟨⟨?_, ?_⟩, rfl, ⟨fun x x0 xn => ?_, fun x x0 xn => ?_⟩, fun x x0 xn => ?_⟩⟩⟩, ⟨rfl, ⟨?_, ?_⟩, fun j j0 jn => ?_⟩, ⟨rfl, ⟨?_, ?_⟩, fun j j0 jn => ?_⟩, ⟨⟨?_, ?_⟩, fun a a0 a1 => ?_⟩, ⟨rfl, ?_, ?_⟩⟩
  · show (1 : Int) ≤ 1; omega
  · show (1 : Int) ≤ 6144; omega
  · show (6143 : Int) ≤ cf (zE 10) (6144 - 1 : Int).toNat 1
    have := cf_all (K := zE 10) (6144 - 1 : Int).toNat 1 (fun z _ _ => rfl)
    omega
  · show (0 : Int) ≤ 0; omega
  · show (0 : Int) ≤ 255; omega
  · have xn : x < (0 : Int) := xn
    omega
  · exact sl_zero zE x
  · have xn : x < (0 : Int) := xn
    omega
  · show (0 : Int) ≤ 0; omega
  · show (0 : Int) ≤ 200; omega
  · have jn : j < (0 : Int) := jn
    omega
  · show (0 : Int) ≤ 0; omega
  · show (0 : Int) ≤ 16; omega
  · have jn : j < (0 : Int) := jn
    omega
  · show (0 : Int) ≤ 0; omega
  · show (0 : Int) ≤ 256 * ((0 : Nat) : Int); omega
  · show (0 : Int) ≤ 0 ∧ (0 : Int) ≤ 0 + 255; omega
  · show (0 : Int) ≤ 0; omega
  · show (0 : Int) ≤ 4096 * ((0 : Nat) : Int); omega
theorem whole_of (h3 : HS_3 SS) {p : Program} {e : Env} {s : State} {m : MethodId} {below : List Frame} {meth : Method} {c : Code} (l : Launch) (hflags : l.flags = flags0) {b L : Nat} {xs : Nat → Int32} (hL : L ≤ 3072) (C0 : lw_At p s m meth c b L xs) : W p l e room_1 s m #[Value.ref b] below meth c s.heap [] 0 0 (lw_Z below #[Value.ref b] s) (entryFrame m ([Value.ref b] : List Value).toArray 8) :=
  law_start l hflags hL C0 ss_start (fun k σ τ h => h.up) call_sign call_end call_tells h3 call_fills call_copies call_sides call_roots call_size call_get call_path call_sets call_front call_back call_first call_last call_adds call_appends call_turned call_reverses call_keeps call_skips call_slips call_swaps call_zips call_parts call_sorts call_merges call_picks call_mirrors call_heap call_push call_pop call_heaps call_numbers call_sum call_finds call_same call_search call_reaches call_occurs call_differs call_written call_costs call_twins call_nodes call_own call_level call_ways call_count call_row

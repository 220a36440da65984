-- WORDS
def NW : List Cond := [Cond.methodLinkNest RX7 9 yX0_init "EvenTrees", Cond.fieldLinkNest RX7 130 "EvenTrees$Pool" "made" "I" "EvenTrees", Cond.methodLinkNest RX7 18 yX2_init "EvenTrees", Cond.fieldLinkNest RX7 314 "EvenTrees$Row" "numbers" "[J" "EvenTrees", Cond.fieldLinkNest RX7 303 "EvenTrees$Row" "many" "I" "EvenTrees", Cond.methodLinkNest RX7 25 yX1_init "EvenTrees", Cond.methodLinkNest RX1 11 yX4_init "EvenTrees", Cond.fieldLinkNest RX7 306 "EvenTrees$Text" "many" "I" "EvenTrees", Cond.fieldLinkNest RX7 30 "EvenTrees$Reader" "text" "LEvenTrees$Text;" "EvenTrees", Cond.methodLinkNest RX7 37 yX6_init "EvenTrees", Cond.methodLinkNest RX7 44 yX5_init "EvenTrees"]
def WT : List Cond := lw_tbl.filter goodWord
def KWV (own : String) (ix : Nat) (C : String) (y : MethodName) (b : ByteArray) (nl : Nat) (rt : Option FieldType) (n : Nat) : Prop :=
  Cond.methodLink own ix y ∈ WT ∧ Cond.instanceMethod y ∈ WT ∧ Cond.selects C y y ∈ WT ∧ Cond.initialized C ∈ WT ∧ Cond.code y b nl rt ∈ WT ∧ (y.cls = C ∧ y.cls ≠ "java/lang/invoke/MethodHandle" ∧ y.cls ≠ "java/lang/invoke/VarHandle" ∧ (parseMethodDescriptor y.desc).map (fun d => d.parameters.length) = some n)
def KWS (own : String) (ix : Nat) (y : MethodName) (b : ByteArray) (nl : Nat) (rt : Option FieldType) (n : Nat) : Prop :=
  Cond.methodLink own ix y ∈ WT ∧ Cond.static y ∈ WT ∧ Cond.initialized y.cls ∈ WT ∧ Cond.code y b nl rt ∈ WT ∧ (y.cls ≠ "java/lang/invoke/MethodHandle" ∧ y.cls ≠ "java/lang/invoke/VarHandle" ∧ (parseMethodDescriptor y.desc).map (fun d => d.parameters.length) = some n)
def KWSN (own : String) (ix : Nat) (host : String) (y : MethodName) (b : ByteArray) (nl : Nat) (rt : Option FieldType) (n : Nat) : Prop :=
  Cond.methodLinkNest own ix y host ∈ NW ∧ Cond.static y ∈ WT ∧ Cond.initialized y.cls ∈ WT ∧ Cond.code y b nl rt ∈ WT ∧ (y.cls ≠ "java/lang/invoke/MethodHandle" ∧ y.cls ≠ "java/lang/invoke/VarHandle" ∧ (parseMethodDescriptor y.desc).map (fun d => d.parameters.length) = some n)
set_option maxRecDepth 20000 in
theorem wt_of {w : Cond} (h : w ∈ lw_tbl) (g : goodWord w = true) : w ∈ WT := List.mem_filter.mpr ⟨h, g⟩
set_option maxRecDepth 20000 in
theorem wt0 {w : Cond} (i : Nat) (h : (k2_sels lw_privs)[i]? = some w) (g : goodWord w = true) : w ∈ WT := wt_of (List.mem_append_left _ (List.mem_of_getElem? h)) g
set_option maxRecDepth 20000 in
theorem wt1 {w : Cond} (i : Nat) (h : tables_1_1[i]? = some w) (g : goodWord w = true) : w ∈ WT := wt_of (List.mem_append_right _ (List.mem_append_left _ (List.mem_of_getElem? h))) g
set_option maxRecDepth 20000 in
theorem wt2 {w : Cond} (i : Nat) (h : tables_1_2[i]? = some w) (g : goodWord w = true) : w ∈ WT := wt_of (List.mem_append_right _ (List.mem_append_right _ (List.mem_append_left _ (List.mem_of_getElem? h)))) g
set_option maxRecDepth 20000 in
theorem wt3 {w : Cond} (i : Nat) (h : tables_1_3[i]? = some w) (g : goodWord w = true) : w ∈ WT := wt_of (List.mem_append_right _ (List.mem_append_right _ (List.mem_append_right _ ((List.mem_of_getElem? h))))) g
set_option maxRecDepth 20000 in
theorem inX0 : ∀ w ∈ u_ws RX0 TX0 10, w ∈ WT := List.forall_mem_cons.mpr ⟨(wt1 41 (by rfl) rfl), List.forall_mem_cons.mpr ⟨(wt1 43 (by rfl) rfl), List.forall_mem_cons.mpr ⟨(wt1 45 (by rfl) rfl), List.forall_mem_cons.mpr ⟨(wt1 47 (by rfl) rfl), List.forall_mem_cons.mpr ⟨(wt1 49 (by rfl) rfl), List.forall_mem_cons.mpr ⟨(wt1 51 (by rfl) rfl), List.forall_mem_cons.mpr ⟨(wt1 53 (by rfl) rfl), List.forall_mem_cons.mpr ⟨(wt1 55 (by rfl) rfl), List.forall_mem_cons.mpr ⟨(wt1 57 (by rfl) rfl), List.forall_mem_cons.mpr ⟨(wt1 59 (by rfl) rfl), fun _ h => absurd h List.not_mem_nil⟩⟩⟩⟩⟩⟩⟩⟩⟩⟩
set_option maxRecDepth 20000 in
theorem inX1 : ∀ w ∈ u_ws RX1 TX1 14, w ∈ WT := List.forall_mem_cons.mpr ⟨(wt1 114 (by rfl) rfl), List.forall_mem_cons.mpr ⟨(wt1 116 (by rfl) rfl), List.forall_mem_cons.mpr ⟨(wt1 118 (by rfl) rfl), List.forall_mem_cons.mpr ⟨(wt1 120 (by rfl) rfl), List.forall_mem_cons.mpr ⟨(wt1 122 (by rfl) rfl), List.forall_mem_cons.mpr ⟨(wt1 124 (by rfl) rfl), List.forall_mem_cons.mpr ⟨(wt1 126 (by rfl) rfl), List.forall_mem_cons.mpr ⟨(wt1 128 (by rfl) rfl), List.forall_mem_cons.mpr ⟨(wt1 130 (by rfl) rfl), List.forall_mem_cons.mpr ⟨(wt1 132 (by rfl) rfl), List.forall_mem_cons.mpr ⟨(wt1 134 (by rfl) rfl), List.forall_mem_cons.mpr ⟨(wt1 136 (by rfl) rfl), List.forall_mem_cons.mpr ⟨(wt1 138 (by rfl) rfl), List.forall_mem_cons.mpr ⟨(wt1 140 (by rfl) rfl), fun _ h => absurd h List.not_mem_nil⟩⟩⟩⟩⟩⟩⟩⟩⟩⟩⟩⟩⟩⟩
set_option maxRecDepth 20000 in
theorem inX2 : ∀ w ∈ u_ws RX2 TX2 2, w ∈ WT := List.forall_mem_cons.mpr ⟨(wt1 73 (by rfl) rfl), List.forall_mem_cons.mpr ⟨(wt1 75 (by rfl) rfl), fun _ h => absurd h List.not_mem_nil⟩⟩
set_option maxRecDepth 20000 in
theorem inX4 : ∀ w ∈ u_ws RX4 TX4 2, w ∈ WT := List.forall_mem_cons.mpr ⟨(wt1 94 (by rfl) rfl), List.forall_mem_cons.mpr ⟨(wt1 96 (by rfl) rfl), fun _ h => absurd h List.not_mem_nil⟩⟩
set_option maxRecDepth 20000 in
theorem inX5 : ∀ w ∈ u_ws RX5 TX5 2, w ∈ WT := List.forall_mem_cons.mpr ⟨(wt1 167 (by rfl) rfl), List.forall_mem_cons.mpr ⟨(wt1 169 (by rfl) rfl), fun _ h => absurd h List.not_mem_nil⟩⟩
set_option maxRecDepth 20000 in
theorem inX6 : ∀ w ∈ u_ws RX6 TX6 3, w ∈ WT := List.forall_mem_cons.mpr ⟨(wt1 152 (by rfl) rfl), List.forall_mem_cons.mpr ⟨(wt1 154 (by rfl) rfl), List.forall_mem_cons.mpr ⟨(wt1 156 (by rfl) rfl), fun _ h => absurd h List.not_mem_nil⟩⟩⟩
set_option maxRecDepth 20000 in
theorem inX7 : ∀ w ∈ u_ws RX7 TX7 12, w ∈ WT := List.forall_mem_cons.mpr ⟨(wt1 184 (by rfl) rfl), List.forall_mem_cons.mpr ⟨(wt1 186 (by rfl) rfl), List.forall_mem_cons.mpr ⟨(wt1 188 (by rfl) rfl), List.forall_mem_cons.mpr ⟨(wt1 190 (by rfl) rfl), List.forall_mem_cons.mpr ⟨(wt1 192 (by rfl) rfl), List.forall_mem_cons.mpr ⟨(wt1 194 (by rfl) rfl), List.forall_mem_cons.mpr ⟨(wt1 196 (by rfl) rfl), List.forall_mem_cons.mpr ⟨(wt1 198 (by rfl) rfl), List.forall_mem_cons.mpr ⟨(wt1 200 (by rfl) rfl), List.forall_mem_cons.mpr ⟨(wt1 202 (by rfl) rfl), List.forall_mem_cons.mpr ⟨(wt1 204 (by rfl) rfl), List.forall_mem_cons.mpr ⟨(wt1 206 (by rfl) rfl), fun _ h => absurd h List.not_mem_nil⟩⟩⟩⟩⟩⟩⟩⟩⟩⟩⟩⟩
set_option maxRecDepth 20000 in
theorem nk_X7_9 : Cond.methodLinkNest RX7 9 yX0_init "EvenTrees" ∈ NW := List.mem_of_getElem? (i := 0) rfl
set_option maxRecDepth 20000 in
theorem nk_X7_130 : Cond.fieldLinkNest RX7 130 "EvenTrees$Pool" "made" "I" "EvenTrees" ∈ NW := List.mem_of_getElem? (i := 1) rfl
set_option maxRecDepth 20000 in
theorem nk_X7_18 : Cond.methodLinkNest RX7 18 yX2_init "EvenTrees" ∈ NW := List.mem_of_getElem? (i := 2) rfl
set_option maxRecDepth 20000 in
theorem nk_X7_314 : Cond.fieldLinkNest RX7 314 "EvenTrees$Row" "numbers" "[J" "EvenTrees" ∈ NW := List.mem_of_getElem? (i := 3) rfl
set_option maxRecDepth 20000 in
theorem nk_X7_303 : Cond.fieldLinkNest RX7 303 "EvenTrees$Row" "many" "I" "EvenTrees" ∈ NW := List.mem_of_getElem? (i := 4) rfl
set_option maxRecDepth 20000 in
theorem nk_X7_25 : Cond.methodLinkNest RX7 25 yX1_init "EvenTrees" ∈ NW := List.mem_of_getElem? (i := 5) rfl
set_option maxRecDepth 20000 in
theorem nk_X1_11 : Cond.methodLinkNest RX1 11 yX4_init "EvenTrees" ∈ NW := List.mem_of_getElem? (i := 6) rfl
set_option maxRecDepth 20000 in
theorem nk_X7_306 : Cond.fieldLinkNest RX7 306 "EvenTrees$Text" "many" "I" "EvenTrees" ∈ NW := List.mem_of_getElem? (i := 7) rfl
set_option maxRecDepth 20000 in
theorem nk_X7_30 : Cond.fieldLinkNest RX7 30 "EvenTrees$Reader" "text" "LEvenTrees$Text;" "EvenTrees" ∈ NW := List.mem_of_getElem? (i := 8) rfl
set_option maxRecDepth 20000 in
theorem nk_X7_37 : Cond.methodLinkNest RX7 37 yX6_init "EvenTrees" ∈ NW := List.mem_of_getElem? (i := 9) rfl
set_option maxRecDepth 20000 in
theorem nk_X7_44 : Cond.methodLinkNest RX7 44 yX5_init "EvenTrees" ∈ NW := List.mem_of_getElem? (i := 10) rfl
set_option maxRecDepth 20000 in
theorem fk_X0_11 : Cond.fieldLink RX0 11 "EvenTrees$Pool" "numbers" "[I" ∈ WT := (wt1 30 (by rfl) rfl)
set_option maxRecDepth 20000 in
theorem fk_X0_15 : Cond.fieldLink RX0 15 "EvenTrees$Pool" "lefts" "[I" ∈ WT := (wt1 31 (by rfl) rfl)
set_option maxRecDepth 20000 in
theorem fk_X0_18 : Cond.fieldLink RX0 18 "EvenTrees$Pool" "rights" "[I" ∈ WT := (wt1 32 (by rfl) rfl)
set_option maxRecDepth 20000 in
theorem fk_X0_21 : Cond.fieldLink RX0 21 "EvenTrees$Pool" "kept" "[I" ∈ WT := (wt1 33 (by rfl) rfl)
set_option maxRecDepth 20000 in
theorem fk_X0_24 : Cond.fieldLink RX0 24 "EvenTrees$Pool" "seen" "[I" ∈ WT := (wt1 34 (by rfl) rfl)
set_option maxRecDepth 20000 in
theorem fk_X0_27 : Cond.fieldLink RX0 27 "EvenTrees$Pool" "at" "[I" ∈ WT := (wt1 35 (by rfl) rfl)
set_option maxRecDepth 20000 in
theorem fk_X0_30 : Cond.fieldLink RX0 30 "EvenTrees$Pool" "next" "I" ∈ WT := (wt1 36 (by rfl) rfl)
set_option maxRecDepth 20000 in
theorem fk_X0_34 : Cond.fieldLink RX0 34 "EvenTrees$Pool" "free" "I" ∈ WT := (wt1 37 (by rfl) rfl)
set_option maxRecDepth 20000 in
theorem fk_X0_37 : Cond.fieldLink RX0 37 "EvenTrees$Pool" "made" "I" ∈ WT := (wt1 38 (by rfl) rfl)
set_option maxRecDepth 20000 in
theorem fk_X0_40 : Cond.fieldLink RX0 40 "EvenTrees$Pool" "base" "I" ∈ WT := (wt1 40 (by rfl) rfl)
set_option maxRecDepth 20000 in
theorem fk_X2_9 : Cond.fieldLink RX2 9 "EvenTrees$Row" "numbers" "[J" ∈ WT := (wt1 69 (by rfl) rfl)
set_option maxRecDepth 20000 in
theorem fk_X2_15 : Cond.fieldLink RX2 15 "EvenTrees$Row" "many" "I" ∈ WT := (wt1 71 (by rfl) rfl)
set_option maxRecDepth 20000 in
theorem fk_X4_11 : Cond.fieldLink RX4 11 "EvenTrees$Text" "signs" "[I" ∈ WT := (wt1 91 (by rfl) rfl)
set_option maxRecDepth 20000 in
theorem fk_X4_15 : Cond.fieldLink RX4 15 "EvenTrees$Text" "many" "I" ∈ WT := (wt1 92 (by rfl) rfl)
set_option maxRecDepth 20000 in
theorem fk_X1_12 : Cond.fieldLink RX1 12 "EvenTrees$Reader" "text" "LEvenTrees$Text;" ∈ WT := (wt1 99 (by rfl) rfl)
set_option maxRecDepth 20000 in
theorem fk_X1_18 : Cond.fieldLink RX1 18 "EvenTrees$Reader" "starts" "[I" ∈ WT := (wt1 101 (by rfl) rfl)
set_option maxRecDepth 20000 in
theorem fk_X1_22 : Cond.fieldLink RX1 22 "EvenTrees$Reader" "values" "[I" ∈ WT := (wt1 102 (by rfl) rfl)
set_option maxRecDepth 20000 in
theorem fk_X1_25 : Cond.fieldLink RX1 25 "EvenTrees$Reader" "parents" "[I" ∈ WT := (wt1 103 (by rfl) rfl)
set_option maxRecDepth 20000 in
theorem fk_X1_28 : Cond.fieldLink RX1 28 "EvenTrees$Reader" "sidesOfParents" "[I" ∈ WT := (wt1 104 (by rfl) rfl)
set_option maxRecDepth 20000 in
theorem fk_X1_31 : Cond.fieldLink RX1 31 "EvenTrees$Reader" "sidesRead" "[I" ∈ WT := (wt1 105 (by rfl) rfl)
set_option maxRecDepth 20000 in
theorem fk_X1_34 : Cond.fieldLink RX1 34 "EvenTrees$Reader" "leftSizes" "[I" ∈ WT := (wt1 106 (by rfl) rfl)
set_option maxRecDepth 20000 in
theorem fk_X1_37 : Cond.fieldLink RX1 37 "EvenTrees$Reader" "rightSizes" "[I" ∈ WT := (wt1 107 (by rfl) rfl)
set_option maxRecDepth 20000 in
theorem fk_X1_40 : Cond.fieldLink RX1 40 "EvenTrees$Reader" "indexes" "[I" ∈ WT := (wt1 108 (by rfl) rfl)
set_option maxRecDepth 20000 in
theorem fk_X1_43 : Cond.fieldLink RX1 43 "EvenTrees$Reader" "at" "I" ∈ WT := (wt1 109 (by rfl) rfl)
set_option maxRecDepth 20000 in
theorem fk_X1_47 : Cond.fieldLink RX1 47 "EvenTrees$Reader" "number" "I" ∈ WT := (wt1 110 (by rfl) rfl)
set_option maxRecDepth 20000 in
theorem fk_X1_50 : Cond.fieldLink RX1 50 "EvenTrees$Reader" "many" "I" ∈ WT := (wt1 111 (by rfl) rfl)
set_option maxRecDepth 20000 in
theorem fk_X1_53 : Cond.fieldLink RX1 53 "EvenTrees$Reader" "open" "I" ∈ WT := (wt1 112 (by rfl) rfl)
set_option maxRecDepth 20000 in
theorem fk_X1_56 : Cond.fieldLink RX1 56 "EvenTrees$Reader" "whole" "Z" ∈ WT := (wt1 113 (by rfl) rfl)
set_option maxRecDepth 20000 in
theorem fk_X6_9 : Cond.fieldLink RX6 9 "EvenTrees$Writer" "wanted" "I" ∈ WT := (wt1 149 (by rfl) rfl)
set_option maxRecDepth 20000 in
theorem fk_X6_15 : Cond.fieldLink RX6 15 "EvenTrees$Writer" "found" "I" ∈ WT := (wt1 150 (by rfl) rfl)
set_option maxRecDepth 20000 in
theorem fk_X6_18 : Cond.fieldLink RX6 18 "EvenTrees$Writer" "signs" "I" ∈ WT := (wt1 151 (by rfl) rfl)
set_option maxRecDepth 20000 in
theorem fk_X5_9 : Cond.fieldLink RX5 9 "EvenTrees$Ways" "on" "[I" ∈ WT := (wt1 165 (by rfl) rfl)
set_option maxRecDepth 20000 in
theorem fk_X5_15 : Cond.fieldLink RX5 15 "EvenTrees$Ways" "total" "I" ∈ WT := (wt1 166 (by rfl) rfl)
set_option maxRecDepth 20000 in
theorem fk_X7_10 : Cond.fieldLink RX7 10 "EvenTrees" "pool" "LEvenTrees$Pool;" ∈ WT := (wt1 172 (by rfl) rfl)
set_option maxRecDepth 20000 in
theorem fk_X7_19 : Cond.fieldLink RX7 19 "EvenTrees" "told" "LEvenTrees$Row;" ∈ WT := (wt1 173 (by rfl) rfl)
set_option maxRecDepth 20000 in
theorem fk_X7_26 : Cond.fieldLink RX7 26 "EvenTrees" "reader" "LEvenTrees$Reader;" ∈ WT := (wt1 174 (by rfl) rfl)
set_option maxRecDepth 20000 in
theorem fk_X7_34 : Cond.fieldLink RX7 34 "EvenTrees" "text" "LEvenTrees$Text;" ∈ WT := (wt1 175 (by rfl) rfl)
set_option maxRecDepth 20000 in
theorem fk_X7_38 : Cond.fieldLink RX7 38 "EvenTrees" "writer" "LEvenTrees$Writer;" ∈ WT := (wt1 176 (by rfl) rfl)
set_option maxRecDepth 20000 in
theorem fk_X7_45 : Cond.fieldLink RX7 45 "EvenTrees" "marked" "LEvenTrees$Ways;" ∈ WT := (wt1 177 (by rfl) rfl)
set_option maxRecDepth 20000 in
theorem fk_X7_49 : Cond.fieldLink RX7 49 "EvenTrees" "trees" "[I" ∈ WT := (wt1 178 (by rfl) rfl)
set_option maxRecDepth 20000 in
theorem fk_X7_53 : Cond.fieldLink RX7 53 "EvenTrees" "sizes" "[I" ∈ WT := (wt1 179 (by rfl) rfl)
set_option maxRecDepth 20000 in
theorem fk_X7_56 : Cond.fieldLink RX7 56 "EvenTrees" "one" "[I" ∈ WT := (wt1 180 (by rfl) rfl)
set_option maxRecDepth 20000 in
theorem fk_X7_59 : Cond.fieldLink RX7 59 "EvenTrees" "other" "[I" ∈ WT := (wt1 181 (by rfl) rfl)
set_option maxRecDepth 20000 in
theorem fk_X7_62 : Cond.fieldLink RX7 62 "EvenTrees" "fresh" "[I" ∈ WT := (wt1 182 (by rfl) rfl)
set_option maxRecDepth 20000 in
theorem fk_X7_65 : Cond.fieldLink RX7 65 "EvenTrees" "tally" "[I" ∈ WT := (wt1 183 (by rfl) rfl)
set_option maxRecDepth 20000 in
theorem ck_J6_265 : Cond.constant RJ6 265 1431655765 ∈ WT := (wt2 31 (by rfl) rfl)
set_option maxRecDepth 20000 in
theorem ck_J6_266 : Cond.constant RJ6 266 858993459 ∈ WT := (wt2 32 (by rfl) rfl)
set_option maxRecDepth 20000 in
theorem ck_J6_267 : Cond.constant RJ6 267 252645135 ∈ WT := (wt2 33 (by rfl) rfl)
set_option maxRecDepth 20000 in
theorem ck_X7_252 : Cond.constant RX7 252 (-1000000) ∈ WT := (wt3 12 (by rfl) rfl)
set_option maxRecDepth 20000 in
theorem ck_X7_157 : Cond.constantLong RX7 157 (-1) ∈ WT := (wt3 24 (by rfl) rfl)
set_option maxRecDepth 20000 in
theorem kw_L_69 : KWV RL 69 RX7 yX7_fills cX7_fills 5 (some .int) 3 := ⟨(wt1 209 (by rfl) rfl), (wt1 210 (by rfl) rfl), (wt1 211 (by rfl) rfl), (wt1 1 (by rfl) rfl), (wt1 212 (by rfl) rfl), by decide +kernel⟩
set_option maxRecDepth 20000 in
theorem kw_X7_117 : KWS RX7 117 yX7_isNumber cX7_isNumber 1 (some .boolean) 1 := ⟨(wt1 213 (by rfl) rfl), (wt1 214 (by rfl) rfl), (wt1 1 (by rfl) rfl), (wt1 215 (by rfl) rfl), by decide +kernel⟩
set_option maxRecDepth 20000 in
theorem kw_X7_86 : KWS RX7 86 yX7_isPlace cX7_isPlace 1 (some .boolean) 1 := ⟨(wt1 216 (by rfl) rfl), (wt1 217 (by rfl) rfl), (wt1 1 (by rfl) rfl), (wt1 218 (by rfl) rfl), by decide +kernel⟩
set_option maxRecDepth 20000 in
theorem kw_X7_120 : KWV RX7 120 RX7 yX7_begin cX7_begin 2 (some .int) 0 := ⟨(wt1 219 (by rfl) rfl), (wt1 221 (by rfl) rfl), (wt0 0 (by rfl) rfl), (wt1 1 (by rfl) rfl), (wt1 222 (by rfl) rfl), by decide +kernel⟩
set_option maxRecDepth 20000 in
theorem kw_X7_318 : KWV RX7 318 RX0 yX0_hasRoom cX0_hasRoom 1 (some .boolean) 0 := ⟨(wt1 223 (by rfl) rfl), (wt1 224 (by rfl) rfl), (wt1 225 (by rfl) rfl), (wt1 2 (by rfl) rfl), (wt1 226 (by rfl) rfl), by decide +kernel⟩
set_option maxRecDepth 20000 in
theorem kw_X7_321 : KWV RX7 321 RX0 yX0_forgetKept cX0_forgetKept 1 none 0 := ⟨(wt1 227 (by rfl) rfl), (wt1 228 (by rfl) rfl), (wt1 229 (by rfl) rfl), (wt1 2 (by rfl) rfl), (wt1 230 (by rfl) rfl), by decide +kernel⟩
set_option maxRecDepth 20000 in
theorem kw_X0_43 : KWS RX0 43 yJ7_fill_53178 cJ7_fill_53178 4 none 2 := ⟨(wt1 231 (by rfl) rfl), (wt1 232 (by rfl) rfl), (wt1 8 (by rfl) rfl), (wt1 233 (by rfl) rfl), by decide +kernel⟩
set_option maxRecDepth 20000 in
theorem kw_X7_324 : KWV RX7 324 RX0 yX0_keepAll cX0_keepAll 4 none 2 := ⟨(wt1 234 (by rfl) rfl), (wt1 235 (by rfl) rfl), (wt1 236 (by rfl) rfl), (wt1 2 (by rfl) rfl), (wt1 237 (by rfl) rfl), by decide +kernel⟩
set_option maxRecDepth 20000 in
theorem kw_X0_49 : KWV RX0 49 RX0 yX0_spread cX0_spread 5 none 2 := ⟨(wt1 238 (by rfl) rfl), (wt1 239 (by rfl) rfl), (wt2 0 (by rfl) rfl), (wt1 2 (by rfl) rfl), (wt2 1 (by rfl) rfl), by decide +kernel⟩
set_option maxRecDepth 20000 in
theorem kw_X0_67 : KWS RX0 67 yX3_stride cX3_stride 2 (some .int) 1 := ⟨(wt2 2 (by rfl) rfl), (wt2 3 (by rfl) rfl), (wt1 9 (by rfl) rfl), (wt2 4 (by rfl) rfl), by decide +kernel⟩
set_option maxRecDepth 20000 in
theorem kw_X0_57 : KWV RX0 57 RX0 yX0_leftOf cX0_leftOf 2 (some .int) 1 := ⟨(wt2 5 (by rfl) rfl), (wt2 6 (by rfl) rfl), (wt2 7 (by rfl) rfl), (wt1 2 (by rfl) rfl), (wt2 8 (by rfl) rfl), by decide +kernel⟩
set_option maxRecDepth 20000 in
theorem kw_X0_53 : KWS RX0 53 yX0_isNode cX0_isNode 1 (some .boolean) 1 := ⟨(wt2 9 (by rfl) rfl), (wt2 10 (by rfl) rfl), (wt1 2 (by rfl) rfl), (wt2 11 (by rfl) rfl), by decide +kernel⟩
set_option maxRecDepth 20000 in
theorem kw_X0_61 : KWV RX0 61 RX0 yX0_rightOf cX0_rightOf 2 (some .int) 1 := ⟨(wt2 12 (by rfl) rfl), (wt2 13 (by rfl) rfl), (wt2 14 (by rfl) rfl), (wt1 2 (by rfl) rfl), (wt2 15 (by rfl) rfl), by decide +kernel⟩
set_option maxRecDepth 20000 in
theorem kw_X7_123 : KWV RX7 123 RX0 yX0_alike cX0_alike 8 (some .int) 2 := ⟨(wt2 16 (by rfl) rfl), (wt2 17 (by rfl) rfl), (wt2 18 (by rfl) rfl), (wt1 2 (by rfl) rfl), (wt2 19 (by rfl) rfl), by decide +kernel⟩
set_option maxRecDepth 20000 in
theorem kw_X0_76 : KWV RX0 76 RX0 yX0_make cX0_make 5 (some .int) 3 := ⟨(wt2 20 (by rfl) rfl), (wt2 21 (by rfl) rfl), (wt2 22 (by rfl) rfl), (wt1 2 (by rfl) rfl), (wt2 23 (by rfl) rfl), by decide +kernel⟩
set_option maxRecDepth 20000 in
theorem kw_X0_87 : KWS RX0 87 yX3_depth cX3_depth 1 (some .int) 1 := ⟨(wt2 24 (by rfl) rfl), (wt2 25 (by rfl) rfl), (wt1 9 (by rfl) rfl), (wt2 26 (by rfl) rfl), by decide +kernel⟩
set_option maxRecDepth 20000 in
theorem kw_X3_9 : KWS RX3 9 yX3_stride cX3_stride 2 (some .int) 1 := ⟨(wt2 27 (by rfl) rfl), (wt2 3 (by rfl) rfl), (wt1 9 (by rfl) rfl), (wt2 4 (by rfl) rfl), by decide +kernel⟩
set_option maxRecDepth 20000 in
theorem kw_X3_15 : KWS RX3 15 yJ6_bitCount_0f7a4 cJ6_bitCount_0f7a4 1 (some .int) 1 := ⟨(wt2 28 (by rfl) rfl), (wt2 29 (by rfl) rfl), (wt1 15 (by rfl) rfl), (wt2 30 (by rfl) rfl), by decide +kernel⟩
set_option maxRecDepth 20000 in
theorem kw_X7_126 : KWV RX7 126 RX7 yX7_keep cX7_keep 4 (some .int) 3 := ⟨(wt2 34 (by rfl) rfl), (wt2 36 (by rfl) rfl), (wt0 1 (by rfl) rfl), (wt1 1 (by rfl) rfl), (wt2 37 (by rfl) rfl), by decide +kernel⟩
set_option maxRecDepth 20000 in
theorem kw_L_89 : KWV RL 89 RX7 yX7_sides cX7_sides 5 (some .int) 3 := ⟨(wt2 38 (by rfl) rfl), (wt2 39 (by rfl) rfl), (wt2 40 (by rfl) rfl), (wt1 1 (by rfl) rfl), (wt2 41 (by rfl) rfl), by decide +kernel⟩
set_option maxRecDepth 20000 in
theorem kw_X7_133 : KWS RX7 133 yX3_leftSize cX3_leftSize 1 (some .int) 1 := ⟨(wt2 42 (by rfl) rfl), (wt2 43 (by rfl) rfl), (wt1 9 (by rfl) rfl), (wt2 44 (by rfl) rfl), by decide +kernel⟩
set_option maxRecDepth 20000 in
theorem kw_X7_138 : KWS RX7 138 yX3_rightSize cX3_rightSize 1 (some .int) 1 := ⟨(wt2 45 (by rfl) rfl), (wt2 46 (by rfl) rfl), (wt1 9 (by rfl) rfl), (wt2 47 (by rfl) rfl), by decide +kernel⟩
set_option maxRecDepth 20000 in
theorem kw_X7_141 : KWV RX7 141 RX0 yX0_leftOf cX0_leftOf 2 (some .int) 1 := ⟨(wt2 48 (by rfl) rfl), (wt2 6 (by rfl) rfl), (wt2 7 (by rfl) rfl), (wt1 2 (by rfl) rfl), (wt2 8 (by rfl) rfl), by decide +kernel⟩
set_option maxRecDepth 20000 in
theorem kw_X7_144 : KWV RX7 144 RX0 yX0_rightOf cX0_rightOf 2 (some .int) 1 := ⟨(wt2 49 (by rfl) rfl), (wt2 13 (by rfl) rfl), (wt2 14 (by rfl) rfl), (wt1 2 (by rfl) rfl), (wt2 15 (by rfl) rfl), by decide +kernel⟩
set_option maxRecDepth 20000 in
theorem kw_L_13 : KWV RL 13 RX7 yX7_get cX7_get 3 (some .int) 2 := ⟨(wt2 50 (by rfl) rfl), (wt2 51 (by rfl) rfl), (wt2 52 (by rfl) rfl), (wt1 1 (by rfl) rfl), (wt2 53 (by rfl) rfl), by decide +kernel⟩
set_option maxRecDepth 20000 in
theorem kw_X7_165 : KWV RX7 165 RX7 yX7_isIndex cX7_isIndex 3 (some .boolean) 2 := ⟨(wt2 54 (by rfl) rfl), (wt2 56 (by rfl) rfl), (wt0 2 (by rfl) rfl), (wt1 1 (by rfl) rfl), (wt2 57 (by rfl) rfl), by decide +kernel⟩
set_option maxRecDepth 20000 in
theorem kw_X7_168 : KWV RX7 168 RX0 yX0_numberAt cX0_numberAt 5 (some .int) 2 := ⟨(wt2 58 (by rfl) rfl), (wt2 59 (by rfl) rfl), (wt2 60 (by rfl) rfl), (wt1 2 (by rfl) rfl), (wt2 61 (by rfl) rfl), by decide +kernel⟩
set_option maxRecDepth 20000 in
theorem kw_X0_64 : KWV RX0 64 RX0 yX0_numberOf cX0_numberOf 2 (some .int) 1 := ⟨(wt2 62 (by rfl) rfl), (wt2 63 (by rfl) rfl), (wt2 64 (by rfl) rfl), (wt1 2 (by rfl) rfl), (wt2 65 (by rfl) rfl), by decide +kernel⟩
set_option maxRecDepth 20000 in
theorem kw_L_49 : KWV RL 49 RX7 yX7_sets cX7_sets 5 (some .int) 4 := ⟨(wt2 66 (by rfl) rfl), (wt2 67 (by rfl) rfl), (wt2 68 (by rfl) rfl), (wt1 1 (by rfl) rfl), (wt2 69 (by rfl) rfl), by decide +kernel⟩
set_option maxRecDepth 20000 in
theorem kw_X7_177 : KWV RX7 177 RX7 yX7_readBoth cX7_readBoth 3 none 2 := ⟨(wt2 70 (by rfl) rfl), (wt2 72 (by rfl) rfl), (wt0 3 (by rfl) rfl), (wt1 1 (by rfl) rfl), (wt2 73 (by rfl) rfl), by decide +kernel⟩
set_option maxRecDepth 20000 in
theorem kw_X7_201 : KWV RX7 201 RX0 yX0_read cX0_read 5 none 3 := ⟨(wt2 74 (by rfl) rfl), (wt2 75 (by rfl) rfl), (wt2 76 (by rfl) rfl), (wt1 2 (by rfl) rfl), (wt2 77 (by rfl) rfl), by decide +kernel⟩
set_option maxRecDepth 20000 in
theorem kw_X7_181 : KWV RX7 181 RX7 yX7_markUnlike cX7_markUnlike 4 (some .int) 1 := ⟨(wt2 78 (by rfl) rfl), (wt2 80 (by rfl) rfl), (wt0 4 (by rfl) rfl), (wt1 1 (by rfl) rfl), (wt2 81 (by rfl) rfl), by decide +kernel⟩
set_option maxRecDepth 20000 in
theorem kw_X7_198 : KWV RX7 198 RX5 yX5_clear cX5_clear 1 none 0 := ⟨(wt2 82 (by rfl) rfl), (wt2 83 (by rfl) rfl), (wt2 84 (by rfl) rfl), (wt1 7 (by rfl) rfl), (wt2 85 (by rfl) rfl), by decide +kernel⟩
set_option maxRecDepth 20000 in
theorem kw_X5_19 : KWS RX5 19 yJ7_fill_53178 cJ7_fill_53178 4 none 2 := ⟨(wt2 86 (by rfl) rfl), (wt1 232 (by rfl) rfl), (wt1 8 (by rfl) rfl), (wt1 233 (by rfl) rfl), by decide +kernel⟩
set_option maxRecDepth 20000 in
theorem kw_X7_208 : KWV RX7 208 RX5 yX5_mark cX5_mark 4 none 1 := ⟨(wt2 87 (by rfl) rfl), (wt2 88 (by rfl) rfl), (wt2 89 (by rfl) rfl), (wt1 7 (by rfl) rfl), (wt2 90 (by rfl) rfl), by decide +kernel⟩
set_option maxRecDepth 20000 in
theorem kw_X5_25 : KWS RX5 25 yX3_above cX3_above 2 (some .int) 1 := ⟨(wt2 91 (by rfl) rfl), (wt2 92 (by rfl) rfl), (wt1 9 (by rfl) rfl), (wt2 93 (by rfl) rfl), by decide +kernel⟩
set_option maxRecDepth 20000 in
theorem kw_X7_184 : KWV RX7 184 RX7 yX7_renew cX7_renew 4 (some .int) 2 := ⟨(wt2 94 (by rfl) rfl), (wt2 96 (by rfl) rfl), (wt0 5 (by rfl) rfl), (wt1 1 (by rfl) rfl), (wt2 97 (by rfl) rfl), by decide +kernel⟩
set_option maxRecDepth 20000 in
theorem kw_X7_331 : KWV RX7 331 RX0 yX0_changed cX0_changed 6 (some .int) 4 := ⟨(wt2 98 (by rfl) rfl), (wt2 99 (by rfl) rfl), (wt2 100 (by rfl) rfl), (wt1 2 (by rfl) rfl), (wt2 101 (by rfl) rfl), by decide +kernel⟩
set_option maxRecDepth 20000 in
theorem kw_X0_82 : KWV RX0 82 RX5 yX5_has cX5_has 2 (some .boolean) 1 := ⟨(wt2 102 (by rfl) rfl), (wt2 103 (by rfl) rfl), (wt2 104 (by rfl) rfl), (wt1 7 (by rfl) rfl), (wt2 105 (by rfl) rfl), by decide +kernel⟩
set_option maxRecDepth 20000 in
theorem kw_X0_72 : KWV RX0 72 RX0 yX0_below cX0_below 5 (some .int) 3 := ⟨(wt2 106 (by rfl) rfl), (wt2 108 (by rfl) rfl), (wt0 6 (by rfl) rfl), (wt1 2 (by rfl) rfl), (wt2 109 (by rfl) rfl), by decide +kernel⟩
set_option maxRecDepth 20000 in
theorem kw_X0_79 : KWV RX0 79 RX0 yX0_rootOf cX0_rootOf 2 (some .int) 1 := ⟨(wt2 110 (by rfl) rfl), (wt2 112 (by rfl) rfl), (wt0 7 (by rfl) rfl), (wt1 2 (by rfl) rfl), (wt2 113 (by rfl) rfl), by decide +kernel⟩
set_option maxRecDepth 20000 in
theorem kw_L_32 : KWV RL 32 RX7 yX7_front cX7_front 4 (some .int) 3 := ⟨(wt2 114 (by rfl) rfl), (wt2 115 (by rfl) rfl), (wt2 116 (by rfl) rfl), (wt1 1 (by rfl) rfl), (wt2 117 (by rfl) rfl), by decide +kernel⟩
set_option maxRecDepth 20000 in
theorem kw_X7_187 : KWV RX7 187 RX7 yX7_putOne cX7_putOne 6 (some .int) 4 := ⟨(wt2 118 (by rfl) rfl), (wt2 120 (by rfl) rfl), (wt0 8 (by rfl) rfl), (wt1 1 (by rfl) rfl), (wt2 121 (by rfl) rfl), by decide +kernel⟩
set_option maxRecDepth 20000 in
theorem kw_X7_222 : KWV RX7 222 RX0 yX0_put cX0_put 5 (some .int) 4 := ⟨(wt2 122 (by rfl) rfl), (wt2 123 (by rfl) rfl), (wt2 124 (by rfl) rfl), (wt1 2 (by rfl) rfl), (wt2 125 (by rfl) rfl), by decide +kernel⟩
set_option maxRecDepth 20000 in
theorem kw_X0_99 : KWS RX0 99 yX0_fronted cX0_fronted 5 (some .int) 4 := ⟨(wt2 126 (by rfl) rfl), (wt2 127 (by rfl) rfl), (wt1 2 (by rfl) rfl), (wt2 128 (by rfl) rfl), by decide +kernel⟩
set_option maxRecDepth 20000 in
theorem kw_X0_136 : KWS RX0 136 yX3_rightSize cX3_rightSize 1 (some .int) 1 := ⟨(wt2 129 (by rfl) rfl), (wt2 46 (by rfl) rfl), (wt1 9 (by rfl) rfl), (wt2 47 (by rfl) rfl), by decide +kernel⟩
set_option maxRecDepth 20000 in
theorem kw_X0_103 : KWS RX0 103 yX0_backed cX0_backed 6 (some .int) 4 := ⟨(wt2 130 (by rfl) rfl), (wt2 131 (by rfl) rfl), (wt1 2 (by rfl) rfl), (wt2 132 (by rfl) rfl), by decide +kernel⟩
set_option maxRecDepth 20000 in
theorem kw_X0_126 : KWS RX0 126 yX3_leftSize cX3_leftSize 1 (some .int) 1 := ⟨(wt2 133 (by rfl) rfl), (wt2 43 (by rfl) rfl), (wt1 9 (by rfl) rfl), (wt2 44 (by rfl) rfl), by decide +kernel⟩
set_option maxRecDepth 20000 in
theorem kw_X0_106 : KWS RX0 106 yX0_pushed cX0_pushed 6 (some .int) 4 := ⟨(wt2 134 (by rfl) rfl), (wt2 135 (by rfl) rfl), (wt1 2 (by rfl) rfl), (wt2 136 (by rfl) rfl), by decide +kernel⟩
set_option maxRecDepth 20000 in
theorem kw_X0_93 : KWS RX0 93 yJ9_max_7cf53 cJ9_max_7cf53 2 (some .int) 2 := ⟨(wt2 137 (by rfl) rfl), (wt2 138 (by rfl) rfl), (wt1 10 (by rfl) rfl), (wt2 139 (by rfl) rfl), by decide +kernel⟩
set_option maxRecDepth 20000 in
theorem kw_X0_139 : KWS RX0 139 yJ9_min_7cf53 cJ9_min_7cf53 2 (some .int) 2 := ⟨(wt2 140 (by rfl) rfl), (wt2 141 (by rfl) rfl), (wt1 10 (by rfl) rfl), (wt2 142 (by rfl) rfl), by decide +kernel⟩
set_option maxRecDepth 20000 in
theorem kw_L_36 : KWV RL 36 RX7 yX7_back cX7_back 4 (some .int) 3 := ⟨(wt2 143 (by rfl) rfl), (wt2 144 (by rfl) rfl), (wt2 145 (by rfl) rfl), (wt1 1 (by rfl) rfl), (wt2 146 (by rfl) rfl), by decide +kernel⟩
set_option maxRecDepth 20000 in
theorem kw_L_39 : KWV RL 39 RX7 yX7_first cX7_first 3 (some .int) 2 := ⟨(wt2 147 (by rfl) rfl), (wt2 148 (by rfl) rfl), (wt2 149 (by rfl) rfl), (wt1 1 (by rfl) rfl), (wt2 150 (by rfl) rfl), by decide +kernel⟩
set_option maxRecDepth 20000 in
theorem kw_X7_191 : KWV RX7 191 RX7 yX7_takeOne cX7_takeOne 6 (some .int) 4 := ⟨(wt2 151 (by rfl) rfl), (wt2 153 (by rfl) rfl), (wt0 9 (by rfl) rfl), (wt1 1 (by rfl) rfl), (wt2 154 (by rfl) rfl), by decide +kernel⟩
set_option maxRecDepth 20000 in
theorem kw_X7_171 : KWV RX7 171 RX2 yX2_tell cX2_tell 3 none 1 := ⟨(wt2 155 (by rfl) rfl), (wt2 156 (by rfl) rfl), (wt2 157 (by rfl) rfl), (wt1 3 (by rfl) rfl), (wt2 158 (by rfl) rfl), by decide +kernel⟩
set_option maxRecDepth 20000 in
theorem kw_X2_19 : KWV RX2 19 RX2 yX2_clear cX2_clear 1 none 0 := ⟨(wt2 159 (by rfl) rfl), (wt2 160 (by rfl) rfl), (wt2 161 (by rfl) rfl), (wt1 3 (by rfl) rfl), (wt2 162 (by rfl) rfl), by decide +kernel⟩
set_option maxRecDepth 20000 in
theorem kw_X2_22 : KWV RX2 22 RX2 yX2_add cX2_add 3 none 1 := ⟨(wt2 163 (by rfl) rfl), (wt2 164 (by rfl) rfl), (wt2 165 (by rfl) rfl), (wt1 3 (by rfl) rfl), (wt2 166 (by rfl) rfl), by decide +kernel⟩
set_option maxRecDepth 20000 in
theorem kw_X7_219 : KWV RX7 219 RX0 yX0_take cX0_take 4 (some .int) 3 := ⟨(wt2 167 (by rfl) rfl), (wt2 168 (by rfl) rfl), (wt2 169 (by rfl) rfl), (wt1 2 (by rfl) rfl), (wt2 170 (by rfl) rfl), by decide +kernel⟩
set_option maxRecDepth 20000 in
theorem kw_X0_113 : KWS RX0 113 yX0_firstGone cX0_firstGone 5 (some .int) 3 := ⟨(wt2 171 (by rfl) rfl), (wt2 172 (by rfl) rfl), (wt1 2 (by rfl) rfl), (wt2 173 (by rfl) rfl), by decide +kernel⟩
set_option maxRecDepth 20000 in
theorem kw_X0_117 : KWS RX0 117 yX0_lastGone cX0_lastGone 5 (some .int) 3 := ⟨(wt2 174 (by rfl) rfl), (wt2 175 (by rfl) rfl), (wt1 2 (by rfl) rfl), (wt2 176 (by rfl) rfl), by decide +kernel⟩
set_option maxRecDepth 20000 in
theorem kw_L_46 : KWV RL 46 RX7 yX7_last cX7_last 3 (some .int) 2 := ⟨(wt2 177 (by rfl) rfl), (wt2 178 (by rfl) rfl), (wt2 179 (by rfl) rfl), (wt1 1 (by rfl) rfl), (wt2 180 (by rfl) rfl), by decide +kernel⟩
set_option maxRecDepth 20000 in
theorem kw_L_53 : KWV RL 53 RX7 yX7_adds cX7_adds 7 (some .int) 5 := ⟨(wt2 181 (by rfl) rfl), (wt2 182 (by rfl) rfl), (wt2 183 (by rfl) rfl), (wt1 1 (by rfl) rfl), (wt2 184 (by rfl) rfl), by decide +kernel⟩
set_option maxRecDepth 20000 in
theorem kw_X7_194 : KWV RX7 194 RX7 yX7_isRange cX7_isRange 4 (some .boolean) 3 := ⟨(wt2 185 (by rfl) rfl), (wt2 187 (by rfl) rfl), (wt0 10 (by rfl) rfl), (wt1 1 (by rfl) rfl), (wt2 188 (by rfl) rfl), by decide +kernel⟩
set_option maxRecDepth 20000 in
theorem kw_X7_205 : KWS RX7 205 yX7_held cX7_held 1 (some .int) 1 := ⟨(wt2 189 (by rfl) rfl), (wt2 190 (by rfl) rfl), (wt1 1 (by rfl) rfl), (wt2 191 (by rfl) rfl), by decide +kernel⟩
set_option maxRecDepth 20000 in
theorem kw_X7_228 : KWS RX7 228 yJ9_min_7cf53 cJ9_min_7cf53 2 (some .int) 2 := ⟨(wt2 192 (by rfl) rfl), (wt2 141 (by rfl) rfl), (wt1 10 (by rfl) rfl), (wt2 142 (by rfl) rfl), by decide +kernel⟩
set_option maxRecDepth 20000 in
theorem kw_X7_286 : KWS RX7 286 yJ9_max_7cf53 cJ9_max_7cf53 2 (some .int) 2 := ⟨(wt2 193 (by rfl) rfl), (wt2 138 (by rfl) rfl), (wt1 10 (by rfl) rfl), (wt2 139 (by rfl) rfl), by decide +kernel⟩
set_option maxRecDepth 20000 in
theorem kw_L_66 : KWV RL 66 RX7 yX7_appends cX7_appends 6 (some .int) 3 := ⟨(wt2 194 (by rfl) rfl), (wt2 195 (by rfl) rfl), (wt2 196 (by rfl) rfl), (wt1 1 (by rfl) rfl), (wt2 197 (by rfl) rfl), by decide +kernel⟩
set_option maxRecDepth 20000 in
theorem kw_X7_212 : KWV RX7 212 RX0 yX0_putAll cX0_putAll 8 (some .int) 5 := ⟨(wt2 198 (by rfl) rfl), (wt2 199 (by rfl) rfl), (wt2 200 (by rfl) rfl), (wt1 2 (by rfl) rfl), (wt2 201 (by rfl) rfl), by decide +kernel⟩
set_option maxRecDepth 20000 in
theorem kw_X0_109 : KWV RX0 109 RX0 yX0_put cX0_put 5 (some .int) 4 := ⟨(wt2 202 (by rfl) rfl), (wt2 123 (by rfl) rfl), (wt2 124 (by rfl) rfl), (wt1 2 (by rfl) rfl), (wt2 125 (by rfl) rfl), by decide +kernel⟩
set_option maxRecDepth 20000 in
theorem kw_L_86 : KWV RL 86 RX7 yX7_turned cX7_turned 9 (some .int) 3 := ⟨(wt2 203 (by rfl) rfl), (wt2 204 (by rfl) rfl), (wt2 205 (by rfl) rfl), (wt1 1 (by rfl) rfl), (wt2 206 (by rfl) rfl), by decide +kernel⟩
set_option maxRecDepth 20000 in
theorem kw_X7_216 : KWV RX7 216 RX0 yX0_numberOf cX0_numberOf 2 (some .int) 1 := ⟨(wt2 207 (by rfl) rfl), (wt2 63 (by rfl) rfl), (wt2 64 (by rfl) rfl), (wt1 2 (by rfl) rfl), (wt2 65 (by rfl) rfl), by decide +kernel⟩
set_option maxRecDepth 20000 in
theorem kw_L_60 : KWV RL 60 RX7 yX7_keeps cX7_keeps 5 (some .int) 3 := ⟨(wt2 208 (by rfl) rfl), (wt2 209 (by rfl) rfl), (wt2 210 (by rfl) rfl), (wt1 1 (by rfl) rfl), (wt2 211 (by rfl) rfl), by decide +kernel⟩
set_option maxRecDepth 20000 in
theorem kw_X7_225 : KWV RX7 225 RX0 yX0_takeMany cX0_takeMany 7 (some .int) 4 := ⟨(wt2 212 (by rfl) rfl), (wt2 213 (by rfl) rfl), (wt2 214 (by rfl) rfl), (wt1 2 (by rfl) rfl), (wt2 215 (by rfl) rfl), by decide +kernel⟩
set_option maxRecDepth 20000 in
theorem kw_X0_120 : KWV RX0 120 RX0 yX0_take cX0_take 4 (some .int) 3 := ⟨(wt2 216 (by rfl) rfl), (wt2 168 (by rfl) rfl), (wt2 169 (by rfl) rfl), (wt1 2 (by rfl) rfl), (wt2 170 (by rfl) rfl), by decide +kernel⟩
set_option maxRecDepth 20000 in
theorem kw_L_63 : KWV RL 63 RX7 yX7_skips cX7_skips 5 (some .int) 3 := ⟨(wt2 217 (by rfl) rfl), (wt2 218 (by rfl) rfl), (wt2 219 (by rfl) rfl), (wt1 1 (by rfl) rfl), (wt2 220 (by rfl) rfl), by decide +kernel⟩
set_option maxRecDepth 20000 in
theorem kw_L_75 : KWV RL 75 RX7 yX7_heap cX7_heap 4 (some .int) 1 := ⟨(wt2 221 (by rfl) rfl), (wt2 222 (by rfl) rfl), (wt2 223 (by rfl) rfl), (wt1 1 (by rfl) rfl), (wt2 224 (by rfl) rfl), by decide +kernel⟩
set_option maxRecDepth 20000 in
theorem kw_X7_242 : KWS RX7 242 yX3_above cX3_above 2 (some .int) 1 := ⟨(wt2 225 (by rfl) rfl), (wt2 92 (by rfl) rfl), (wt1 9 (by rfl) rfl), (wt2 93 (by rfl) rfl), by decide +kernel⟩
set_option maxRecDepth 20000 in
theorem kw_L_92 : KWV RL 92 RX7 yX7_pop cX7_pop 5 (some .int) 2 := ⟨(wt2 226 (by rfl) rfl), (wt2 227 (by rfl) rfl), (wt2 228 (by rfl) rfl), (wt1 1 (by rfl) rfl), (wt2 229 (by rfl) rfl), by decide +kernel⟩
set_option maxRecDepth 20000 in
theorem kw_X7_245 : KWV RX7 245 RX0 yX0_popped cX0_popped 6 (some .int) 2 := ⟨(wt2 230 (by rfl) rfl), (wt2 231 (by rfl) rfl), (wt2 232 (by rfl) rfl), (wt1 2 (by rfl) rfl), (wt2 233 (by rfl) rfl), by decide +kernel⟩
set_option maxRecDepth 20000 in
theorem kw_X0_123 : KWV RX0 123 RX0 yX0_farLeft cX0_farLeft 4 (some .int) 1 := ⟨(wt2 234 (by rfl) rfl), (wt2 236 (by rfl) rfl), (wt0 11 (by rfl) rfl), (wt1 2 (by rfl) rfl), (wt2 237 (by rfl) rfl), by decide +kernel⟩
set_option maxRecDepth 20000 in
theorem kw_X0_129 : KWS RX0 129 yX0_farLeftGone cX0_farLeftGone 4 (some .int) 3 := ⟨(wt2 238 (by rfl) rfl), (wt2 239 (by rfl) rfl), (wt1 2 (by rfl) rfl), (wt3 0 (by rfl) rfl), by decide +kernel⟩
set_option maxRecDepth 20000 in
theorem kw_X0_132 : KWS RX0 132 yX0_sifted cX0_sifted 8 (some .int) 5 := ⟨(wt3 1 (by rfl) rfl), (wt3 2 (by rfl) rfl), (wt1 2 (by rfl) rfl), (wt3 3 (by rfl) rfl), by decide +kernel⟩
set_option maxRecDepth 20000 in
theorem kw_L_72 : KWV RL 72 RX7 yX7_heaps cX7_heaps 4 (some .int) 2 := ⟨(wt3 4 (by rfl) rfl), (wt3 5 (by rfl) rfl), (wt3 6 (by rfl) rfl), (wt1 1 (by rfl) rfl), (wt3 7 (by rfl) rfl), by decide +kernel⟩
set_option maxRecDepth 20000 in
theorem kw_L_83 : KWV RL 83 RX7 yX7_sum cX7_sum 8 (some .int) 3 := ⟨(wt3 8 (by rfl) rfl), (wt3 9 (by rfl) rfl), (wt3 10 (by rfl) rfl), (wt1 1 (by rfl) rfl), (wt3 11 (by rfl) rfl), by decide +kernel⟩
set_option maxRecDepth 20000 in
theorem kw_X7_248 : KWV RX7 248 RX2 yX2_clear cX2_clear 1 none 0 := ⟨(wt3 13 (by rfl) rfl), (wt2 160 (by rfl) rfl), (wt2 161 (by rfl) rfl), (wt1 3 (by rfl) rfl), (wt2 162 (by rfl) rfl), by decide +kernel⟩
set_option maxRecDepth 20000 in
theorem kw_X7_162 : KWV RX7 162 RX2 yX2_tell_ cX2_tell_ 5 none 2 := ⟨(wt3 14 (by rfl) rfl), (wt3 15 (by rfl) rfl), (wt3 16 (by rfl) rfl), (wt1 3 (by rfl) rfl), (wt3 17 (by rfl) rfl), by decide +kernel⟩
set_option maxRecDepth 20000 in
theorem kw_X2_26 : KWV RX2 26 RX2 yX2_tell cX2_tell 3 none 1 := ⟨(wt3 18 (by rfl) rfl), (wt2 156 (by rfl) rfl), (wt2 157 (by rfl) rfl), (wt1 3 (by rfl) rfl), (wt2 158 (by rfl) rfl), by decide +kernel⟩
set_option maxRecDepth 20000 in
theorem kw_X7_249 : KWV RX7 249 RX2 yX2_add cX2_add 3 none 1 := ⟨(wt3 19 (by rfl) rfl), (wt2 164 (by rfl) rfl), (wt2 165 (by rfl) rfl), (wt1 3 (by rfl) rfl), (wt2 166 (by rfl) rfl), by decide +kernel⟩
set_option maxRecDepth 20000 in
theorem kw_L_103 : KWV RL 103 RX7 yX7_same cX7_same 6 (some .int) 2 := ⟨(wt3 20 (by rfl) rfl), (wt3 21 (by rfl) rfl), (wt3 22 (by rfl) rfl), (wt1 1 (by rfl) rfl), (wt3 23 (by rfl) rfl), by decide +kernel⟩
set_option maxRecDepth 20000 in
theorem kw_X7_253 : KWV RX7 253 RX7 yX7_nodesInBoth cX7_nodesInBoth 5 (some .int) 2 := ⟨(wt3 25 (by rfl) rfl), (wt3 27 (by rfl) rfl), (wt0 12 (by rfl) rfl), (wt1 1 (by rfl) rfl), (wt3 28 (by rfl) rfl), by decide +kernel⟩
set_option maxRecDepth 20000 in
theorem kw_X7_277 : KWV RX7 277 RX0 yX0_forget cX0_forget 1 none 0 := ⟨(wt3 29 (by rfl) rfl), (wt3 30 (by rfl) rfl), (wt3 31 (by rfl) rfl), (wt1 2 (by rfl) rfl), (wt3 32 (by rfl) rfl), by decide +kernel⟩
set_option maxRecDepth 20000 in
theorem kw_X7_297 : KWV RX7 297 RX7 yX7_seeAll cX7_seeAll 4 none 2 := ⟨(wt3 33 (by rfl) rfl), (wt3 35 (by rfl) rfl), (wt0 13 (by rfl) rfl), (wt1 1 (by rfl) rfl), (wt3 36 (by rfl) rfl), by decide +kernel⟩
set_option maxRecDepth 20000 in
theorem kw_X7_280 : KWV RX7 280 RX0 yX0_spread cX0_spread 5 none 2 := ⟨(wt3 37 (by rfl) rfl), (wt1 239 (by rfl) rfl), (wt2 0 (by rfl) rfl), (wt1 2 (by rfl) rfl), (wt2 1 (by rfl) rfl), by decide +kernel⟩
set_option maxRecDepth 20000 in
theorem kw_X7_289 : KWV RX7 289 RX0 yX0_seeAt cX0_seeAt 5 (some .int) 2 := ⟨(wt3 38 (by rfl) rfl), (wt3 39 (by rfl) rfl), (wt3 40 (by rfl) rfl), (wt1 2 (by rfl) rfl), (wt3 41 (by rfl) rfl), by decide +kernel⟩
set_option maxRecDepth 20000 in
theorem kw_X0_90 : KWV RX0 90 RX0 yX0_seenOf cX0_seenOf 2 (some .int) 1 := ⟨(wt3 42 (by rfl) rfl), (wt3 44 (by rfl) rfl), (wt0 14 (by rfl) rfl), (wt1 2 (by rfl) rfl), (wt3 45 (by rfl) rfl), by decide +kernel⟩
set_option maxRecDepth 20000 in
theorem kw_L_99 : KWV RL 99 RX7 yX7_nodes cX7_nodes 7 (some .int) 0 := ⟨(wt3 46 (by rfl) rfl), (wt3 47 (by rfl) rfl), (wt3 48 (by rfl) rfl), (wt1 1 (by rfl) rfl), (wt3 49 (by rfl) rfl), by decide +kernel⟩
set_option maxRecDepth 20000 in
theorem kw_X7_292 : KWS RX7 292 yJ6_bitCount_0f7a4 cJ6_bitCount_0f7a4 1 (some .int) 1 := ⟨(wt3 50 (by rfl) rfl), (wt2 29 (by rfl) rfl), (wt1 15 (by rfl) rfl), (wt2 30 (by rfl) rfl), by decide +kernel⟩
set_option maxRecDepth 20000 in
theorem kw_L_29 : KWV RL 29 RX7 yX7_count cX7_count 2 (some .int) 1 := ⟨(wt3 51 (by rfl) rfl), (wt3 52 (by rfl) rfl), (wt3 53 (by rfl) rfl), (wt1 1 (by rfl) rfl), (wt3 54 (by rfl) rfl), by decide +kernel⟩
set_option maxRecDepth 20000 in
theorem kw_X7_300 : KWV RX7 300 RX7 yX7_placesInUse cX7_placesInUse 3 (some .int) 0 := ⟨(wt3 55 (by rfl) rfl), (wt3 57 (by rfl) rfl), (wt0 15 (by rfl) rfl), (wt1 1 (by rfl) rfl), (wt3 58 (by rfl) rfl), by decide +kernel⟩
set_option maxRecDepth 20000 in
theorem kw_L_42 : KWV RL 42 RX7 yX7_row cX7_row 2 (some .long) 1 := ⟨(wt3 59 (by rfl) rfl), (wt3 60 (by rfl) rfl), (wt3 61 (by rfl) rfl), (wt1 1 (by rfl) rfl), (wt3 62 (by rfl) rfl), by decide +kernel⟩
set_option maxRecDepth 20000 in
theorem kw_L_23 : KWS RL 23 yL_cell cL_cell 2 (some .int) 2 := ⟨(wt3 129 (by rfl) rfl), (wt3 130 (by rfl) rfl), (wt1 0 (by rfl) rfl), (wt3 131 (by rfl) rfl), by decide +kernel⟩
set_option maxRecDepth 20000 in
theorem kw_L_57 : KWS RL 57 yL_held cL_held 1 (some .int) 1 := ⟨(wt3 132 (by rfl) rfl), (wt3 133 (by rfl) rfl), (wt1 0 (by rfl) rfl), (wt3 134 (by rfl) rfl), by decide +kernel⟩
set_option maxRecDepth 20000 in
theorem kw_L_95 : KWS RL 95 yL_is cL_is 5 (some .boolean) 4 := ⟨(wt3 135 (by rfl) rfl), (wt3 136 (by rfl) rfl), (wt1 0 (by rfl) rfl), (wt3 137 (by rfl) rfl), by decide +kernel⟩
set_option maxRecDepth 20000 in
theorem kw_L_7 : KWV RL 7 RX7 yX7_size cX7_size 3 (some .int) 1 := ⟨(wt3 138 (by rfl) rfl), (wt3 139 (by rfl) rfl), (wt3 140 (by rfl) rfl), (wt1 1 (by rfl) rfl), (wt3 141 (by rfl) rfl), by decide +kernel⟩
set_option maxRecDepth 20000 in
theorem kw_X7_154 : KWS RX7 154 yX3_steps cX3_steps 3 (some .int) 1 := ⟨(wt3 142 (by rfl) rfl), (wt3 143 (by rfl) rfl), (wt1 9 (by rfl) rfl), (wt3 144 (by rfl) rfl), by decide +kernel⟩
set_option maxRecDepth 20000 in
theorem kw_X3_32 : KWS RX3 32 yX3_leftSize cX3_leftSize 1 (some .int) 1 := ⟨(wt3 145 (by rfl) rfl), (wt2 43 (by rfl) rfl), (wt1 9 (by rfl) rfl), (wt2 44 (by rfl) rfl), by decide +kernel⟩
set_option maxRecDepth 20000 in
theorem kw_X3_35 : KWS RX3 35 yX3_rightSize cX3_rightSize 1 (some .int) 1 := ⟨(wt3 146 (by rfl) rfl), (wt2 46 (by rfl) rfl), (wt1 9 (by rfl) rfl), (wt2 47 (by rfl) rfl), by decide +kernel⟩
set_option maxRecDepth 20000 in
theorem kw_X3_38 : KWS RX3 38 yX3_stepsOfMore cX3_stepsOfMore 5 (some .int) 2 := ⟨(wt3 147 (by rfl) rfl), (wt3 148 (by rfl) rfl), (wt1 9 (by rfl) rfl), (wt3 149 (by rfl) rfl), by decide +kernel⟩
set_option maxRecDepth 20000 in
theorem kw_X7_159 : KWS RX7 159 yX3_depth cX3_depth 1 (some .int) 1 := ⟨(wt3 150 (by rfl) rfl), (wt2 25 (by rfl) rfl), (wt1 9 (by rfl) rfl), (wt2 26 (by rfl) rfl), by decide +kernel⟩
set_option maxRecDepth 20000 in
theorem kw_L_17 : KWV RL 17 RX7 yX7_own cX7_own 6 (some .int) 1 := ⟨(wt3 151 (by rfl) rfl), (wt3 152 (by rfl) rfl), (wt3 153 (by rfl) rfl), (wt1 1 (by rfl) rfl), (wt3 154 (by rfl) rfl), by decide +kernel⟩
set_option maxRecDepth 20000 in
theorem kw_L_78 : KWS RL 78 yJ9_min_7cf53 cJ9_min_7cf53 2 (some .int) 2 := ⟨(wt3 155 (by rfl) rfl), (wt2 141 (by rfl) rfl), (wt1 10 (by rfl) rfl), (wt2 142 (by rfl) rfl), by decide +kernel⟩

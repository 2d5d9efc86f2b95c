def R_B : String := "BookChecks"
def F_B : u_T := fun k => match k with
  | 0 => ("BookChecks", "seed", "J", true)
  | 1 => ("BookChecks", "pages", "LBookChecks$Book;", true)
  | 2 => ("BookChecks", "sales", "LBookChecks$Book;", true)
  | 3 => ("BookChecks", "joins", "LBookChecks$Joins;", true)
  | 4 => ("BookChecks", "plants", "LBookChecks$Plants;", true)
  | 5 => ("BookChecks", "risks", "LBookChecks$Risks;", true)
  | 6 => ("BookChecks", "latest", "LBookChecks$Row;", true)
  | 7 => ("BookChecks", "trial", "LBookChecks$Row;", true)
  | 8 => ("BookChecks", "watch", "LBookChecks$Watch;", true)
  | _ => ("BookChecks", "acts", "LBookChecks$Acts;", true)
def t_B : Nat → FieldType := fun k => match k with
  | 0 => .long
  | 1 => (.object "BookChecks$Book")
  | 2 => (.object "BookChecks$Book")
  | 3 => (.object "BookChecks$Joins")
  | 4 => (.object "BookChecks$Plants")
  | 5 => (.object "BookChecks$Risks")
  | 6 => (.object "BookChecks$Row")
  | 7 => (.object "BookChecks$Row")
  | 8 => (.object "BookChecks$Watch")
  | _ => (.object "BookChecks$Acts")
def R_Bk : String := "BookChecks$Book"
def F_Bk : u_T := fun k => match k with
  | 0 => ("BookChecks$Book", "ships", "[I", true)
  | 1 => ("BookChecks$Book", "days", "[I", true)
  | 2 => ("BookChecks$Book", "kinds", "[I", true)
  | 3 => ("BookChecks$Book", "grams", "[J", true)
  | _ => ("BookChecks$Book", "size", "I", false)
def t_Bk : Nat → FieldType := fun k => match k with
  | 0 => (.array .int)
  | 1 => (.array .int)
  | 2 => (.array .int)
  | 3 => (.array .long)
  | _ => .int
def R_Jo : String := "BookChecks$Joins"
def F_Jo : u_T := fun k => match k with
  | 0 => ("BookChecks$Joins", "saleOfPage", "[I", true)
  | _ => ("BookChecks$Joins", "pageOfSale", "[I", true)
def t_Jo : Nat → FieldType := fun k => match k with
  | 0 => (.array .int)
  | _ => (.array .int)
def R_Pl : String := "BookChecks$Plants"
def F_Pl : u_T := fun k => match k with
  | 0 => ("BookChecks$Plants", "cameIn", "[J", true)
  | 1 => ("BookChecks$Plants", "kinds", "[I", true)
  | 2 => ("BookChecks$Plants", "outs", "[I", true)
  | 3 => ("BookChecks$Plants", "outKinds", "[I", true)
  | 4 => ("BookChecks$Plants", "outGrams", "[J", true)
  | _ => ("BookChecks$Plants", "size", "I", false)
def t_Pl : Nat → FieldType := fun k => match k with
  | 0 => (.array .long)
  | 1 => (.array .int)
  | 2 => (.array .int)
  | 3 => (.array .int)
  | 4 => (.array .long)
  | _ => .int
def R_Ri : String := "BookChecks$Risks"
def F_Ri : u_T := fun k => match k with
  | 0 => ("BookChecks$Risks", "weightOfShip", "[I", true)
  | _ => ("BookChecks$Risks", "weightLeft", "[I", true)
def t_Ri : Nat → FieldType := fun k => match k with
  | 0 => (.array .int)
  | _ => (.array .int)
def R_Ro : String := "BookChecks$Row"
def F_Ro : u_T := fun k => match k with
  | 0 => ("BookChecks$Row", "taken", "[I", true)
  | 1 => ("BookChecks$Row", "size", "I", false)
  | _ => ("BookChecks$Row", "asked", "I", false)
def t_Ro : Nat → FieldType := fun k => match k with
  | 0 => (.array .int)
  | 1 => .int
  | _ => .int
def R_Wa : String := "BookChecks$Watch"
def F_Wa : u_T := fun k => match k with
  | _ => ("BookChecks$Watch", "minutesOf", "[J", true)
def t_Wa : Nat → FieldType := fun k => match k with
  | _ => (.array .long)
def R_Ac : String := "BookChecks$Acts"
def F_Ac : u_T := fun k => match k with
  | 0 => ("BookChecks$Acts", "states", "[I", true)
  | 1 => ("BookChecks$Acts", "wrongs", "[I", true)
  | _ => ("BookChecks$Acts", "latestPersons", "[I", true)
def t_Ac : Nat → FieldType := fun k => match k with
  | 0 => (.array .int)
  | 1 => (.array .int)
  | _ => (.array .int)
def R_Mo : String := "BookChecksModel"
def F_Mo : u_T := fun k => match k with
  | 0 => ("BookChecksModel", "code", "I", false)
  | 1 => ("BookChecksModel", "seed", "J", true)
  | 2 => ("BookChecksModel", "counts", "[I", true)
  | 3 => ("BookChecksModel", "ships", "[I", true)
  | 4 => ("BookChecksModel", "days", "[I", true)
  | 5 => ("BookChecksModel", "kinds", "[I", true)
  | 6 => ("BookChecksModel", "grams", "[J", true)
  | 7 => ("BookChecksModel", "saleOf", "[I", true)
  | 8 => ("BookChecksModel", "sold", "[Z", true)
  | 9 => ("BookChecksModel", "plants", "I", false)
  | 10 => ("BookChecksModel", "ins", "[J", true)
  | 11 => ("BookChecksModel", "plantKinds", "[I", true)
  | 12 => ("BookChecksModel", "outs", "[I", true)
  | 13 => ("BookChecksModel", "outKinds", "[I", true)
  | 14 => ("BookChecksModel", "outGrams", "[J", true)
  | 15 => ("BookChecksModel", "weights", "[I", true)
  | 16 => ("BookChecksModel", "asked", "I", false)
  | 17 => ("BookChecksModel", "drawnCount", "I", false)
  | 18 => ("BookChecksModel", "drawn", "[I", true)
  | 19 => ("BookChecksModel", "triedCount", "I", false)
  | 20 => ("BookChecksModel", "tried", "[I", true)
  | 21 => ("BookChecksModel", "gone", "[Z", true)
  | 22 => ("BookChecksModel", "choices", "[J", true)
  | 23 => ("BookChecksModel", "watched", "[Z", true)
  | 24 => ("BookChecksModel", "states", "[I", true)
  | 25 => ("BookChecksModel", "persons", "[I", true)
  | _ => ("BookChecksModel", "wrongs", "[I", true)
def t_Mo : Nat → FieldType := fun k => match k with
  | 0 => .int
  | 1 => .long
  | 2 => (.array .int)
  | 3 => (.array .int)
  | 4 => (.array .int)
  | 5 => (.array .int)
  | 6 => (.array .long)
  | 7 => (.array .int)
  | 8 => (.array .boolean)
  | 9 => .int
  | 10 => (.array .long)
  | 11 => (.array .int)
  | 12 => (.array .int)
  | 13 => (.array .int)
  | 14 => (.array .long)
  | 15 => (.array .int)
  | 16 => .int
  | 17 => .int
  | 18 => (.array .int)
  | 19 => .int
  | 20 => (.array .int)
  | 21 => (.array .boolean)
  | 22 => (.array .long)
  | 23 => (.array .boolean)
  | 24 => (.array .int)
  | 25 => (.array .int)
  | _ => (.array .int)
def R_Lw : String := "BookChecksLaw"
def R_In : String := "java/lang/Integer"
abbrev vwCl : List vw_C := [(R_B, F_B, 10), (R_Bk, F_Bk, 5), (R_Jo, F_Jo, 2), (R_Pl, F_Pl, 6), (R_Ri, F_Ri, 2), (R_Ro, F_Ro, 3), (R_Wa, F_Wa, 1), (R_Ac, F_Ac, 3), (R_Mo, F_Mo, 27)]
/-- the words that every method goes by: those of the tables that stay -/
def gW : List Cond := lw_tbl.filter goodWord
theorem gW_in {w : Cond} (h : w ∈ tables_1) (hg : goodWord w = true) : w ∈ gW := List.mem_filter.mpr ⟨List.mem_append_right _ h, hg⟩
theorem gW_sel {w : Cond} (h : w ∈ k2_sels lw_privs) (hg : goodWord w = true) : w ∈ gW := List.mem_filter.mpr ⟨List.mem_append_left _ h, hg⟩
theorem in1 {w : Cond} (h : w ∈ tables_1_1) : w ∈ tables_1 := List.mem_append_left _ h
theorem in2 {w : Cond} (h : w ∈ tables_1_2) : w ∈ tables_1 := List.mem_append_right _ (List.mem_append_left _ h)
theorem in3 {w : Cond} (h : w ∈ tables_1_3) : w ∈ tables_1 := List.mem_append_right _ (List.mem_append_right _ (List.mem_append_left _ h))
theorem in4 {w : Cond} (h : w ∈ tables_1_4) : w ∈ tables_1 := List.mem_append_right _ (List.mem_append_right _ (List.mem_append_right _ h))
theorem gW_good {w : Cond} (h : w ∈ gW) : (w.onTables && w.keeps) = true ∨ ∃ ty, w = .arrayClass ty := good_of_word (List.mem_filter.mp h).2
theorem gd {c : Cond} (h : c ∈ gW) : GoodIn gW (c :: gW) := fun w hw => by
  rcases List.mem_cons.mp hw with rfl | hw
  · exact ⟨h, gW_good h⟩
  · exact ⟨hw, gW_good hw⟩
theorem gdV {own C : String} {ix : Nat} {y : MethodName} {c : Cond} (h1 : Cond.methodLink own ix y ∈ gW) (h2 : Cond.instanceMethod y ∈ gW) (h3 : Cond.selects C y y ∈ gW) (h4 : Cond.initialized C ∈ gW) (h : c ∈ gW) : GoodIn gW (wsV own ix C y (c :: gW)) := fun w hw => by
  unfold wsV at hw
  rcases List.mem_append.mp hw with hw | hw
  · have : w ∈ gW := by
      simp only [List.mem_cons, List.not_mem_nil, or_false] at hw
      rcases hw with rfl | rfl | rfl | rfl <;> assumption
    exact ⟨this, gW_good this⟩
  · exact gd h w hw
theorem gdS {own : String} {ix : Nat} {y : MethodName} {c : Cond} (h1 : Cond.methodLink own ix y ∈ gW) (h2 : Cond.static y ∈ gW) (h4 : Cond.initialized y.cls ∈ gW) (h : c ∈ gW) : GoodIn gW (va_wsS own ix y (c :: gW)) := fun w hw => by
  unfold va_wsS at hw
  rcases List.mem_append.mp hw with hw | hw
  · have : w ∈ gW := by
      simp only [List.mem_cons, List.not_mem_nil, or_false] at hw
      rcases hw with rfl | rfl | rfl <;> assumption
    exact ⟨this, gW_good this⟩
  · exact gd h w hw
def nests : List Cond := [(Cond.methodLinkNest "BookChecks" (15 : Nat) ({ cls := "BookChecks$Book", name := "<init>", desc := "()V" } : MethodName) "BookChecks"), (Cond.methodLinkNest "BookChecks" (32 : Nat) ({ cls := "BookChecks$Plants", name := "<init>", desc := "()V" } : MethodName) "BookChecks"), (Cond.methodLinkNest "BookChecks" (46 : Nat) ({ cls := "BookChecks$Row", name := "<init>", desc := "()V" } : MethodName) "BookChecks"), (Cond.methodLinkNest "BookChecks" (56 : Nat) ({ cls := "BookChecks$Watch", name := "<init>", desc := "()V" } : MethodName) "BookChecks"), (Cond.methodLinkNest "BookChecks$Book" (29 : Nat) ({ cls := "BookChecks", name := "isShip", desc := "(I)Z" } : MethodName) "BookChecks"), (Cond.methodLinkNest "BookChecks$Book" (33 : Nat) ({ cls := "BookChecks", name := "isDay", desc := "(I)Z" } : MethodName) "BookChecks"), (Cond.methodLinkNest "BookChecks$Book" (36 : Nat) ({ cls := "BookChecks", name := "isKind", desc := "(I)Z" } : MethodName) "BookChecks"), (Cond.methodLinkNest "BookChecks$Book" (39 : Nat) ({ cls := "BookChecks", name := "isWeighed", desc := "(J)Z" } : MethodName) "BookChecks"), (Cond.methodLinkNest "BookChecks$Plants" (34 : Nat) ({ cls := "BookChecks", name := "isKind", desc := "(I)Z" } : MethodName) "BookChecks"), (Cond.methodLinkNest "BookChecks$Plants" (41 : Nat) ({ cls := "BookChecks", name := "isWeighed", desc := "(J)Z" } : MethodName) "BookChecks"), (Cond.methodLinkNest "BookChecks$Risks" (18 : Nat) ({ cls := "BookChecks", name := "isShip", desc := "(I)Z" } : MethodName) "BookChecks"), (Cond.methodLinkNest "BookChecks$Acts" (21 : Nat) ({ cls := "BookChecks", name := "isShip", desc := "(I)Z" } : MethodName) "BookChecks")]
/-- the links across the nest, at a state -/
def nw (U : State) : Prop := ∀ w ∈ nests, va_Nw w U
theorem nw_same {u U : State} (h : u.vm = U.vm) (hZ : nw u) : nw U := fun w hw => va_Nw.same (by revert w; decide +kernel) h (hZ w hw)
theorem nw_warm {s U : State} (hW : s.WarmedH U.vm) (hZ : nw s) : nw U := fun w hw => by
  have h := hZ w hw
  simp only [nests, List.mem_cons, List.not_mem_nil, or_false] at hw
  rcases hw with rfl | rfl | rfl | rfl | rfl | rfl | rfl | rfl | rfl | rfl | rfl | rfl <;> exact va_Nw.warmM hW h
abbrev b_B_init : ByteArray := prog_1_method_1_code
def y_B_init : MethodName := ⟨"BookChecks", "<init>", "(J)V"⟩
abbrev b_B_page : ByteArray := prog_1_method_2_code
def y_B_page : MethodName := ⟨"BookChecks", "page", "(IIIJ)I"⟩
abbrev b_B_sale : ByteArray := prog_1_method_3_code
def y_B_sale : MethodName := ⟨"BookChecks", "sale", "(IIIJ)I"⟩
abbrev b_B_run : ByteArray := prog_1_method_4_code
def y_B_run : MethodName := ⟨"BookChecks", "run", "()I"⟩
abbrev b_B_pair : ByteArray := prog_1_method_5_code
def y_B_pair : MethodName := ⟨"BookChecks", "pair", "(I)I"⟩
abbrev b_B_points : ByteArray := prog_1_method_6_code
def y_B_points : MethodName := ⟨"BookChecks", "points", "(I)I"⟩
abbrev b_B_differs : ByteArray := prog_1_method_7_code
def y_B_differs : MethodName := ⟨"BookChecks", "differs", "(I)J"⟩
abbrev b_B_waits : ByteArray := prog_1_method_8_code
def y_B_waits : MethodName := ⟨"BookChecks", "waits", "(II)I"⟩
abbrev b_B_pageAt : ByteArray := prog_1_method_9_code
def y_B_pageAt : MethodName := ⟨"BookChecks", "pageAt", "(I)J"⟩
abbrev b_B_balance : ByteArray := prog_1_method_10_code
def y_B_balance : MethodName := ⟨"BookChecks", "balance", "(I)J"⟩
abbrev b_B_plant : ByteArray := prog_1_method_11_code
def y_B_plant : MethodName := ⟨"BookChecks", "plant", "(JI)I"⟩
abbrev b_B_out : ByteArray := prog_1_method_12_code
def y_B_out : MethodName := ⟨"BookChecks", "out", "(IIJ)I"⟩
abbrev b_B_lacks : ByteArray := prog_1_method_13_code
def y_B_lacks : MethodName := ⟨"BookChecks", "lacks", "(I)J"⟩
abbrev b_B_nowhere : ByteArray := prog_1_method_14_code
def y_B_nowhere : MethodName := ⟨"BookChecks", "nowhere", "(II)I"⟩
abbrev b_B_risk : ByteArray := prog_1_method_15_code
def y_B_risk : MethodName := ⟨"BookChecks", "risk", "(III)Z"⟩
abbrev b_B_draw : ByteArray := prog_1_method_16_code
def y_B_draw : MethodName := ⟨"BookChecks", "draw", "(I)I"⟩
abbrev b_B_drawn : ByteArray := prog_1_method_17_code
def y_B_drawn : MethodName := ⟨"BookChecks", "drawn", "(I)I"⟩
abbrev b_B_same : ByteArray := prog_1_method_18_code
def y_B_same : MethodName := ⟨"BookChecks", "same", "(J)Z"⟩
abbrev b_B_missed : ByteArray := prog_1_method_19_code
def y_B_missed : MethodName := ⟨"BookChecks", "missed", "(III)J"⟩
abbrev b_B_camera : ByteArray := prog_1_method_20_code
def y_B_camera : MethodName := ⟨"BookChecks", "camera", "(II)I"⟩
abbrev b_B_act : ByteArray := prog_1_method_21_code
def y_B_act : MethodName := ⟨"BookChecks", "act", "(III)I"⟩
abbrev b_B_state : ByteArray := prog_1_method_22_code
def y_B_state : MethodName := ⟨"BookChecks", "state", "(I)I"⟩
abbrev b_B_repeated : ByteArray := prog_1_method_23_code
def y_B_repeated : MethodName := ⟨"BookChecks", "repeated", "(I)I"⟩
abbrev b_B_isShip : ByteArray := prog_1_method_24_code
def y_B_isShip : MethodName := ⟨"BookChecks", "isShip", "(I)Z"⟩
abbrev b_B_isKind : ByteArray := prog_1_method_25_code
def y_B_isKind : MethodName := ⟨"BookChecks", "isKind", "(I)Z"⟩
abbrev b_B_isDay : ByteArray := prog_1_method_26_code
def y_B_isDay : MethodName := ⟨"BookChecks", "isDay", "(I)Z"⟩
abbrev b_B_isWeighed : ByteArray := prog_1_method_27_code
def y_B_isWeighed : MethodName := ⟨"BookChecks", "isWeighed", "(J)Z"⟩
abbrev b_B_bitAt : ByteArray := prog_1_method_28_code
def y_B_bitAt : MethodName := ⟨"BookChecks", "bitAt", "(II)I"⟩
abbrev b_B_choose : ByteArray := prog_1_method_29_code
def y_B_choose : MethodName := ⟨"BookChecks", "choose", "(II)J"⟩
abbrev b_B_commonDivisor : ByteArray := prog_1_method_30_code
def y_B_commonDivisor : MethodName := ⟨"BookChecks", "commonDivisor", "(JJ)J"⟩
abbrev b_Mo_init : ByteArray := prog_10_method_1_code
def y_Mo_init : MethodName := ⟨"BookChecksModel", "<init>", "(J)V"⟩
abbrev b_Mo_thrown : ByteArray := prog_10_method_2_code
def y_Mo_thrown : MethodName := ⟨"BookChecksModel", "thrown", "()I"⟩
abbrev b_Mo_within : ByteArray := prog_10_method_3_code
def y_Mo_within : MethodName := ⟨"BookChecksModel", "within", "(JJJ)Z"⟩
abbrev b_Mo_isTen : ByteArray := prog_10_method_4_code
def y_Mo_isTen : MethodName := ⟨"BookChecksModel", "isTen", "(I)Z"⟩
abbrev b_Mo_tell : ByteArray := prog_10_method_5_code
def y_Mo_tell : MethodName := ⟨"BookChecksModel", "tell", "(IIIIJ)I"⟩
abbrev b_Mo_page : ByteArray := prog_10_method_6_code
def y_Mo_page : MethodName := ⟨"BookChecksModel", "page", "(IIIJ)I"⟩
abbrev b_Mo_sale : ByteArray := prog_10_method_7_code
def y_Mo_sale : MethodName := ⟨"BookChecksModel", "sale", "(IIIJ)I"⟩
abbrev b_Mo_pointsOf : ByteArray := prog_10_method_8_code
def y_Mo_pointsOf : MethodName := ⟨"BookChecksModel", "pointsOf", "(II)I"⟩
abbrev b_Mo_run : ByteArray := prog_10_method_9_code
def y_Mo_run : MethodName := ⟨"BookChecksModel", "run", "()I"⟩
abbrev b_Mo_isPage : ByteArray := prog_10_method_10_code
def y_Mo_isPage : MethodName := ⟨"BookChecksModel", "isPage", "(I)Z"⟩
abbrev b_Mo_pair : ByteArray := prog_10_method_11_code
def y_Mo_pair : MethodName := ⟨"BookChecksModel", "pair", "(I)I"⟩
abbrev b_Mo_points : ByteArray := prog_10_method_12_code
def y_Mo_points : MethodName := ⟨"BookChecksModel", "points", "(I)I"⟩
abbrev b_Mo_differs : ByteArray := prog_10_method_13_code
def y_Mo_differs : MethodName := ⟨"BookChecksModel", "differs", "(I)J"⟩
abbrev b_Mo_waits : ByteArray := prog_10_method_14_code
def y_Mo_waits : MethodName := ⟨"BookChecksModel", "waits", "(II)I"⟩
abbrev b_Mo_pageAt : ByteArray := prog_10_method_15_code
def y_Mo_pageAt : MethodName := ⟨"BookChecksModel", "pageAt", "(I)J"⟩
abbrev b_Mo_balance : ByteArray := prog_10_method_16_code
def y_Mo_balance : MethodName := ⟨"BookChecksModel", "balance", "(I)J"⟩
abbrev b_Mo_plant : ByteArray := prog_10_method_17_code
def y_Mo_plant : MethodName := ⟨"BookChecksModel", "plant", "(JI)I"⟩
abbrev b_Mo_isPlant : ByteArray := prog_10_method_18_code
def y_Mo_isPlant : MethodName := ⟨"BookChecksModel", "isPlant", "(I)Z"⟩
abbrev b_Mo_out : ByteArray := prog_10_method_19_code
def y_Mo_out : MethodName := ⟨"BookChecksModel", "out", "(IIJ)I"⟩
abbrev b_Mo_ownIn : ByteArray := prog_10_method_20_code
def y_Mo_ownIn : MethodName := ⟨"BookChecksModel", "ownIn", "(II)J"⟩
abbrev b_Mo_lack : ByteArray := prog_10_method_21_code
def y_Mo_lack : MethodName := ⟨"BookChecksModel", "lack", "(I)J"⟩
abbrev b_Mo_lacks : ByteArray := prog_10_method_22_code
def y_Mo_lacks : MethodName := ⟨"BookChecksModel", "lacks", "(I)J"⟩
abbrev b_Mo_ones : ByteArray := prog_10_method_23_code
def y_Mo_ones : MethodName := ⟨"BookChecksModel", "ones", "(I)I"⟩
abbrev b_Mo_nowhere : ByteArray := prog_10_method_24_code
def y_Mo_nowhere : MethodName := ⟨"BookChecksModel", "nowhere", "(II)I"⟩
abbrev b_Mo_risk : ByteArray := prog_10_method_25_code
def y_Mo_risk : MethodName := ⟨"BookChecksModel", "risk", "(III)Z"⟩
abbrev b_Mo_tryDraw : ByteArray := prog_10_method_26_code
def y_Mo_tryDraw : MethodName := ⟨"BookChecksModel", "tryDraw", "(JI)V"⟩
abbrev b_Mo_draw : ByteArray := prog_10_method_27_code
def y_Mo_draw : MethodName := ⟨"BookChecksModel", "draw", "(I)I"⟩
abbrev b_Mo_drawn : ByteArray := prog_10_method_28_code
def y_Mo_drawn : MethodName := ⟨"BookChecksModel", "drawn", "(I)I"⟩
abbrev b_Mo_same : ByteArray := prog_10_method_29_code
def y_Mo_same : MethodName := ⟨"BookChecksModel", "same", "(J)Z"⟩
abbrev b_Mo_missed : ByteArray := prog_10_method_30_code
def y_Mo_missed : MethodName := ⟨"BookChecksModel", "missed", "(III)J"⟩
abbrev b_Mo_camera : ByteArray := prog_10_method_31_code
def y_Mo_camera : MethodName := ⟨"BookChecksModel", "camera", "(II)I"⟩
abbrev b_Mo_next : ByteArray := prog_10_method_32_code
def y_Mo_next : MethodName := ⟨"BookChecksModel", "next", "(II)I"⟩
abbrev b_Mo_act : ByteArray := prog_10_method_33_code
def y_Mo_act : MethodName := ⟨"BookChecksModel", "act", "(III)I"⟩
abbrev b_Mo_state : ByteArray := prog_10_method_34_code
def y_Mo_state : MethodName := ⟨"BookChecksModel", "state", "(I)I"⟩
abbrev b_Mo_repeated : ByteArray := prog_10_method_35_code
def y_Mo_repeated : MethodName := ⟨"BookChecksModel", "repeated", "(I)I"⟩
abbrev b_Ac_init : ByteArray := prog_2_method_1_code
def y_Ac_init : MethodName := ⟨"BookChecks$Acts", "<init>", "()V"⟩
abbrev b_Ac_tell : ByteArray := prog_2_method_2_code
def y_Ac_tell : MethodName := ⟨"BookChecks$Acts", "tell", "(III)I"⟩
abbrev b_Ac_after : ByteArray := prog_2_method_3_code
def y_Ac_after : MethodName := ⟨"BookChecks$Acts", "after", "(II)I"⟩
abbrev b_Bk_init : ByteArray := prog_3_method_1_code
def y_Bk_init : MethodName := ⟨"BookChecks$Book", "<init>", "()V"⟩
abbrev b_Bk_add : ByteArray := prog_3_method_2_code
def y_Bk_add : MethodName := ⟨"BookChecks$Book", "add", "(IIIJ)I"⟩
abbrev b_Bk_has : ByteArray := prog_3_method_3_code
def y_Bk_has : MethodName := ⟨"BookChecks$Book", "has", "(I)Z"⟩
abbrev b_Bk_gramsOf : ByteArray := prog_3_method_4_code
def y_Bk_gramsOf : MethodName := ⟨"BookChecks$Book", "gramsOf", "(I)J"⟩
abbrev b_Bk_gramsOfKind : ByteArray := prog_3_method_5_code
def y_Bk_gramsOfKind : MethodName := ⟨"BookChecks$Book", "gramsOfKind", "(I)J"⟩
abbrev b_Bk_fitWith : ByteArray := prog_3_method_6_code
def y_Bk_fitWith : MethodName := ⟨"BookChecks$Book", "fitWith", "(ILBookChecks$Book;I)I"⟩
abbrev b_Bk_lostByGrams : ByteArray := prog_3_method_7_code
def y_Bk_lostByGrams : MethodName := ⟨"BookChecks$Book", "lostByGrams", "(JJ)I"⟩
abbrev b_Jo_init : ByteArray := prog_4_method_1_code
def y_Jo_init : MethodName := ⟨"BookChecks$Joins", "<init>", "()V"⟩
abbrev b_Jo_partAll : ByteArray := prog_4_method_2_code
def y_Jo_partAll : MethodName := ⟨"BookChecks$Joins", "partAll", "()V"⟩
abbrev b_Jo_joinAnew : ByteArray := prog_4_method_3_code
def y_Jo_joinAnew : MethodName := ⟨"BookChecks$Joins", "joinAnew", "(LBookChecks$Book;LBookChecks$Book;)I"⟩
abbrev b_Jo_joinBest : ByteArray := prog_4_method_4_code
def y_Jo_joinBest : MethodName := ⟨"BookChecks$Joins", "joinBest", "(LBookChecks$Book;LBookChecks$Book;)Z"⟩
abbrev b_Jo_saleOf : ByteArray := prog_4_method_5_code
def y_Jo_saleOf : MethodName := ⟨"BookChecks$Joins", "saleOf", "(I)I"⟩
abbrev b_Jo_waiting : ByteArray := prog_4_method_6_code
def y_Jo_waiting : MethodName := ⟨"BookChecks$Joins", "waiting", "(LBookChecks$Book;II)I"⟩
abbrev b_Pl_init : ByteArray := prog_5_method_1_code
def y_Pl_init : MethodName := ⟨"BookChecks$Plants", "<init>", "()V"⟩
abbrev b_Pl_has : ByteArray := prog_5_method_2_code
def y_Pl_has : MethodName := ⟨"BookChecks$Plants", "has", "(I)Z"⟩
abbrev b_Pl_add : ByteArray := prog_5_method_3_code
def y_Pl_add : MethodName := ⟨"BookChecks$Plants", "add", "(JI)I"⟩
abbrev b_Pl_addOut : ByteArray := prog_5_method_4_code
def y_Pl_addOut : MethodName := ⟨"BookChecks$Plants", "addOut", "(IIJ)I"⟩
abbrev b_Pl_lackOf : ByteArray := prog_5_method_5_code
def y_Pl_lackOf : MethodName := ⟨"BookChecks$Plants", "lackOf", "(I)J"⟩
abbrev b_Pl_leastSet : ByteArray := prog_5_method_6_code
def y_Pl_leastSet : MethodName := ⟨"BookChecks$Plants", "leastSet", "(I)I"⟩
abbrev b_Pl_ownKind : ByteArray := prog_5_method_7_code
def y_Pl_ownKind : MethodName := ⟨"BookChecks$Plants", "ownKind", "(I)I"⟩
abbrev b_Pl_gramsOfSet : ByteArray := prog_5_method_8_code
def y_Pl_gramsOfSet : MethodName := ⟨"BookChecks$Plants", "gramsOfSet", "(II)J"⟩
abbrev b_Pl_isBefore : ByteArray := prog_5_method_9_code
def y_Pl_isBefore : MethodName := ⟨"BookChecks$Plants", "isBefore", "(II)Z"⟩
abbrev b_Ri_init : ByteArray := prog_6_method_1_code
def y_Ri_init : MethodName := ⟨"BookChecks$Risks", "<init>", "()V"⟩
abbrev b_Ri_set : ByteArray := prog_6_method_2_code
def y_Ri_set : MethodName := ⟨"BookChecks$Risks", "set", "(III)Z"⟩
abbrev b_Ri_take : ByteArray := prog_6_method_3_code
def y_Ri_take : MethodName := ⟨"BookChecks$Risks", "take", "(LBookChecks$Book;JILBookChecks$Row;)V"⟩
abbrev b_Ri_weighAll : ByteArray := prog_6_method_4_code
def y_Ri_weighAll : MethodName := ⟨"BookChecks$Risks", "weighAll", "(LBookChecks$Book;)I"⟩
abbrev b_Ri_pageOver : ByteArray := prog_6_method_5_code
def y_Ri_pageOver : MethodName := ⟨"BookChecks$Risks", "pageOver", "(II)I"⟩
abbrev b_Ro_init : ByteArray := prog_7_method_1_code
def y_Ro_init : MethodName := ⟨"BookChecks$Row", "<init>", "()V"⟩
abbrev b_Ro_begin : ByteArray := prog_7_method_2_code
def y_Ro_begin : MethodName := ⟨"BookChecks$Row", "begin", "(I)V"⟩
abbrev b_Ro_append : ByteArray := prog_7_method_3_code
def y_Ro_append : MethodName := ⟨"BookChecks$Row", "append", "(I)V"⟩
abbrev b_Ro_at : ByteArray := prog_7_method_4_code
def y_Ro_at : MethodName := ⟨"BookChecks$Row", "at", "(I)I"⟩
abbrev b_Ro_equalTo : ByteArray := prog_7_method_5_code
def y_Ro_equalTo : MethodName := ⟨"BookChecks$Row", "equalTo", "(LBookChecks$Row;)Z"⟩
abbrev b_Wa_init : ByteArray := prog_8_method_1_code
def y_Wa_init : MethodName := ⟨"BookChecks$Watch", "<init>", "()V"⟩
abbrev b_Wa_most : ByteArray := prog_8_method_2_code
def y_Wa_most : MethodName := ⟨"BookChecks$Watch", "most", "(LBookChecks$Book;II)I"⟩
abbrev b_Wa_sortMinutes : ByteArray := prog_8_method_3_code
def y_Wa_sortMinutes : MethodName := ⟨"BookChecks$Watch", "sortMinutes", "(LBookChecks$Book;I)I"⟩
abbrev b_Wa_insert : ByteArray := prog_8_method_4_code
def y_Wa_insert : MethodName := ⟨"BookChecks$Watch", "insert", "(IJ)V"⟩
abbrev b_Lw_cell : ByteArray := method_2_code
def y_Lw_cell : MethodName := ⟨"BookChecksLaw", "cell", "([II)I"⟩
abbrev b_Lw_pageAt : ByteArray := method_3_code
def y_Lw_pageAt : MethodName := ⟨"BookChecksLaw", "pageAt", "(LBookChecks;I[J)I"⟩
abbrev b_Lw_law : ByteArray := code
def y_Lw_law : MethodName := ⟨"BookChecksLaw", "law", "([I)Z"⟩
abbrev b_In_bitCount : ByteArray := prog_13_method_49_code
def y_In_bitCount : MethodName := ⟨"java/lang/Integer", "bitCount", "(I)I"⟩

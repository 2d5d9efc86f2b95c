section
-- ===== PART A: goes FIRST, ahead of the names: the tables' words, and 'selects' of the private methods out of them =====
/-- a private method of a class that the tables say can be made, by its rows of tables_1 -/
def lw_okq (q : MethodName × Nat) : Prop := (q.1.cls ≠ "java/lang/invoke/MethodHandle" ∧ q.1.cls ≠ "java/lang/invoke/VarHandle") ∧ Cond.instantiable q.1.cls q.2 ∈ tables_1 ∧ Cond.privateMethod q.1 ∈ tables_1 ∧ Cond.instanceMethod q.1 ∈ tables_1
theorem lw_p0 : lw_okq (⟨"BookChecks$Joins", "partAll", "()V"⟩, 2) := ⟨⟨by decide +kernel, by decide +kernel⟩, List.mem_of_getElem? (i := 57) (by decide +kernel), List.mem_of_getElem? (i := 63) (by decide +kernel), List.mem_of_getElem? (i := 64) (by decide +kernel)⟩
theorem lw_p1 : lw_okq (⟨"BookChecks$Joins", "joinBest", "(LBookChecks$Book;LBookChecks$Book;)Z"⟩, 2) := ⟨⟨by decide +kernel, by decide +kernel⟩, List.mem_of_getElem? (i := 57) (by decide +kernel), List.mem_of_getElem? (i := 223) (by decide +kernel), List.mem_of_getElem? (i := 224) (by decide +kernel)⟩
theorem lw_p2 : lw_okq (⟨"BookChecks$Plants", "ownKind", "(I)I"⟩, 6) := ⟨⟨by decide +kernel, by decide +kernel⟩, List.mem_of_getElem? (i := 74) (by decide +kernel), List.mem_of_getElem? (i := 318) (by decide +kernel), List.mem_of_getElem? (i := 319) (by decide +kernel)⟩
theorem lw_p3 : lw_okq (⟨"BookChecks$Plants", "gramsOfSet", "(II)J"⟩, 6) := ⟨⟨by decide +kernel, by decide +kernel⟩, List.mem_of_getElem? (i := 74) (by decide +kernel), List.mem_of_getElem? (i := 322) (by decide +kernel), List.mem_of_getElem? (i := 323) (by decide +kernel)⟩
theorem lw_p4 : lw_okq (⟨"BookChecks$Risks", "weighAll", "(LBookChecks$Book;)I"⟩, 2) := ⟨⟨by decide +kernel, by decide +kernel⟩, List.mem_of_getElem? (i := 99) (by decide +kernel), List.mem_of_getElem? (i := 370) (by decide +kernel), List.mem_of_getElem? (i := 371) (by decide +kernel)⟩
theorem lw_p5 : lw_okq (⟨"BookChecks$Risks", "pageOver", "(II)I"⟩, 2) := ⟨⟨by decide +kernel, by decide +kernel⟩, List.mem_of_getElem? (i := 99) (by decide +kernel), List.mem_of_getElem? (i := 376) (by decide +kernel), List.mem_of_getElem? (i := 377) (by decide +kernel)⟩
theorem lw_p6 : lw_okq (⟨"BookChecks$Watch", "sortMinutes", "(LBookChecks$Book;I)I"⟩, 1) := ⟨⟨by decide +kernel, by decide +kernel⟩, List.mem_of_getElem? (i := 130) (by decide +kernel), List.mem_of_getElem? (i := 418) (by decide +kernel), List.mem_of_getElem? (i := 419) (by decide +kernel)⟩
theorem lw_p7 : lw_okq (⟨"BookChecks$Watch", "insert", "(IJ)V"⟩, 1) := ⟨⟨by decide +kernel, by decide +kernel⟩, List.mem_of_getElem? (i := 130) (by decide +kernel), List.mem_of_getElem? (i := 424) (by decide +kernel), List.mem_of_getElem? (i := 425) (by decide +kernel)⟩
theorem lw_p8 : lw_okq (⟨"java/lang/Throwable", "fillInStackTrace", "(I)Ljava/lang/Throwable;"⟩, 6) := ⟨⟨by decide +kernel, by decide +kernel⟩, List.mem_of_getElem? (i := 497) (by decide +kernel), List.mem_of_getElem? (i := 495) (by decide +kernel), List.mem_of_getElem? (i := 496) (by decide +kernel)⟩
theorem lw_p9 : lw_okq (⟨"BookChecksModel", "tell", "(IIIIJ)I"⟩, 27) := ⟨⟨by decide +kernel, by decide +kernel⟩, List.mem_of_getElem? (i := 527) (by decide +kernel), List.mem_of_getElem? (i := 624) (by decide +kernel), List.mem_of_getElem? (i := 625) (by decide +kernel)⟩
theorem lw_p10 : lw_okq (⟨"BookChecksModel", "pointsOf", "(II)I"⟩, 27) := ⟨⟨by decide +kernel, by decide +kernel⟩, List.mem_of_getElem? (i := 527) (by decide +kernel), List.mem_of_getElem? (i := 644) (by decide +kernel), List.mem_of_getElem? (i := 645) (by decide +kernel)⟩
theorem lw_p11 : lw_okq (⟨"BookChecksModel", "isPage", "(I)Z"⟩, 27) := ⟨⟨by decide +kernel, by decide +kernel⟩, List.mem_of_getElem? (i := 527) (by decide +kernel), List.mem_of_getElem? (i := 653) (by decide +kernel), List.mem_of_getElem? (i := 654) (by decide +kernel)⟩
theorem lw_p12 : lw_okq (⟨"BookChecksModel", "isPlant", "(I)Z"⟩, 27) := ⟨⟨by decide +kernel, by decide +kernel⟩, List.mem_of_getElem? (i := 527) (by decide +kernel), List.mem_of_getElem? (i := 686) (by decide +kernel), List.mem_of_getElem? (i := 687) (by decide +kernel)⟩
theorem lw_p13 : lw_okq (⟨"BookChecksModel", "lack", "(I)J"⟩, 27) := ⟨⟨by decide +kernel, by decide +kernel⟩, List.mem_of_getElem? (i := 527) (by decide +kernel), List.mem_of_getElem? (i := 694) (by decide +kernel), List.mem_of_getElem? (i := 695) (by decide +kernel)⟩
theorem lw_p14 : lw_okq (⟨"BookChecksModel", "ownIn", "(II)J"⟩, 27) := ⟨⟨by decide +kernel, by decide +kernel⟩, List.mem_of_getElem? (i := 527) (by decide +kernel), List.mem_of_getElem? (i := 698) (by decide +kernel), List.mem_of_getElem? (i := 699) (by decide +kernel)⟩
theorem lw_p15 : lw_okq (⟨"BookChecksModel", "tryDraw", "(JI)V"⟩, 27) := ⟨⟨by decide +kernel, by decide +kernel⟩, List.mem_of_getElem? (i := 527) (by decide +kernel), List.mem_of_getElem? (i := 718) (by decide +kernel), List.mem_of_getElem? (i := 719) (by decide +kernel)⟩
def lw_privs_1 : List (MethodName × Nat) := [(⟨"BookChecks$Joins", "partAll", "()V"⟩, 2), (⟨"BookChecks$Joins", "joinBest", "(LBookChecks$Book;LBookChecks$Book;)Z"⟩, 2), (⟨"BookChecks$Plants", "ownKind", "(I)I"⟩, 6), (⟨"BookChecks$Plants", "gramsOfSet", "(II)J"⟩, 6), (⟨"BookChecks$Risks", "weighAll", "(LBookChecks$Book;)I"⟩, 2), (⟨"BookChecks$Risks", "pageOver", "(II)I"⟩, 2), (⟨"BookChecks$Watch", "sortMinutes", "(LBookChecks$Book;I)I"⟩, 1), (⟨"BookChecks$Watch", "insert", "(IJ)V"⟩, 1), (⟨"java/lang/Throwable", "fillInStackTrace", "(I)Ljava/lang/Throwable;"⟩, 6), (⟨"BookChecksModel", "tell", "(IIIIJ)I"⟩, 27), (⟨"BookChecksModel", "pointsOf", "(II)I"⟩, 27), (⟨"BookChecksModel", "isPage", "(I)Z"⟩, 27), (⟨"BookChecksModel", "isPlant", "(I)Z"⟩, 27), (⟨"BookChecksModel", "lack", "(I)J"⟩, 27), (⟨"BookChecksModel", "ownIn", "(II)J"⟩, 27), (⟨"BookChecksModel", "tryDraw", "(JI)V"⟩, 27)]
theorem lw_r1 : ∀ q ∈ lw_privs_1, lw_okq q := List.forall_mem_cons.mpr ⟨lw_p0, List.forall_mem_cons.mpr ⟨lw_p1, List.forall_mem_cons.mpr ⟨lw_p2, List.forall_mem_cons.mpr ⟨lw_p3, List.forall_mem_cons.mpr ⟨lw_p4, List.forall_mem_cons.mpr ⟨lw_p5, List.forall_mem_cons.mpr ⟨lw_p6, List.forall_mem_cons.mpr ⟨lw_p7, List.forall_mem_cons.mpr ⟨lw_p8, List.forall_mem_cons.mpr ⟨lw_p9, List.forall_mem_cons.mpr ⟨lw_p10, List.forall_mem_cons.mpr ⟨lw_p11, List.forall_mem_cons.mpr ⟨lw_p12, List.forall_mem_cons.mpr ⟨lw_p13, List.forall_mem_cons.mpr ⟨lw_p14, List.forall_mem_cons.mpr ⟨lw_p15, fun _ h => absurd h List.not_mem_nil⟩⟩⟩⟩⟩⟩⟩⟩⟩⟩⟩⟩⟩⟩⟩⟩
def lw_privs : List (MethodName × Nat) := lw_privs_1
def lw_tbl : List Cond := k2_sels lw_privs ++ tables_1
theorem lw_privs_ok : ∀ q ∈ lw_privs, lw_okq q := lw_r1
-- ===== end of PART A
end
section
def R_B : String := "BookChecks"
def F_B : u_T := fun k => match k with
  | 0 => ("BookChecks", "seed", "J", true)
  | 1 => ("BookChecks", "pages", "LBookChecks$Book;", true)
  | 2 => ("BookChecks", "sales", "LBookChecks$Book;", true)
  | 3 => ("BookChecks", "joins", "LBookChecks$Joins;", true)
  | 4 => ("BookChecks", "plants", "LBookChecks$Plants;", true)
  | 5 => ("BookChecks", "risks", "LBookChecks$Risks;", true)
  | 6 => ("BookChecks", "latest", "LBookChecks$Row;", true)
  | 7 => ("BookChecks", "trial", "LBookChecks$Row;", true)
  | 8 => ("BookChecks", "watch", "LBookChecks$Watch;", true)
  | _ => ("BookChecks", "acts", "LBookChecks$Acts;", true)
def t_B : Nat → FieldType := fun k => match k with
  | 0 => .long
  | 1 => (.object "BookChecks$Book")
  | 2 => (.object "BookChecks$Book")
  | 3 => (.object "BookChecks$Joins")
  | 4 => (.object "BookChecks$Plants")
  | 5 => (.object "BookChecks$Risks")
  | 6 => (.object "BookChecks$Row")
  | 7 => (.object "BookChecks$Row")
  | 8 => (.object "BookChecks$Watch")
  | _ => (.object "BookChecks$Acts")
def R_Bk : String := "BookChecks$Book"
def F_Bk : u_T := fun k => match k with
  | 0 => ("BookChecks$Book", "ships", "[I", true)
  | 1 => ("BookChecks$Book", "days", "[I", true)
  | 2 => ("BookChecks$Book", "kinds", "[I", true)
  | 3 => ("BookChecks$Book", "grams", "[J", true)
  | _ => ("BookChecks$Book", "size", "I", false)
def t_Bk : Nat → FieldType := fun k => match k with
  | 0 => (.array .int)
  | 1 => (.array .int)
  | 2 => (.array .int)
  | 3 => (.array .long)
  | _ => .int
def R_Jo : String := "BookChecks$Joins"
def F_Jo : u_T := fun k => match k with
  | 0 => ("BookChecks$Joins", "saleOfPage", "[I", true)
  | _ => ("BookChecks$Joins", "pageOfSale", "[I", true)
def t_Jo : Nat → FieldType := fun k => match k with
  | 0 => (.array .int)
  | _ => (.array .int)
def R_Pl : String := "BookChecks$Plants"
def F_Pl : u_T := fun k => match k with
  | 0 => ("BookChecks$Plants", "cameIn", "[J", true)
  | 1 => ("BookChecks$Plants", "kinds", "[I", true)
  | 2 => ("BookChecks$Plants", "outs", "[I", true)
  | 3 => ("BookChecks$Plants", "outKinds", "[I", true)
  | 4 => ("BookChecks$Plants", "outGrams", "[J", true)
  | _ => ("BookChecks$Plants", "size", "I", false)
def t_Pl : Nat → FieldType := fun k => match k with
  | 0 => (.array .long)
  | 1 => (.array .int)
  | 2 => (.array .int)
  | 3 => (.array .int)
  | 4 => (.array .long)
  | _ => .int
def R_Ri : String := "BookChecks$Risks"
def F_Ri : u_T := fun k => match k with
  | 0 => ("BookChecks$Risks", "weightOfShip", "[I", true)
  | _ => ("BookChecks$Risks", "weightLeft", "[I", true)
def t_Ri : Nat → FieldType := fun k => match k with
  | 0 => (.array .int)
  | _ => (.array .int)
def R_Ro : String := "BookChecks$Row"
def F_Ro : u_T := fun k => match k with
  | 0 => ("BookChecks$Row", "taken", "[I", true)
  | 1 => ("BookChecks$Row", "size", "I", false)
  | _ => ("BookChecks$Row", "asked", "I", false)
def t_Ro : Nat → FieldType := fun k => match k with
  | 0 => (.array .int)
  | 1 => .int
  | _ => .int
def R_Wa : String := "BookChecks$Watch"
def F_Wa : u_T := fun k => match k with
  | _ => ("BookChecks$Watch", "minutesOf", "[J", true)
def t_Wa : Nat → FieldType := fun k => match k with
  | _ => (.array .long)
def R_Ac : String := "BookChecks$Acts"
def F_Ac : u_T := fun k => match k with
  | 0 => ("BookChecks$Acts", "states", "[I", true)
  | 1 => ("BookChecks$Acts", "wrongs", "[I", true)
  | _ => ("BookChecks$Acts", "latestPersons", "[I", true)
def t_Ac : Nat → FieldType := fun k => match k with
  | 0 => (.array .int)
  | 1 => (.array .int)
  | _ => (.array .int)
def R_Mo : String := "BookChecksModel"
def F_Mo : u_T := fun k => match k with
  | 0 => ("BookChecksModel", "code", "I", false)
  | 1 => ("BookChecksModel", "seed", "J", true)
  | 2 => ("BookChecksModel", "counts", "[I", true)
  | 3 => ("BookChecksModel", "ships", "[I", true)
  | 4 => ("BookChecksModel", "days", "[I", true)
  | 5 => ("BookChecksModel", "kinds", "[I", true)
  | 6 => ("BookChecksModel", "grams", "[J", true)
  | 7 => ("BookChecksModel", "saleOf", "[I", true)
  | 8 => ("BookChecksModel", "sold", "[Z", true)
  | 9 => ("BookChecksModel", "plants", "I", false)
  | 10 => ("BookChecksModel", "ins", "[J", true)
  | 11 => ("BookChecksModel", "plantKinds", "[I", true)
  | 12 => ("BookChecksModel", "outs", "[I", true)
  | 13 => ("BookChecksModel", "outKinds", "[I", true)
  | 14 => ("BookChecksModel", "outGrams", "[J", true)
  | 15 => ("BookChecksModel", "weights", "[I", true)
  | 16 => ("BookChecksModel", "asked", "I", false)
  | 17 => ("BookChecksModel", "drawnCount", "I", false)
  | 18 => ("BookChecksModel", "drawn", "[I", true)
  | 19 => ("BookChecksModel", "triedCount", "I", false)
  | 20 => ("BookChecksModel", "tried", "[I", true)
  | 21 => ("BookChecksModel", "gone", "[Z", true)
  | 22 => ("BookChecksModel", "choices", "[J", true)
  | 23 => ("BookChecksModel", "watched", "[Z", true)
  | 24 => ("BookChecksModel", "states", "[I", true)
  | 25 => ("BookChecksModel", "persons", "[I", true)
  | _ => ("BookChecksModel", "wrongs", "[I", true)
def t_Mo : Nat → FieldType := fun k => match k with
  | 0 => .int
  | 1 => .long
  | 2 => (.array .int)
  | 3 => (.array .int)
  | 4 => (.array .int)
  | 5 => (.array .int)
  | 6 => (.array .long)
  | 7 => (.array .int)
  | 8 => (.array .boolean)
  | 9 => .int
  | 10 => (.array .long)
  | 11 => (.array .int)
  | 12 => (.array .int)
  | 13 => (.array .int)
  | 14 => (.array .long)
  | 15 => (.array .int)
  | 16 => .int
  | 17 => .int
  | 18 => (.array .int)
  | 19 => .int
  | 20 => (.array .int)
  | 21 => (.array .boolean)
  | 22 => (.array .long)
  | 23 => (.array .boolean)
  | 24 => (.array .int)
  | 25 => (.array .int)
  | _ => (.array .int)
def R_Lw : String := "BookChecksLaw"
def R_In : String := "java/lang/Integer"
abbrev vwCl : List vw_C := [(R_B, F_B, 10), (R_Bk, F_Bk, 5), (R_Jo, F_Jo, 2), (R_Pl, F_Pl, 6), (R_Ri, F_Ri, 2), (R_Ro, F_Ro, 3), (R_Wa, F_Wa, 1), (R_Ac, F_Ac, 3), (R_Mo, F_Mo, 27)]
/-- the words that every method goes by: those of the tables that stay -/
def gW : List Cond := lw_tbl.filter goodWord
theorem gW_in {w : Cond} (h : w ∈ tables_1) (hg : goodWord w = true) : w ∈ gW := List.mem_filter.mpr ⟨List.mem_append_right _ h, hg⟩
theorem gW_sel {w : Cond} (h : w ∈ k2_sels lw_privs) (hg : goodWord w = true) : w ∈ gW := List.mem_filter.mpr ⟨List.mem_append_left _ h, hg⟩
theorem in1 {w : Cond} (h : w ∈ tables_1_1) : w ∈ tables_1 := List.mem_append_left _ h
theorem in2 {w : Cond} (h : w ∈ tables_1_2) : w ∈ tables_1 := List.mem_append_right _ (List.mem_append_left _ h)
theorem in3 {w : Cond} (h : w ∈ tables_1_3) : w ∈ tables_1 := List.mem_append_right _ (List.mem_append_right _ (List.mem_append_left _ h))
theorem in4 {w : Cond} (h : w ∈ tables_1_4) : w ∈ tables_1 := List.mem_append_right _ (List.mem_append_right _ (List.mem_append_right _ h))
theorem gW_good {w : Cond} (h : w ∈ gW) : (w.onTables && w.keeps) = true ∨ ∃ ty, w = .arrayClass ty := good_of_word (List.mem_filter.mp h).2
theorem gd {c : Cond} (h : c ∈ gW) : GoodIn gW (c :: gW) := fun w hw => by
  rcases List.mem_cons.mp hw with rfl | hw
  · exact ⟨h, gW_good h⟩
  · exact ⟨hw, gW_good hw⟩
theorem gdV {own C : String} {ix : Nat} {y : MethodName} {c : Cond} (h1 : Cond.methodLink own ix y ∈ gW) (h2 : Cond.instanceMethod y ∈ gW) (h3 : Cond.selects C y y ∈ gW) (h4 : Cond.initialized C ∈ gW) (h : c ∈ gW) : GoodIn gW (wsV own ix C y (c :: gW)) := fun w hw => by
  unfold wsV at hw
  rcases List.mem_append.mp hw with hw | hw
  · have : w ∈ gW := by
      simp only [List.mem_cons, List.not_mem_nil, or_false] at hw
      rcases hw with rfl | rfl | rfl | rfl <;> assumption
    exact ⟨this, gW_good this⟩
  · exact gd h w hw
theorem gdS {own : String} {ix : Nat} {y : MethodName} {c : Cond} (h1 : Cond.methodLink own ix y ∈ gW) (h2 : Cond.static y ∈ gW) (h4 : Cond.initialized y.cls ∈ gW) (h : c ∈ gW) : GoodIn gW (va_wsS own ix y (c :: gW)) := fun w hw => by
  unfold va_wsS at hw
  rcases List.mem_append.mp hw with hw | hw
  · have : w ∈ gW := by
      simp only [List.mem_cons, List.not_mem_nil, or_false] at hw
      rcases hw with rfl | rfl | rfl <;> assumption
    exact ⟨this, gW_good this⟩
  · exact gd h w hw
def nests : List Cond := [(Cond.methodLinkNest "BookChecks" (15 : Nat) ({ cls := "BookChecks$Book", name := "<init>", desc := "()V" } : MethodName) "BookChecks"), (Cond.methodLinkNest "BookChecks" (32 : Nat) ({ cls := "BookChecks$Plants", name := "<init>", desc := "()V" } : MethodName) "BookChecks"), (Cond.methodLinkNest "BookChecks" (46 : Nat) ({ cls := "BookChecks$Row", name := "<init>", desc := "()V" } : MethodName) "BookChecks"), (Cond.methodLinkNest "BookChecks" (56 : Nat) ({ cls := "BookChecks$Watch", name := "<init>", desc := "()V" } : MethodName) "BookChecks"), (Cond.methodLinkNest "BookChecks$Book" (29 : Nat) ({ cls := "BookChecks", name := "isShip", desc := "(I)Z" } : MethodName) "BookChecks"), (Cond.methodLinkNest "BookChecks$Book" (33 : Nat) ({ cls := "BookChecks", name := "isDay", desc := "(I)Z" } : MethodName) "BookChecks"), (Cond.methodLinkNest "BookChecks$Book" (36 : Nat) ({ cls := "BookChecks", name := "isKind", desc := "(I)Z" } : MethodName) "BookChecks"), (Cond.methodLinkNest "BookChecks$Book" (39 : Nat) ({ cls := "BookChecks", name := "isWeighed", desc := "(J)Z" } : MethodName) "BookChecks"), (Cond.methodLinkNest "BookChecks$Plants" (34 : Nat) ({ cls := "BookChecks", name := "isKind", desc := "(I)Z" } : MethodName) "BookChecks"), (Cond.methodLinkNest "BookChecks$Plants" (41 : Nat) ({ cls := "BookChecks", name := "isWeighed", desc := "(J)Z" } : MethodName) "BookChecks"), (Cond.methodLinkNest "BookChecks$Risks" (18 : Nat) ({ cls := "BookChecks", name := "isShip", desc := "(I)Z" } : MethodName) "BookChecks"), (Cond.methodLinkNest "BookChecks$Acts" (21 : Nat) ({ cls := "BookChecks", name := "isShip", desc := "(I)Z" } : MethodName) "BookChecks")]
/-- the links across the nest, at a state -/
def nw (U : State) : Prop := ∀ w ∈ nests, va_Nw w U
theorem nw_same {u U : State} (h : u.vm = U.vm) (hZ : nw u) : nw U := fun w hw => va_Nw.same (by revert w; decide +kernel) h (hZ w hw)
theorem nw_warm {s U : State} (hW : s.WarmedH U.vm) (hZ : nw s) : nw U := fun w hw => by
  have h := hZ w hw
  simp only [nests, List.mem_cons, List.not_mem_nil, or_false] at hw
  rcases hw with rfl | rfl | rfl | rfl | rfl | rfl | rfl | rfl | rfl | rfl | rfl | rfl <;> exact va_Nw.warmM hW h
abbrev b_B_init : ByteArray := prog_1_method_1_code
def y_B_init : MethodName := ⟨"BookChecks", "<init>", "(J)V"⟩
abbrev b_B_page : ByteArray := prog_1_method_2_code
def y_B_page : MethodName := ⟨"BookChecks", "page", "(IIIJ)I"⟩
abbrev b_B_sale : ByteArray := prog_1_method_3_code
def y_B_sale : MethodName := ⟨"BookChecks", "sale", "(IIIJ)I"⟩
abbrev b_B_run : ByteArray := prog_1_method_4_code
def y_B_run : MethodName := ⟨"BookChecks", "run", "()I"⟩
abbrev b_B_pair : ByteArray := prog_1_method_5_code
def y_B_pair : MethodName := ⟨"BookChecks", "pair", "(I)I"⟩
abbrev b_B_points : ByteArray := prog_1_method_6_code
def y_B_points : MethodName := ⟨"BookChecks", "points", "(I)I"⟩
abbrev b_B_differs : ByteArray := prog_1_method_7_code
def y_B_differs : MethodName := ⟨"BookChecks", "differs", "(I)J"⟩
abbrev b_B_waits : ByteArray := prog_1_method_8_code
def y_B_waits : MethodName := ⟨"BookChecks", "waits", "(II)I"⟩
abbrev b_B_pageAt : ByteArray := prog_1_method_9_code
def y_B_pageAt : MethodName := ⟨"BookChecks", "pageAt", "(I)J"⟩
abbrev b_B_balance : ByteArray := prog_1_method_10_code
def y_B_balance : MethodName := ⟨"BookChecks", "balance", "(I)J"⟩
abbrev b_B_plant : ByteArray := prog_1_method_11_code
def y_B_plant : MethodName := ⟨"BookChecks", "plant", "(JI)I"⟩
abbrev b_B_out : ByteArray := prog_1_method_12_code
def y_B_out : MethodName := ⟨"BookChecks", "out", "(IIJ)I"⟩
abbrev b_B_lacks : ByteArray := prog_1_method_13_code
def y_B_lacks : MethodName := ⟨"BookChecks", "lacks", "(I)J"⟩
abbrev b_B_nowhere : ByteArray := prog_1_method_14_code
def y_B_nowhere : MethodName := ⟨"BookChecks", "nowhere", "(II)I"⟩
abbrev b_B_risk : ByteArray := prog_1_method_15_code
def y_B_risk : MethodName := ⟨"BookChecks", "risk", "(III)Z"⟩
abbrev b_B_draw : ByteArray := prog_1_method_16_code
def y_B_draw : MethodName := ⟨"BookChecks", "draw", "(I)I"⟩
abbrev b_B_drawn : ByteArray := prog_1_method_17_code
def y_B_drawn : MethodName := ⟨"BookChecks", "drawn", "(I)I"⟩
abbrev b_B_same : ByteArray := prog_1_method_18_code
def y_B_same : MethodName := ⟨"BookChecks", "same", "(J)Z"⟩
abbrev b_B_missed : ByteArray := prog_1_method_19_code
def y_B_missed : MethodName := ⟨"BookChecks", "missed", "(III)J"⟩
abbrev b_B_camera : ByteArray := prog_1_method_20_code
def y_B_camera : MethodName := ⟨"BookChecks", "camera", "(II)I"⟩
abbrev b_B_act : ByteArray := prog_1_method_21_code
def y_B_act : MethodName := ⟨"BookChecks", "act", "(III)I"⟩
abbrev b_B_state : ByteArray := prog_1_method_22_code
def y_B_state : MethodName := ⟨"BookChecks", "state", "(I)I"⟩
abbrev b_B_repeated : ByteArray := prog_1_method_23_code
def y_B_repeated : MethodName := ⟨"BookChecks", "repeated", "(I)I"⟩
abbrev b_B_isShip : ByteArray := prog_1_method_24_code
def y_B_isShip : MethodName := ⟨"BookChecks", "isShip", "(I)Z"⟩
abbrev b_B_isKind : ByteArray := prog_1_method_25_code
def y_B_isKind : MethodName := ⟨"BookChecks", "isKind", "(I)Z"⟩
abbrev b_B_isDay : ByteArray := prog_1_method_26_code
def y_B_isDay : MethodName := ⟨"BookChecks", "isDay", "(I)Z"⟩
abbrev b_B_isWeighed : ByteArray := prog_1_method_27_code
def y_B_isWeighed : MethodName := ⟨"BookChecks", "isWeighed", "(J)Z"⟩
abbrev b_B_bitAt : ByteArray := prog_1_method_28_code
def y_B_bitAt : MethodName := ⟨"BookChecks", "bitAt", "(II)I"⟩
abbrev b_B_choose : ByteArray := prog_1_method_29_code
def y_B_choose : MethodName := ⟨"BookChecks", "choose", "(II)J"⟩
abbrev b_B_commonDivisor : ByteArray := prog_1_method_30_code
def y_B_commonDivisor : MethodName := ⟨"BookChecks", "commonDivisor", "(JJ)J"⟩
abbrev b_Mo_init : ByteArray := prog_10_method_1_code
def y_Mo_init : MethodName := ⟨"BookChecksModel", "<init>", "(J)V"⟩
abbrev b_Mo_thrown : ByteArray := prog_10_method_2_code
def y_Mo_thrown : MethodName := ⟨"BookChecksModel", "thrown", "()I"⟩
abbrev b_Mo_within : ByteArray := prog_10_method_3_code
def y_Mo_within : MethodName := ⟨"BookChecksModel", "within", "(JJJ)Z"⟩
abbrev b_Mo_isTen : ByteArray := prog_10_method_4_code
def y_Mo_isTen : MethodName := ⟨"BookChecksModel", "isTen", "(I)Z"⟩
abbrev b_Mo_tell : ByteArray := prog_10_method_5_code
def y_Mo_tell : MethodName := ⟨"BookChecksModel", "tell", "(IIIIJ)I"⟩
abbrev b_Mo_page : ByteArray := prog_10_method_6_code
def y_Mo_page : MethodName := ⟨"BookChecksModel", "page", "(IIIJ)I"⟩
abbrev b_Mo_sale : ByteArray := prog_10_method_7_code
def y_Mo_sale : MethodName := ⟨"BookChecksModel", "sale", "(IIIJ)I"⟩
abbrev b_Mo_pointsOf : ByteArray := prog_10_method_8_code
def y_Mo_pointsOf : MethodName := ⟨"BookChecksModel", "pointsOf", "(II)I"⟩
abbrev b_Mo_run : ByteArray := prog_10_method_9_code
def y_Mo_run : MethodName := ⟨"BookChecksModel", "run", "()I"⟩
abbrev b_Mo_isPage : ByteArray := prog_10_method_10_code
def y_Mo_isPage : MethodName := ⟨"BookChecksModel", "isPage", "(I)Z"⟩
abbrev b_Mo_pair : ByteArray := prog_10_method_11_code
def y_Mo_pair : MethodName := ⟨"BookChecksModel", "pair", "(I)I"⟩
abbrev b_Mo_points : ByteArray := prog_10_method_12_code
def y_Mo_points : MethodName := ⟨"BookChecksModel", "points", "(I)I"⟩
abbrev b_Mo_differs : ByteArray := prog_10_method_13_code
def y_Mo_differs : MethodName := ⟨"BookChecksModel", "differs", "(I)J"⟩
abbrev b_Mo_waits : ByteArray := prog_10_method_14_code
def y_Mo_waits : MethodName := ⟨"BookChecksModel", "waits", "(II)I"⟩
abbrev b_Mo_pageAt : ByteArray := prog_10_method_15_code
def y_Mo_pageAt : MethodName := ⟨"BookChecksModel", "pageAt", "(I)J"⟩
abbrev b_Mo_balance : ByteArray := prog_10_method_16_code
def y_Mo_balance : MethodName := ⟨"BookChecksModel", "balance", "(I)J"⟩
abbrev b_Mo_plant : ByteArray := prog_10_method_17_code
def y_Mo_plant : MethodName := ⟨"BookChecksModel", "plant", "(JI)I"⟩
abbrev b_Mo_isPlant : ByteArray := prog_10_method_18_code
def y_Mo_isPlant : MethodName := ⟨"BookChecksModel", "isPlant", "(I)Z"⟩
abbrev b_Mo_out : ByteArray := prog_10_method_19_code
def y_Mo_out : MethodName := ⟨"BookChecksModel", "out", "(IIJ)I"⟩
abbrev b_Mo_ownIn : ByteArray := prog_10_method_20_code
def y_Mo_ownIn : MethodName := ⟨"BookChecksModel", "ownIn", "(II)J"⟩
abbrev b_Mo_lack : ByteArray := prog_10_method_21_code
def y_Mo_lack : MethodName := ⟨"BookChecksModel", "lack", "(I)J"⟩
abbrev b_Mo_lacks : ByteArray := prog_10_method_22_code
def y_Mo_lacks : MethodName := ⟨"BookChecksModel", "lacks", "(I)J"⟩
abbrev b_Mo_ones : ByteArray := prog_10_method_23_code
def y_Mo_ones : MethodName := ⟨"BookChecksModel", "ones", "(I)I"⟩
abbrev b_Mo_nowhere : ByteArray := prog_10_method_24_code
def y_Mo_nowhere : MethodName := ⟨"BookChecksModel", "nowhere", "(II)I"⟩
abbrev b_Mo_risk : ByteArray := prog_10_method_25_code
def y_Mo_risk : MethodName := ⟨"BookChecksModel", "risk", "(III)Z"⟩
abbrev b_Mo_tryDraw : ByteArray := prog_10_method_26_code
def y_Mo_tryDraw : MethodName := ⟨"BookChecksModel", "tryDraw", "(JI)V"⟩
abbrev b_Mo_draw : ByteArray := prog_10_method_27_code
def y_Mo_draw : MethodName := ⟨"BookChecksModel", "draw", "(I)I"⟩
abbrev b_Mo_drawn : ByteArray := prog_10_method_28_code
def y_Mo_drawn : MethodName := ⟨"BookChecksModel", "drawn", "(I)I"⟩
abbrev b_Mo_same : ByteArray := prog_10_method_29_code
def y_Mo_same : MethodName := ⟨"BookChecksModel", "same", "(J)Z"⟩
abbrev b_Mo_missed : ByteArray := prog_10_method_30_code
def y_Mo_missed : MethodName := ⟨"BookChecksModel", "missed", "(III)J"⟩
abbrev b_Mo_camera : ByteArray := prog_10_method_31_code
def y_Mo_camera : MethodName := ⟨"BookChecksModel", "camera", "(II)I"⟩
abbrev b_Mo_next : ByteArray := prog_10_method_32_code
def y_Mo_next : MethodName := ⟨"BookChecksModel", "next", "(II)I"⟩
abbrev b_Mo_act : ByteArray := prog_10_method_33_code
def y_Mo_act : MethodName := ⟨"BookChecksModel", "act", "(III)I"⟩
abbrev b_Mo_state : ByteArray := prog_10_method_34_code
def y_Mo_state : MethodName := ⟨"BookChecksModel", "state", "(I)I"⟩
abbrev b_Mo_repeated : ByteArray := prog_10_method_35_code
def y_Mo_repeated : MethodName := ⟨"BookChecksModel", "repeated", "(I)I"⟩
abbrev b_Ac_init : ByteArray := prog_2_method_1_code
def y_Ac_init : MethodName := ⟨"BookChecks$Acts", "<init>", "()V"⟩
abbrev b_Ac_tell : ByteArray := prog_2_method_2_code
def y_Ac_tell : MethodName := ⟨"BookChecks$Acts", "tell", "(III)I"⟩
abbrev b_Ac_after : ByteArray := prog_2_method_3_code
def y_Ac_after : MethodName := ⟨"BookChecks$Acts", "after", "(II)I"⟩
abbrev b_Bk_init : ByteArray := prog_3_method_1_code
def y_Bk_init : MethodName := ⟨"BookChecks$Book", "<init>", "()V"⟩
abbrev b_Bk_add : ByteArray := prog_3_method_2_code
def y_Bk_add : MethodName := ⟨"BookChecks$Book", "add", "(IIIJ)I"⟩
abbrev b_Bk_has : ByteArray := prog_3_method_3_code
def y_Bk_has : MethodName := ⟨"BookChecks$Book", "has", "(I)Z"⟩
abbrev b_Bk_gramsOf : ByteArray := prog_3_method_4_code
def y_Bk_gramsOf : MethodName := ⟨"BookChecks$Book", "gramsOf", "(I)J"⟩
abbrev b_Bk_gramsOfKind : ByteArray := prog_3_method_5_code
def y_Bk_gramsOfKind : MethodName := ⟨"BookChecks$Book", "gramsOfKind", "(I)J"⟩
abbrev b_Bk_fitWith : ByteArray := prog_3_method_6_code
def y_Bk_fitWith : MethodName := ⟨"BookChecks$Book", "fitWith", "(ILBookChecks$Book;I)I"⟩
abbrev b_Bk_lostByGrams : ByteArray := prog_3_method_7_code
def y_Bk_lostByGrams : MethodName := ⟨"BookChecks$Book", "lostByGrams", "(JJ)I"⟩
abbrev b_Jo_init : ByteArray := prog_4_method_1_code
def y_Jo_init : MethodName := ⟨"BookChecks$Joins", "<init>", "()V"⟩
abbrev b_Jo_partAll : ByteArray := prog_4_method_2_code
def y_Jo_partAll : MethodName := ⟨"BookChecks$Joins", "partAll", "()V"⟩
abbrev b_Jo_joinAnew : ByteArray := prog_4_method_3_code
def y_Jo_joinAnew : MethodName := ⟨"BookChecks$Joins", "joinAnew", "(LBookChecks$Book;LBookChecks$Book;)I"⟩
abbrev b_Jo_joinBest : ByteArray := prog_4_method_4_code
def y_Jo_joinBest : MethodName := ⟨"BookChecks$Joins", "joinBest", "(LBookChecks$Book;LBookChecks$Book;)Z"⟩
abbrev b_Jo_saleOf : ByteArray := prog_4_method_5_code
def y_Jo_saleOf : MethodName := ⟨"BookChecks$Joins", "saleOf", "(I)I"⟩
abbrev b_Jo_waiting : ByteArray := prog_4_method_6_code
def y_Jo_waiting : MethodName := ⟨"BookChecks$Joins", "waiting", "(LBookChecks$Book;II)I"⟩
abbrev b_Pl_init : ByteArray := prog_5_method_1_code
def y_Pl_init : MethodName := ⟨"BookChecks$Plants", "<init>", "()V"⟩
abbrev b_Pl_has : ByteArray := prog_5_method_2_code
def y_Pl_has : MethodName := ⟨"BookChecks$Plants", "has", "(I)Z"⟩
abbrev b_Pl_add : ByteArray := prog_5_method_3_code
def y_Pl_add : MethodName := ⟨"BookChecks$Plants", "add", "(JI)I"⟩
abbrev b_Pl_addOut : ByteArray := prog_5_method_4_code
def y_Pl_addOut : MethodName := ⟨"BookChecks$Plants", "addOut", "(IIJ)I"⟩
abbrev b_Pl_lackOf : ByteArray := prog_5_method_5_code
def y_Pl_lackOf : MethodName := ⟨"BookChecks$Plants", "lackOf", "(I)J"⟩
abbrev b_Pl_leastSet : ByteArray := prog_5_method_6_code
def y_Pl_leastSet : MethodName := ⟨"BookChecks$Plants", "leastSet", "(I)I"⟩
abbrev b_Pl_ownKind : ByteArray := prog_5_method_7_code
def y_Pl_ownKind : MethodName := ⟨"BookChecks$Plants", "ownKind", "(I)I"⟩
abbrev b_Pl_gramsOfSet : ByteArray := prog_5_method_8_code
def y_Pl_gramsOfSet : MethodName := ⟨"BookChecks$Plants", "gramsOfSet", "(II)J"⟩
abbrev b_Pl_isBefore : ByteArray := prog_5_method_9_code
def y_Pl_isBefore : MethodName := ⟨"BookChecks$Plants", "isBefore", "(II)Z"⟩
abbrev b_Ri_init : ByteArray := prog_6_method_1_code
def y_Ri_init : MethodName := ⟨"BookChecks$Risks", "<init>", "()V"⟩
abbrev b_Ri_set : ByteArray := prog_6_method_2_code
def y_Ri_set : MethodName := ⟨"BookChecks$Risks", "set", "(III)Z"⟩
abbrev b_Ri_take : ByteArray := prog_6_method_3_code
def y_Ri_take : MethodName := ⟨"BookChecks$Risks", "take", "(LBookChecks$Book;JILBookChecks$Row;)V"⟩
abbrev b_Ri_weighAll : ByteArray := prog_6_method_4_code
def y_Ri_weighAll : MethodName := ⟨"BookChecks$Risks", "weighAll", "(LBookChecks$Book;)I"⟩
abbrev b_Ri_pageOver : ByteArray := prog_6_method_5_code
def y_Ri_pageOver : MethodName := ⟨"BookChecks$Risks", "pageOver", "(II)I"⟩
abbrev b_Ro_init : ByteArray := prog_7_method_1_code
def y_Ro_init : MethodName := ⟨"BookChecks$Row", "<init>", "()V"⟩
abbrev b_Ro_begin : ByteArray := prog_7_method_2_code
def y_Ro_begin : MethodName := ⟨"BookChecks$Row", "begin", "(I)V"⟩
abbrev b_Ro_append : ByteArray := prog_7_method_3_code
def y_Ro_append : MethodName := ⟨"BookChecks$Row", "append", "(I)V"⟩
abbrev b_Ro_at : ByteArray := prog_7_method_4_code
def y_Ro_at : MethodName := ⟨"BookChecks$Row", "at", "(I)I"⟩
abbrev b_Ro_equalTo : ByteArray := prog_7_method_5_code
def y_Ro_equalTo : MethodName := ⟨"BookChecks$Row", "equalTo", "(LBookChecks$Row;)Z"⟩
abbrev b_Wa_init : ByteArray := prog_8_method_1_code
def y_Wa_init : MethodName := ⟨"BookChecks$Watch", "<init>", "()V"⟩
abbrev b_Wa_most : ByteArray := prog_8_method_2_code
def y_Wa_most : MethodName := ⟨"BookChecks$Watch", "most", "(LBookChecks$Book;II)I"⟩
abbrev b_Wa_sortMinutes : ByteArray := prog_8_method_3_code
def y_Wa_sortMinutes : MethodName := ⟨"BookChecks$Watch", "sortMinutes", "(LBookChecks$Book;I)I"⟩
abbrev b_Wa_insert : ByteArray := prog_8_method_4_code
def y_Wa_insert : MethodName := ⟨"BookChecks$Watch", "insert", "(IJ)V"⟩
abbrev b_Lw_cell : ByteArray := method_2_code
def y_Lw_cell : MethodName := ⟨"BookChecksLaw", "cell", "([II)I"⟩
abbrev b_Lw_pageAt : ByteArray := method_3_code
def y_Lw_pageAt : MethodName := ⟨"BookChecksLaw", "pageAt", "(LBookChecks;I[J)I"⟩
abbrev b_Lw_law : ByteArray := code
def y_Lw_law : MethodName := ⟨"BookChecksLaw", "law", "([I)Z"⟩
abbrev b_In_bitCount : ByteArray := prog_13_method_49_code
def y_In_bitCount : MethodName := ⟨"java/lang/Integer", "bitCount", "(I)I"⟩
end
section
theorem k1_0 : (Cond.initialized "BookChecksLaw") ∈ gW := gW_in (in1 (List.mem_of_getElem? (i := 0) rfl)) (by decide +kernel)
theorem k1_1 : (Cond.initialized "BookChecks") ∈ gW := gW_in (in1 (List.mem_of_getElem? (i := 1) rfl)) (by decide +kernel)
theorem k1_2 : (Cond.initialized "BookChecks$Book") ∈ gW := gW_in (in1 (List.mem_of_getElem? (i := 2) rfl)) (by decide +kernel)
theorem k1_3 : (Cond.initialized "BookChecks$Joins") ∈ gW := gW_in (in1 (List.mem_of_getElem? (i := 3) rfl)) (by decide +kernel)
theorem k1_4 : (Cond.initialized "BookChecks$Plants") ∈ gW := gW_in (in1 (List.mem_of_getElem? (i := 4) rfl)) (by decide +kernel)
theorem k1_5 : (Cond.initialized "BookChecks$Risks") ∈ gW := gW_in (in1 (List.mem_of_getElem? (i := 5) rfl)) (by decide +kernel)
theorem k1_6 : (Cond.initialized "BookChecks$Row") ∈ gW := gW_in (in1 (List.mem_of_getElem? (i := 6) rfl)) (by decide +kernel)
theorem k1_7 : (Cond.initialized "BookChecks$Watch") ∈ gW := gW_in (in1 (List.mem_of_getElem? (i := 7) rfl)) (by decide +kernel)
theorem k1_8 : (Cond.initialized "BookChecks$Acts") ∈ gW := gW_in (in1 (List.mem_of_getElem? (i := 8) rfl)) (by decide +kernel)
theorem k1_9 : (Cond.initialized "BookChecksModel") ∈ gW := gW_in (in1 (List.mem_of_getElem? (i := 9) rfl)) (by decide +kernel)
theorem k1_10 : (Cond.initialized "java/lang/Math") ∈ gW := gW_in (in1 (List.mem_of_getElem? (i := 10) rfl)) (by decide +kernel)
theorem k1_11 : (Cond.initialized "java/lang/Throwable") ∈ gW := gW_in (in1 (List.mem_of_getElem? (i := 11) rfl)) (by decide +kernel)
theorem k1_12 : (Cond.initialized "java/lang/Exception") ∈ gW := gW_in (in1 (List.mem_of_getElem? (i := 12) rfl)) (by decide +kernel)
theorem k1_13 : (Cond.initialized "java/lang/RuntimeException") ∈ gW := gW_in (in1 (List.mem_of_getElem? (i := 13) rfl)) (by decide +kernel)
theorem k1_14 : (Cond.initialized "java/lang/IndexOutOfBoundsException") ∈ gW := gW_in (in1 (List.mem_of_getElem? (i := 14) rfl)) (by decide +kernel)
theorem k1_15 : (Cond.initialized "java/lang/Integer") ∈ gW := gW_in (in1 (List.mem_of_getElem? (i := 15) rfl)) (by decide +kernel)
theorem k1_16 : (Cond.classLink "BookChecksLaw" (8 : Nat) "BookChecks") ∈ gW := gW_in (in1 (List.mem_of_getElem? (i := 16) rfl)) (by decide +kernel)
theorem k1_17 : (Cond.instantiable "BookChecks" (10 : Nat)) ∈ gW := gW_in (in1 (List.mem_of_getElem? (i := 17) rfl)) (by decide +kernel)
theorem k1_18 : (Cond.methodLink "BookChecksLaw" (21 : Nat) ({ cls := "BookChecks", name := "<init>", desc := "(J)V" } : MethodName)) ∈ gW := gW_in (in1 (List.mem_of_getElem? (i := 18) rfl)) (by decide +kernel)
theorem k1_19 : (Cond.instanceMethod ({ cls := "BookChecks", name := "<init>", desc := "(J)V" } : MethodName)) ∈ gW := gW_in (in1 (List.mem_of_getElem? (i := 19) rfl)) (by decide +kernel)
theorem k1_20 : (Cond.code ({ cls := "BookChecks", name := "<init>", desc := "(J)V" } : MethodName) prog_1_method_1_code (3 : Nat) (Option.none : Option ClassFile.FieldType)) ∈ gW := gW_in (in1 (List.mem_of_getElem? (i := 20) rfl)) (by decide +kernel)
theorem k1_21 : (Cond.methodLink "BookChecks" (1 : Nat) ({ cls := "java/lang/Object", name := "<init>", desc := "()V" } : MethodName)) ∈ gW := gW_in (in1 (List.mem_of_getElem? (i := 21) rfl)) (by decide +kernel)
theorem k1_22 : (Cond.instanceMethod ({ cls := "java/lang/Object", name := "<init>", desc := "()V" } : MethodName)) ∈ gW := gW_in (in1 (List.mem_of_getElem? (i := 22) rfl)) (by decide +kernel)
theorem k1_23 : (Cond.code ({ cls := "java/lang/Object", name := "<init>", desc := "()V" } : MethodName) object_method_1_code (1 : Nat) (Option.none : Option ClassFile.FieldType)) ∈ gW := gW_in (in1 (List.mem_of_getElem? (i := 23) rfl)) (by decide +kernel)
theorem k1_24 : (Cond.classLink "BookChecks" (13 : Nat) "BookChecks$Book") ∈ gW := gW_in (in1 (List.mem_of_getElem? (i := 24) rfl)) (by decide +kernel)
theorem k1_25 : (Cond.instantiable "BookChecks$Book" (5 : Nat)) ∈ gW := gW_in (in1 (List.mem_of_getElem? (i := 25) rfl)) (by decide +kernel)
theorem k1_27 : (Cond.instanceMethod ({ cls := "BookChecks$Book", name := "<init>", desc := "()V" } : MethodName)) ∈ gW := gW_in (in1 (List.mem_of_getElem? (i := 27) rfl)) (by decide +kernel)
theorem k1_28 : (Cond.code ({ cls := "BookChecks$Book", name := "<init>", desc := "()V" } : MethodName) prog_3_method_1_code (1 : Nat) (Option.none : Option ClassFile.FieldType)) ∈ gW := gW_in (in1 (List.mem_of_getElem? (i := 28) rfl)) (by decide +kernel)
theorem k1_29 : (Cond.methodLink "BookChecks$Book" (3 : Nat) ({ cls := "java/lang/Object", name := "<init>", desc := "()V" } : MethodName)) ∈ gW := gW_in (in1 (List.mem_of_getElem? (i := 29) rfl)) (by decide +kernel)
theorem k1_30 : (Cond.fieldLink "BookChecks$Book" (9 : Nat) "BookChecks$Book" "ships" "[I") ∈ gW := gW_in (in1 (List.mem_of_getElem? (i := 30) rfl)) (by decide +kernel)
theorem k1_31 : (Cond.fieldLink "BookChecks$Watch" (25 : Nat) "BookChecks$Book" "ships" "[I") ∈ gW := gW_in (in1 (List.mem_of_getElem? (i := 31) rfl)) (by decide +kernel)
theorem k1_32 : (Cond.fieldLink "BookChecks$Risks" (49 : Nat) "BookChecks$Book" "ships" "[I") ∈ gW := gW_in (in1 (List.mem_of_getElem? (i := 32) rfl)) (by decide +kernel)
theorem k1_33 : (Cond.fieldLink "BookChecks$Book" (15 : Nat) "BookChecks$Book" "days" "[I") ∈ gW := gW_in (in1 (List.mem_of_getElem? (i := 33) rfl)) (by decide +kernel)
theorem k1_34 : (Cond.fieldLink "BookChecks$Joins" (35 : Nat) "BookChecks$Book" "days" "[I") ∈ gW := gW_in (in1 (List.mem_of_getElem? (i := 34) rfl)) (by decide +kernel)
theorem k1_35 : (Cond.fieldLink "BookChecks$Book" (18 : Nat) "BookChecks$Book" "kinds" "[I") ∈ gW := gW_in (in1 (List.mem_of_getElem? (i := 35) rfl)) (by decide +kernel)
theorem k1_36 : (Cond.fieldLink "BookChecks$Book" (21 : Nat) "BookChecks$Book" "grams" "[J") ∈ gW := gW_in (in1 (List.mem_of_getElem? (i := 36) rfl)) (by decide +kernel)
theorem k1_37 : (Cond.fieldLink "BookChecks$Watch" (31 : Nat) "BookChecks$Book" "grams" "[J") ∈ gW := gW_in (in1 (List.mem_of_getElem? (i := 37) rfl)) (by decide +kernel)
theorem k1_38 : (Cond.fieldLink "BookChecks$Book" (25 : Nat) "BookChecks$Book" "size" "I") ∈ gW := gW_in (in1 (List.mem_of_getElem? (i := 38) rfl)) (by decide +kernel)
theorem k1_39 : (Cond.fieldLink "BookChecks$Watch" (19 : Nat) "BookChecks$Book" "size" "I") ∈ gW := gW_in (in1 (List.mem_of_getElem? (i := 39) rfl)) (by decide +kernel)
theorem k1_40 : (Cond.fieldLink "BookChecks$Risks" (36 : Nat) "BookChecks$Book" "size" "I") ∈ gW := gW_in (in1 (List.mem_of_getElem? (i := 40) rfl)) (by decide +kernel)
theorem k1_41 : (Cond.fieldLink "BookChecks$Joins" (25 : Nat) "BookChecks$Book" "size" "I") ∈ gW := gW_in (in1 (List.mem_of_getElem? (i := 41) rfl)) (by decide +kernel)
theorem k1_42 : (Cond.fieldLink "BookChecks" (130 : Nat) "BookChecks$Book" "size" "I") ∈ gW := gW_in (in1 (List.mem_of_getElem? (i := 42) rfl)) (by decide +kernel)
theorem k1_43 : (Cond.laysFinal "BookChecks$Book" "BookChecks$Book" "ships" "[I") ∈ gW := gW_in (in1 (List.mem_of_getElem? (i := 43) rfl)) (by decide +kernel)
theorem k1_45 : (Cond.laysFinal "BookChecks$Book" "BookChecks$Book" "days" "[I") ∈ gW := gW_in (in1 (List.mem_of_getElem? (i := 45) rfl)) (by decide +kernel)
theorem k1_47 : (Cond.laysFinal "BookChecks$Book" "BookChecks$Book" "kinds" "[I") ∈ gW := gW_in (in1 (List.mem_of_getElem? (i := 47) rfl)) (by decide +kernel)
theorem k1_49 : (Cond.laysFinal "BookChecks$Book" "BookChecks$Book" "grams" "[J") ∈ gW := gW_in (in1 (List.mem_of_getElem? (i := 49) rfl)) (by decide +kernel)
theorem k1_51 : (Cond.lays "BookChecks$Book" "BookChecks$Book" "size" "I") ∈ gW := gW_in (in1 (List.mem_of_getElem? (i := 51) rfl)) (by decide +kernel)
theorem k1_53 : (Cond.superclass "BookChecks$Book" "java/lang/Object") ∈ gW := gW_in (in1 (List.mem_of_getElem? (i := 53) rfl)) (by decide +kernel)
theorem k1_54 : (Cond.arrayClass ClassFile.FieldType.int) ∈ gW := gW_in (in1 (List.mem_of_getElem? (i := 54) rfl)) (by decide +kernel)
theorem k1_55 : (Cond.arrayClass ClassFile.FieldType.long) ∈ gW := gW_in (in1 (List.mem_of_getElem? (i := 55) rfl)) (by decide +kernel)
theorem k1_56 : (Cond.classLink "BookChecks" (23 : Nat) "BookChecks$Joins") ∈ gW := gW_in (in1 (List.mem_of_getElem? (i := 56) rfl)) (by decide +kernel)
theorem k1_57 : (Cond.instantiable "BookChecks$Joins" (2 : Nat)) ∈ gW := gW_in (in1 (List.mem_of_getElem? (i := 57) rfl)) (by decide +kernel)
theorem k1_58 : (Cond.methodLink "BookChecks" (25 : Nat) ({ cls := "BookChecks$Joins", name := "<init>", desc := "()V" } : MethodName)) ∈ gW := gW_in (in1 (List.mem_of_getElem? (i := 58) rfl)) (by decide +kernel)
theorem k1_59 : (Cond.instanceMethod ({ cls := "BookChecks$Joins", name := "<init>", desc := "()V" } : MethodName)) ∈ gW := gW_in (in1 (List.mem_of_getElem? (i := 59) rfl)) (by decide +kernel)
theorem k1_60 : (Cond.code ({ cls := "BookChecks$Joins", name := "<init>", desc := "()V" } : MethodName) prog_4_method_1_code (1 : Nat) (Option.none : Option ClassFile.FieldType)) ∈ gW := gW_in (in1 (List.mem_of_getElem? (i := 60) rfl)) (by decide +kernel)
theorem k1_61 : (Cond.methodLink "BookChecks$Joins" (3 : Nat) ({ cls := "java/lang/Object", name := "<init>", desc := "()V" } : MethodName)) ∈ gW := gW_in (in1 (List.mem_of_getElem? (i := 61) rfl)) (by decide +kernel)
theorem k1_62 : (Cond.methodLink "BookChecks$Joins" (18 : Nat) ({ cls := "BookChecks$Joins", name := "partAll", desc := "()V" } : MethodName)) ∈ gW := gW_in (in1 (List.mem_of_getElem? (i := 62) rfl)) (by decide +kernel)
theorem k1_64 : (Cond.instanceMethod ({ cls := "BookChecks$Joins", name := "partAll", desc := "()V" } : MethodName)) ∈ gW := gW_in (in1 (List.mem_of_getElem? (i := 64) rfl)) (by decide +kernel)
theorem k1_65 : (Cond.code ({ cls := "BookChecks$Joins", name := "partAll", desc := "()V" } : MethodName) prog_4_method_2_code (2 : Nat) (Option.none : Option ClassFile.FieldType)) ∈ gW := gW_in (in1 (List.mem_of_getElem? (i := 65) rfl)) (by decide +kernel)
theorem k1_66 : (Cond.fieldLink "BookChecks$Joins" (9 : Nat) "BookChecks$Joins" "saleOfPage" "[I") ∈ gW := gW_in (in1 (List.mem_of_getElem? (i := 66) rfl)) (by decide +kernel)
theorem k1_67 : (Cond.fieldLink "BookChecks$Joins" (15 : Nat) "BookChecks$Joins" "pageOfSale" "[I") ∈ gW := gW_in (in1 (List.mem_of_getElem? (i := 67) rfl)) (by decide +kernel)
theorem k1_68 : (Cond.laysFinal "BookChecks$Joins" "BookChecks$Joins" "saleOfPage" "[I") ∈ gW := gW_in (in1 (List.mem_of_getElem? (i := 68) rfl)) (by decide +kernel)
theorem k1_70 : (Cond.laysFinal "BookChecks$Joins" "BookChecks$Joins" "pageOfSale" "[I") ∈ gW := gW_in (in1 (List.mem_of_getElem? (i := 70) rfl)) (by decide +kernel)
theorem k1_72 : (Cond.superclass "BookChecks$Joins" "java/lang/Object") ∈ gW := gW_in (in1 (List.mem_of_getElem? (i := 72) rfl)) (by decide +kernel)
theorem k1_73 : (Cond.classLink "BookChecks" (30 : Nat) "BookChecks$Plants") ∈ gW := gW_in (in1 (List.mem_of_getElem? (i := 73) rfl)) (by decide +kernel)
theorem k1_74 : (Cond.instantiable "BookChecks$Plants" (6 : Nat)) ∈ gW := gW_in (in1 (List.mem_of_getElem? (i := 74) rfl)) (by decide +kernel)
theorem k1_76 : (Cond.instanceMethod ({ cls := "BookChecks$Plants", name := "<init>", desc := "()V" } : MethodName)) ∈ gW := gW_in (in1 (List.mem_of_getElem? (i := 76) rfl)) (by decide +kernel)
theorem k1_77 : (Cond.code ({ cls := "BookChecks$Plants", name := "<init>", desc := "()V" } : MethodName) prog_5_method_1_code (1 : Nat) (Option.none : Option ClassFile.FieldType)) ∈ gW := gW_in (in1 (List.mem_of_getElem? (i := 77) rfl)) (by decide +kernel)
theorem k1_78 : (Cond.methodLink "BookChecks$Plants" (3 : Nat) ({ cls := "java/lang/Object", name := "<init>", desc := "()V" } : MethodName)) ∈ gW := gW_in (in1 (List.mem_of_getElem? (i := 78) rfl)) (by decide +kernel)
theorem k1_79 : (Cond.fieldLink "BookChecks$Plants" (9 : Nat) "BookChecks$Plants" "cameIn" "[J") ∈ gW := gW_in (in1 (List.mem_of_getElem? (i := 79) rfl)) (by decide +kernel)
theorem k1_80 : (Cond.fieldLink "BookChecks$Plants" (15 : Nat) "BookChecks$Plants" "kinds" "[I") ∈ gW := gW_in (in1 (List.mem_of_getElem? (i := 80) rfl)) (by decide +kernel)
theorem k1_81 : (Cond.fieldLink "BookChecks$Plants" (19 : Nat) "BookChecks$Plants" "outs" "[I") ∈ gW := gW_in (in1 (List.mem_of_getElem? (i := 81) rfl)) (by decide +kernel)
theorem k1_82 : (Cond.fieldLink "BookChecks$Plants" (22 : Nat) "BookChecks$Plants" "outKinds" "[I") ∈ gW := gW_in (in1 (List.mem_of_getElem? (i := 82) rfl)) (by decide +kernel)
theorem k1_83 : (Cond.fieldLink "BookChecks$Plants" (25 : Nat) "BookChecks$Plants" "outGrams" "[J") ∈ gW := gW_in (in1 (List.mem_of_getElem? (i := 83) rfl)) (by decide +kernel)
theorem k1_84 : (Cond.fieldLink "BookChecks$Plants" (28 : Nat) "BookChecks$Plants" "size" "I") ∈ gW := gW_in (in1 (List.mem_of_getElem? (i := 84) rfl)) (by decide +kernel)
theorem k1_85 : (Cond.laysFinal "BookChecks$Plants" "BookChecks$Plants" "cameIn" "[J") ∈ gW := gW_in (in1 (List.mem_of_getElem? (i := 85) rfl)) (by decide +kernel)
theorem k1_87 : (Cond.laysFinal "BookChecks$Plants" "BookChecks$Plants" "kinds" "[I") ∈ gW := gW_in (in1 (List.mem_of_getElem? (i := 87) rfl)) (by decide +kernel)
theorem k1_89 : (Cond.laysFinal "BookChecks$Plants" "BookChecks$Plants" "outs" "[I") ∈ gW := gW_in (in1 (List.mem_of_getElem? (i := 89) rfl)) (by decide +kernel)
theorem k1_91 : (Cond.laysFinal "BookChecks$Plants" "BookChecks$Plants" "outKinds" "[I") ∈ gW := gW_in (in1 (List.mem_of_getElem? (i := 91) rfl)) (by decide +kernel)
theorem k1_93 : (Cond.laysFinal "BookChecks$Plants" "BookChecks$Plants" "outGrams" "[J") ∈ gW := gW_in (in1 (List.mem_of_getElem? (i := 93) rfl)) (by decide +kernel)
theorem k1_95 : (Cond.lays "BookChecks$Plants" "BookChecks$Plants" "size" "I") ∈ gW := gW_in (in1 (List.mem_of_getElem? (i := 95) rfl)) (by decide +kernel)
theorem k1_97 : (Cond.superclass "BookChecks$Plants" "java/lang/Object") ∈ gW := gW_in (in1 (List.mem_of_getElem? (i := 97) rfl)) (by decide +kernel)
theorem k1_98 : (Cond.classLink "BookChecks" (37 : Nat) "BookChecks$Risks") ∈ gW := gW_in (in1 (List.mem_of_getElem? (i := 98) rfl)) (by decide +kernel)
theorem k1_99 : (Cond.instantiable "BookChecks$Risks" (2 : Nat)) ∈ gW := gW_in (in1 (List.mem_of_getElem? (i := 99) rfl)) (by decide +kernel)
theorem k1_100 : (Cond.methodLink "BookChecks" (39 : Nat) ({ cls := "BookChecks$Risks", name := "<init>", desc := "()V" } : MethodName)) ∈ gW := gW_in (in1 (List.mem_of_getElem? (i := 100) rfl)) (by decide +kernel)
theorem k1_101 : (Cond.instanceMethod ({ cls := "BookChecks$Risks", name := "<init>", desc := "()V" } : MethodName)) ∈ gW := gW_in (in1 (List.mem_of_getElem? (i := 101) rfl)) (by decide +kernel)
theorem k1_102 : (Cond.code ({ cls := "BookChecks$Risks", name := "<init>", desc := "()V" } : MethodName) prog_6_method_1_code (2 : Nat) (Option.none : Option ClassFile.FieldType)) ∈ gW := gW_in (in1 (List.mem_of_getElem? (i := 102) rfl)) (by decide +kernel)
theorem k1_103 : (Cond.methodLink "BookChecks$Risks" (3 : Nat) ({ cls := "java/lang/Object", name := "<init>", desc := "()V" } : MethodName)) ∈ gW := gW_in (in1 (List.mem_of_getElem? (i := 103) rfl)) (by decide +kernel)
theorem k1_104 : (Cond.fieldLink "BookChecks$Risks" (9 : Nat) "BookChecks$Risks" "weightOfShip" "[I") ∈ gW := gW_in (in1 (List.mem_of_getElem? (i := 104) rfl)) (by decide +kernel)
theorem k1_105 : (Cond.fieldLink "BookChecks$Risks" (15 : Nat) "BookChecks$Risks" "weightLeft" "[I") ∈ gW := gW_in (in1 (List.mem_of_getElem? (i := 105) rfl)) (by decide +kernel)
theorem k1_106 : (Cond.laysFinal "BookChecks$Risks" "BookChecks$Risks" "weightOfShip" "[I") ∈ gW := gW_in (in1 (List.mem_of_getElem? (i := 106) rfl)) (by decide +kernel)
theorem k1_108 : (Cond.laysFinal "BookChecks$Risks" "BookChecks$Risks" "weightLeft" "[I") ∈ gW := gW_in (in1 (List.mem_of_getElem? (i := 108) rfl)) (by decide +kernel)
theorem k1_110 : (Cond.superclass "BookChecks$Risks" "java/lang/Object") ∈ gW := gW_in (in1 (List.mem_of_getElem? (i := 110) rfl)) (by decide +kernel)
theorem k1_111 : (Cond.classLink "BookChecks" (44 : Nat) "BookChecks$Row") ∈ gW := gW_in (in1 (List.mem_of_getElem? (i := 111) rfl)) (by decide +kernel)
theorem k1_112 : (Cond.instantiable "BookChecks$Row" (3 : Nat)) ∈ gW := gW_in (in1 (List.mem_of_getElem? (i := 112) rfl)) (by decide +kernel)
theorem k1_114 : (Cond.instanceMethod ({ cls := "BookChecks$Row", name := "<init>", desc := "()V" } : MethodName)) ∈ gW := gW_in (in1 (List.mem_of_getElem? (i := 114) rfl)) (by decide +kernel)
theorem k1_115 : (Cond.code ({ cls := "BookChecks$Row", name := "<init>", desc := "()V" } : MethodName) prog_7_method_1_code (1 : Nat) (Option.none : Option ClassFile.FieldType)) ∈ gW := gW_in (in1 (List.mem_of_getElem? (i := 115) rfl)) (by decide +kernel)
theorem k1_116 : (Cond.methodLink "BookChecks$Row" (3 : Nat) ({ cls := "java/lang/Object", name := "<init>", desc := "()V" } : MethodName)) ∈ gW := gW_in (in1 (List.mem_of_getElem? (i := 116) rfl)) (by decide +kernel)
theorem k1_117 : (Cond.fieldLink "BookChecks$Row" (9 : Nat) "BookChecks$Row" "taken" "[I") ∈ gW := gW_in (in1 (List.mem_of_getElem? (i := 117) rfl)) (by decide +kernel)
theorem k1_118 : (Cond.fieldLink "BookChecks$Row" (15 : Nat) "BookChecks$Row" "size" "I") ∈ gW := gW_in (in1 (List.mem_of_getElem? (i := 118) rfl)) (by decide +kernel)
theorem k1_119 : (Cond.fieldLink "BookChecks" (138 : Nat) "BookChecks$Row" "size" "I") ∈ gW := gW_in (in1 (List.mem_of_getElem? (i := 119) rfl)) (by decide +kernel)
theorem k1_120 : (Cond.fieldLink "BookChecks$Row" (19 : Nat) "BookChecks$Row" "asked" "I") ∈ gW := gW_in (in1 (List.mem_of_getElem? (i := 120) rfl)) (by decide +kernel)
theorem k1_121 : (Cond.fieldLink "BookChecks" (142 : Nat) "BookChecks$Row" "asked" "I") ∈ gW := gW_in (in1 (List.mem_of_getElem? (i := 121) rfl)) (by decide +kernel)
theorem k1_122 : (Cond.laysFinal "BookChecks$Row" "BookChecks$Row" "taken" "[I") ∈ gW := gW_in (in1 (List.mem_of_getElem? (i := 122) rfl)) (by decide +kernel)
theorem k1_124 : (Cond.lays "BookChecks$Row" "BookChecks$Row" "size" "I") ∈ gW := gW_in (in1 (List.mem_of_getElem? (i := 124) rfl)) (by decide +kernel)
theorem k1_126 : (Cond.lays "BookChecks$Row" "BookChecks$Row" "asked" "I") ∈ gW := gW_in (in1 (List.mem_of_getElem? (i := 126) rfl)) (by decide +kernel)
theorem k1_128 : (Cond.superclass "BookChecks$Row" "java/lang/Object") ∈ gW := gW_in (in1 (List.mem_of_getElem? (i := 128) rfl)) (by decide +kernel)
theorem k1_129 : (Cond.classLink "BookChecks" (54 : Nat) "BookChecks$Watch") ∈ gW := gW_in (in1 (List.mem_of_getElem? (i := 129) rfl)) (by decide +kernel)
theorem k1_130 : (Cond.instantiable "BookChecks$Watch" (1 : Nat)) ∈ gW := gW_in (in1 (List.mem_of_getElem? (i := 130) rfl)) (by decide +kernel)
theorem k1_132 : (Cond.instanceMethod ({ cls := "BookChecks$Watch", name := "<init>", desc := "()V" } : MethodName)) ∈ gW := gW_in (in1 (List.mem_of_getElem? (i := 132) rfl)) (by decide +kernel)
theorem k1_133 : (Cond.code ({ cls := "BookChecks$Watch", name := "<init>", desc := "()V" } : MethodName) prog_8_method_1_code (1 : Nat) (Option.none : Option ClassFile.FieldType)) ∈ gW := gW_in (in1 (List.mem_of_getElem? (i := 133) rfl)) (by decide +kernel)
theorem k1_134 : (Cond.methodLink "BookChecks$Watch" (3 : Nat) ({ cls := "java/lang/Object", name := "<init>", desc := "()V" } : MethodName)) ∈ gW := gW_in (in1 (List.mem_of_getElem? (i := 134) rfl)) (by decide +kernel)
theorem k1_135 : (Cond.fieldLink "BookChecks$Watch" (9 : Nat) "BookChecks$Watch" "minutesOf" "[J") ∈ gW := gW_in (in1 (List.mem_of_getElem? (i := 135) rfl)) (by decide +kernel)
theorem k1_136 : (Cond.laysFinal "BookChecks$Watch" "BookChecks$Watch" "minutesOf" "[J") ∈ gW := gW_in (in1 (List.mem_of_getElem? (i := 136) rfl)) (by decide +kernel)
theorem k1_138 : (Cond.superclass "BookChecks$Watch" "java/lang/Object") ∈ gW := gW_in (in1 (List.mem_of_getElem? (i := 138) rfl)) (by decide +kernel)
theorem k1_139 : (Cond.classLink "BookChecks" (61 : Nat) "BookChecks$Acts") ∈ gW := gW_in (in1 (List.mem_of_getElem? (i := 139) rfl)) (by decide +kernel)
theorem k1_140 : (Cond.instantiable "BookChecks$Acts" (3 : Nat)) ∈ gW := gW_in (in1 (List.mem_of_getElem? (i := 140) rfl)) (by decide +kernel)
theorem k1_141 : (Cond.methodLink "BookChecks" (63 : Nat) ({ cls := "BookChecks$Acts", name := "<init>", desc := "()V" } : MethodName)) ∈ gW := gW_in (in1 (List.mem_of_getElem? (i := 141) rfl)) (by decide +kernel)
theorem k1_142 : (Cond.instanceMethod ({ cls := "BookChecks$Acts", name := "<init>", desc := "()V" } : MethodName)) ∈ gW := gW_in (in1 (List.mem_of_getElem? (i := 142) rfl)) (by decide +kernel)
theorem k1_143 : (Cond.code ({ cls := "BookChecks$Acts", name := "<init>", desc := "()V" } : MethodName) prog_2_method_1_code (2 : Nat) (Option.none : Option ClassFile.FieldType)) ∈ gW := gW_in (in1 (List.mem_of_getElem? (i := 143) rfl)) (by decide +kernel)
theorem k1_144 : (Cond.methodLink "BookChecks$Acts" (3 : Nat) ({ cls := "java/lang/Object", name := "<init>", desc := "()V" } : MethodName)) ∈ gW := gW_in (in1 (List.mem_of_getElem? (i := 144) rfl)) (by decide +kernel)
theorem k1_145 : (Cond.fieldLink "BookChecks$Acts" (9 : Nat) "BookChecks$Acts" "states" "[I") ∈ gW := gW_in (in1 (List.mem_of_getElem? (i := 145) rfl)) (by decide +kernel)
theorem k1_146 : (Cond.fieldLink "BookChecks" (167 : Nat) "BookChecks$Acts" "states" "[I") ∈ gW := gW_in (in1 (List.mem_of_getElem? (i := 146) rfl)) (by decide +kernel)
theorem k1_147 : (Cond.fieldLink "BookChecks$Acts" (15 : Nat) "BookChecks$Acts" "wrongs" "[I") ∈ gW := gW_in (in1 (List.mem_of_getElem? (i := 147) rfl)) (by decide +kernel)
theorem k1_148 : (Cond.fieldLink "BookChecks" (171 : Nat) "BookChecks$Acts" "wrongs" "[I") ∈ gW := gW_in (in1 (List.mem_of_getElem? (i := 148) rfl)) (by decide +kernel)
theorem k1_149 : (Cond.fieldLink "BookChecks$Acts" (18 : Nat) "BookChecks$Acts" "latestPersons" "[I") ∈ gW := gW_in (in1 (List.mem_of_getElem? (i := 149) rfl)) (by decide +kernel)
theorem k1_150 : (Cond.laysFinal "BookChecks$Acts" "BookChecks$Acts" "states" "[I") ∈ gW := gW_in (in1 (List.mem_of_getElem? (i := 150) rfl)) (by decide +kernel)
theorem k1_152 : (Cond.laysFinal "BookChecks$Acts" "BookChecks$Acts" "wrongs" "[I") ∈ gW := gW_in (in1 (List.mem_of_getElem? (i := 152) rfl)) (by decide +kernel)
theorem k1_154 : (Cond.laysFinal "BookChecks$Acts" "BookChecks$Acts" "latestPersons" "[I") ∈ gW := gW_in (in1 (List.mem_of_getElem? (i := 154) rfl)) (by decide +kernel)
theorem k1_156 : (Cond.superclass "BookChecks$Acts" "java/lang/Object") ∈ gW := gW_in (in1 (List.mem_of_getElem? (i := 156) rfl)) (by decide +kernel)
theorem k1_157 : (Cond.fieldLink "BookChecks" (7 : Nat) "BookChecks" "seed" "J") ∈ gW := gW_in (in1 (List.mem_of_getElem? (i := 157) rfl)) (by decide +kernel)
theorem k1_158 : (Cond.fieldLink "BookChecks" (16 : Nat) "BookChecks" "pages" "LBookChecks$Book;") ∈ gW := gW_in (in1 (List.mem_of_getElem? (i := 158) rfl)) (by decide +kernel)
theorem k1_159 : (Cond.fieldLink "BookChecks" (20 : Nat) "BookChecks" "sales" "LBookChecks$Book;") ∈ gW := gW_in (in1 (List.mem_of_getElem? (i := 159) rfl)) (by decide +kernel)
theorem k1_160 : (Cond.fieldLink "BookChecks" (26 : Nat) "BookChecks" "joins" "LBookChecks$Joins;") ∈ gW := gW_in (in1 (List.mem_of_getElem? (i := 160) rfl)) (by decide +kernel)
theorem k1_161 : (Cond.fieldLink "BookChecks" (33 : Nat) "BookChecks" "plants" "LBookChecks$Plants;") ∈ gW := gW_in (in1 (List.mem_of_getElem? (i := 161) rfl)) (by decide +kernel)
theorem k1_162 : (Cond.fieldLink "BookChecks" (40 : Nat) "BookChecks" "risks" "LBookChecks$Risks;") ∈ gW := gW_in (in1 (List.mem_of_getElem? (i := 162) rfl)) (by decide +kernel)
theorem k1_163 : (Cond.fieldLink "BookChecks" (47 : Nat) "BookChecks" "latest" "LBookChecks$Row;") ∈ gW := gW_in (in1 (List.mem_of_getElem? (i := 163) rfl)) (by decide +kernel)
theorem k1_164 : (Cond.fieldLink "BookChecks" (51 : Nat) "BookChecks" "trial" "LBookChecks$Row;") ∈ gW := gW_in (in1 (List.mem_of_getElem? (i := 164) rfl)) (by decide +kernel)
theorem k1_165 : (Cond.fieldLink "BookChecks" (57 : Nat) "BookChecks" "watch" "LBookChecks$Watch;") ∈ gW := gW_in (in1 (List.mem_of_getElem? (i := 165) rfl)) (by decide +kernel)
theorem k1_166 : (Cond.fieldLink "BookChecks" (64 : Nat) "BookChecks" "acts" "LBookChecks$Acts;") ∈ gW := gW_in (in1 (List.mem_of_getElem? (i := 166) rfl)) (by decide +kernel)
theorem k1_167 : (Cond.laysFinal "BookChecks" "BookChecks" "seed" "J") ∈ gW := gW_in (in1 (List.mem_of_getElem? (i := 167) rfl)) (by decide +kernel)
theorem k1_169 : (Cond.laysFinal "BookChecks" "BookChecks" "pages" "LBookChecks$Book;") ∈ gW := gW_in (in1 (List.mem_of_getElem? (i := 169) rfl)) (by decide +kernel)
theorem k1_171 : (Cond.laysFinal "BookChecks" "BookChecks" "sales" "LBookChecks$Book;") ∈ gW := gW_in (in1 (List.mem_of_getElem? (i := 171) rfl)) (by decide +kernel)
theorem k1_173 : (Cond.laysFinal "BookChecks" "BookChecks" "joins" "LBookChecks$Joins;") ∈ gW := gW_in (in1 (List.mem_of_getElem? (i := 173) rfl)) (by decide +kernel)
theorem k1_175 : (Cond.laysFinal "BookChecks" "BookChecks" "plants" "LBookChecks$Plants;") ∈ gW := gW_in (in1 (List.mem_of_getElem? (i := 175) rfl)) (by decide +kernel)
theorem k1_177 : (Cond.laysFinal "BookChecks" "BookChecks" "risks" "LBookChecks$Risks;") ∈ gW := gW_in (in1 (List.mem_of_getElem? (i := 177) rfl)) (by decide +kernel)
theorem k1_179 : (Cond.laysFinal "BookChecks" "BookChecks" "latest" "LBookChecks$Row;") ∈ gW := gW_in (in1 (List.mem_of_getElem? (i := 179) rfl)) (by decide +kernel)
theorem k1_181 : (Cond.laysFinal "BookChecks" "BookChecks" "trial" "LBookChecks$Row;") ∈ gW := gW_in (in1 (List.mem_of_getElem? (i := 181) rfl)) (by decide +kernel)
theorem k1_183 : (Cond.laysFinal "BookChecks" "BookChecks" "watch" "LBookChecks$Watch;") ∈ gW := gW_in (in1 (List.mem_of_getElem? (i := 183) rfl)) (by decide +kernel)
theorem k1_185 : (Cond.laysFinal "BookChecks" "BookChecks" "acts" "LBookChecks$Acts;") ∈ gW := gW_in (in1 (List.mem_of_getElem? (i := 185) rfl)) (by decide +kernel)
theorem k1_187 : (Cond.superclass "BookChecks" "java/lang/Object") ∈ gW := gW_in (in1 (List.mem_of_getElem? (i := 187) rfl)) (by decide +kernel)
theorem k1_188 : (Cond.methodLink "BookChecksLaw" (29 : Nat) ({ cls := "BookChecks", name := "page", desc := "(IIIJ)I" } : MethodName)) ∈ gW := gW_in (in1 (List.mem_of_getElem? (i := 188) rfl)) (by decide +kernel)
theorem k1_189 : (Cond.instanceMethod ({ cls := "BookChecks", name := "page", desc := "(IIIJ)I" } : MethodName)) ∈ gW := gW_in (in1 (List.mem_of_getElem? (i := 189) rfl)) (by decide +kernel)
theorem k1_190 : (Cond.selects "BookChecks" ({ cls := "BookChecks", name := "page", desc := "(IIIJ)I" } : MethodName) ({ cls := "BookChecks", name := "page", desc := "(IIIJ)I" } : MethodName)) ∈ gW := gW_in (in1 (List.mem_of_getElem? (i := 190) rfl)) (by decide +kernel)
theorem k1_191 : (Cond.code ({ cls := "BookChecks", name := "page", desc := "(IIIJ)I" } : MethodName) prog_1_method_2_code (6 : Nat) (Option.some ClassFile.FieldType.int)) ∈ gW := gW_in (in1 (List.mem_of_getElem? (i := 191) rfl)) (by decide +kernel)
theorem k1_192 : (Cond.methodLink "BookChecks" (68 : Nat) ({ cls := "BookChecks$Book", name := "add", desc := "(IIIJ)I" } : MethodName)) ∈ gW := gW_in (in1 (List.mem_of_getElem? (i := 192) rfl)) (by decide +kernel)
theorem k1_193 : (Cond.instanceMethod ({ cls := "BookChecks$Book", name := "add", desc := "(IIIJ)I" } : MethodName)) ∈ gW := gW_in (in1 (List.mem_of_getElem? (i := 193) rfl)) (by decide +kernel)
theorem k1_194 : (Cond.selects "BookChecks$Book" ({ cls := "BookChecks$Book", name := "add", desc := "(IIIJ)I" } : MethodName) ({ cls := "BookChecks$Book", name := "add", desc := "(IIIJ)I" } : MethodName)) ∈ gW := gW_in (in1 (List.mem_of_getElem? (i := 194) rfl)) (by decide +kernel)
theorem k1_195 : (Cond.code ({ cls := "BookChecks$Book", name := "add", desc := "(IIIJ)I" } : MethodName) prog_3_method_2_code (7 : Nat) (Option.some ClassFile.FieldType.int)) ∈ gW := gW_in (in1 (List.mem_of_getElem? (i := 195) rfl)) (by decide +kernel)
theorem k1_197 : (Cond.static ({ cls := "BookChecks", name := "isShip", desc := "(I)Z" } : MethodName)) ∈ gW := gW_in (in1 (List.mem_of_getElem? (i := 197) rfl)) (by decide +kernel)
theorem k1_198 : (Cond.code ({ cls := "BookChecks", name := "isShip", desc := "(I)Z" } : MethodName) prog_1_method_24_code (1 : Nat) (Option.some ClassFile.FieldType.boolean)) ∈ gW := gW_in (in1 (List.mem_of_getElem? (i := 198) rfl)) (by decide +kernel)
theorem k1_200 : (Cond.static ({ cls := "BookChecks", name := "isDay", desc := "(I)Z" } : MethodName)) ∈ gW := gW_in (in1 (List.mem_of_getElem? (i := 200) rfl)) (by decide +kernel)
theorem k1_201 : (Cond.code ({ cls := "BookChecks", name := "isDay", desc := "(I)Z" } : MethodName) prog_1_method_26_code (1 : Nat) (Option.some ClassFile.FieldType.boolean)) ∈ gW := gW_in (in1 (List.mem_of_getElem? (i := 201) rfl)) (by decide +kernel)
theorem k1_202 : (Cond.constant "BookChecks" (174 : Nat) (100000 : Int32)) ∈ gW := gW_in (in1 (List.mem_of_getElem? (i := 202) rfl)) (by decide +kernel)
theorem k1_204 : (Cond.static ({ cls := "BookChecks", name := "isKind", desc := "(I)Z" } : MethodName)) ∈ gW := gW_in (in1 (List.mem_of_getElem? (i := 204) rfl)) (by decide +kernel)
theorem k1_205 : (Cond.code ({ cls := "BookChecks", name := "isKind", desc := "(I)Z" } : MethodName) prog_1_method_25_code (1 : Nat) (Option.some ClassFile.FieldType.boolean)) ∈ gW := gW_in (in1 (List.mem_of_getElem? (i := 205) rfl)) (by decide +kernel)
theorem k1_207 : (Cond.static ({ cls := "BookChecks", name := "isWeighed", desc := "(J)Z" } : MethodName)) ∈ gW := gW_in (in1 (List.mem_of_getElem? (i := 207) rfl)) (by decide +kernel)
theorem k1_208 : (Cond.code ({ cls := "BookChecks", name := "isWeighed", desc := "(J)Z" } : MethodName) prog_1_method_27_code (2 : Nat) (Option.some ClassFile.FieldType.boolean)) ∈ gW := gW_in (in1 (List.mem_of_getElem? (i := 208) rfl)) (by decide +kernel)
theorem k1_209 : (Cond.constantLong "BookChecks" (175 : Nat) (1000000000 : Int64)) ∈ gW := gW_in (in1 (List.mem_of_getElem? (i := 209) rfl)) (by decide +kernel)
theorem k1_210 : (Cond.methodLink "BookChecksLaw" (34 : Nat) ({ cls := "BookChecks", name := "sale", desc := "(IIIJ)I" } : MethodName)) ∈ gW := gW_in (in1 (List.mem_of_getElem? (i := 210) rfl)) (by decide +kernel)
theorem k1_211 : (Cond.instanceMethod ({ cls := "BookChecks", name := "sale", desc := "(IIIJ)I" } : MethodName)) ∈ gW := gW_in (in1 (List.mem_of_getElem? (i := 211) rfl)) (by decide +kernel)
theorem k1_212 : (Cond.selects "BookChecks" ({ cls := "BookChecks", name := "sale", desc := "(IIIJ)I" } : MethodName) ({ cls := "BookChecks", name := "sale", desc := "(IIIJ)I" } : MethodName)) ∈ gW := gW_in (in1 (List.mem_of_getElem? (i := 212) rfl)) (by decide +kernel)
theorem k1_213 : (Cond.code ({ cls := "BookChecks", name := "sale", desc := "(IIIJ)I" } : MethodName) prog_1_method_3_code (6 : Nat) (Option.some ClassFile.FieldType.int)) ∈ gW := gW_in (in1 (List.mem_of_getElem? (i := 213) rfl)) (by decide +kernel)
theorem k1_214 : (Cond.methodLink "BookChecksLaw" (38 : Nat) ({ cls := "BookChecks", name := "run", desc := "()I" } : MethodName)) ∈ gW := gW_in (in1 (List.mem_of_getElem? (i := 214) rfl)) (by decide +kernel)
theorem k1_215 : (Cond.instanceMethod ({ cls := "BookChecks", name := "run", desc := "()I" } : MethodName)) ∈ gW := gW_in (in1 (List.mem_of_getElem? (i := 215) rfl)) (by decide +kernel)
theorem k1_216 : (Cond.selects "BookChecks" ({ cls := "BookChecks", name := "run", desc := "()I" } : MethodName) ({ cls := "BookChecks", name := "run", desc := "()I" } : MethodName)) ∈ gW := gW_in (in1 (List.mem_of_getElem? (i := 216) rfl)) (by decide +kernel)
theorem k1_217 : (Cond.code ({ cls := "BookChecks", name := "run", desc := "()I" } : MethodName) prog_1_method_4_code (1 : Nat) (Option.some ClassFile.FieldType.int)) ∈ gW := gW_in (in1 (List.mem_of_getElem? (i := 217) rfl)) (by decide +kernel)
theorem k1_218 : (Cond.methodLink "BookChecks" (72 : Nat) ({ cls := "BookChecks$Joins", name := "joinAnew", desc := "(LBookChecks$Book;LBookChecks$Book;)I" } : MethodName)) ∈ gW := gW_in (in1 (List.mem_of_getElem? (i := 218) rfl)) (by decide +kernel)
theorem k1_219 : (Cond.instanceMethod ({ cls := "BookChecks$Joins", name := "joinAnew", desc := "(LBookChecks$Book;LBookChecks$Book;)I" } : MethodName)) ∈ gW := gW_in (in1 (List.mem_of_getElem? (i := 219) rfl)) (by decide +kernel)
theorem k1_220 : (Cond.selects "BookChecks$Joins" ({ cls := "BookChecks$Joins", name := "joinAnew", desc := "(LBookChecks$Book;LBookChecks$Book;)I" } : MethodName) ({ cls := "BookChecks$Joins", name := "joinAnew", desc := "(LBookChecks$Book;LBookChecks$Book;)I" } : MethodName)) ∈ gW := gW_in (in1 (List.mem_of_getElem? (i := 220) rfl)) (by decide +kernel)
theorem k1_221 : (Cond.code ({ cls := "BookChecks$Joins", name := "joinAnew", desc := "(LBookChecks$Book;LBookChecks$Book;)I" } : MethodName) prog_4_method_3_code (5 : Nat) (Option.some ClassFile.FieldType.int)) ∈ gW := gW_in (in1 (List.mem_of_getElem? (i := 221) rfl)) (by decide +kernel)
theorem k1_222 : (Cond.methodLink "BookChecks$Joins" (21 : Nat) ({ cls := "BookChecks$Joins", name := "joinBest", desc := "(LBookChecks$Book;LBookChecks$Book;)Z" } : MethodName)) ∈ gW := gW_in (in1 (List.mem_of_getElem? (i := 222) rfl)) (by decide +kernel)
theorem k1_224 : (Cond.instanceMethod ({ cls := "BookChecks$Joins", name := "joinBest", desc := "(LBookChecks$Book;LBookChecks$Book;)Z" } : MethodName)) ∈ gW := gW_in (in1 (List.mem_of_getElem? (i := 224) rfl)) (by decide +kernel)
theorem k1_225 : (Cond.code ({ cls := "BookChecks$Joins", name := "joinBest", desc := "(LBookChecks$Book;LBookChecks$Book;)Z" } : MethodName) prog_4_method_4_code (9 : Nat) (Option.some ClassFile.FieldType.boolean)) ∈ gW := gW_in (in1 (List.mem_of_getElem? (i := 225) rfl)) (by decide +kernel)
theorem k1_226 : (Cond.methodLink "BookChecks$Joins" (31 : Nat) ({ cls := "BookChecks$Book", name := "fitWith", desc := "(ILBookChecks$Book;I)I" } : MethodName)) ∈ gW := gW_in (in1 (List.mem_of_getElem? (i := 226) rfl)) (by decide +kernel)
theorem k1_227 : (Cond.instanceMethod ({ cls := "BookChecks$Book", name := "fitWith", desc := "(ILBookChecks$Book;I)I" } : MethodName)) ∈ gW := gW_in (in1 (List.mem_of_getElem? (i := 227) rfl)) (by decide +kernel)
theorem k1_228 : (Cond.selects "BookChecks$Book" ({ cls := "BookChecks$Book", name := "fitWith", desc := "(ILBookChecks$Book;I)I" } : MethodName) ({ cls := "BookChecks$Book", name := "fitWith", desc := "(ILBookChecks$Book;I)I" } : MethodName)) ∈ gW := gW_in (in1 (List.mem_of_getElem? (i := 228) rfl)) (by decide +kernel)
theorem k1_229 : (Cond.code ({ cls := "BookChecks$Book", name := "fitWith", desc := "(ILBookChecks$Book;I)I" } : MethodName) prog_3_method_6_code (6 : Nat) (Option.some ClassFile.FieldType.int)) ∈ gW := gW_in (in1 (List.mem_of_getElem? (i := 229) rfl)) (by decide +kernel)
theorem k1_230 : (Cond.methodLink "BookChecks$Book" (43 : Nat) ({ cls := "BookChecks$Book", name := "has", desc := "(I)Z" } : MethodName)) ∈ gW := gW_in (in1 (List.mem_of_getElem? (i := 230) rfl)) (by decide +kernel)
theorem k1_231 : (Cond.instanceMethod ({ cls := "BookChecks$Book", name := "has", desc := "(I)Z" } : MethodName)) ∈ gW := gW_in (in1 (List.mem_of_getElem? (i := 231) rfl)) (by decide +kernel)
theorem k1_232 : (Cond.selects "BookChecks$Book" ({ cls := "BookChecks$Book", name := "has", desc := "(I)Z" } : MethodName) ({ cls := "BookChecks$Book", name := "has", desc := "(I)Z" } : MethodName)) ∈ gW := gW_in (in1 (List.mem_of_getElem? (i := 232) rfl)) (by decide +kernel)
theorem k1_233 : (Cond.code ({ cls := "BookChecks$Book", name := "has", desc := "(I)Z" } : MethodName) prog_3_method_3_code (2 : Nat) (Option.some ClassFile.FieldType.boolean)) ∈ gW := gW_in (in1 (List.mem_of_getElem? (i := 233) rfl)) (by decide +kernel)
theorem k1_234 : (Cond.methodLink "BookChecks$Book" (46 : Nat) ({ cls := "BookChecks$Book", name := "lostByGrams", desc := "(JJ)I" } : MethodName)) ∈ gW := gW_in (in1 (List.mem_of_getElem? (i := 234) rfl)) (by decide +kernel)
theorem k1_235 : (Cond.static ({ cls := "BookChecks$Book", name := "lostByGrams", desc := "(JJ)I" } : MethodName)) ∈ gW := gW_in (in1 (List.mem_of_getElem? (i := 235) rfl)) (by decide +kernel)
theorem k1_236 : (Cond.code ({ cls := "BookChecks$Book", name := "lostByGrams", desc := "(JJ)I" } : MethodName) prog_3_method_7_code (6 : Nat) (Option.some ClassFile.FieldType.int)) ∈ gW := gW_in (in1 (List.mem_of_getElem? (i := 236) rfl)) (by decide +kernel)
theorem k1_237 : (Cond.methodLink "BookChecks$Book" (56 : Nat) ({ cls := "java/lang/Math", name := "max", desc := "(JJ)J" } : MethodName)) ∈ gW := gW_in (in1 (List.mem_of_getElem? (i := 237) rfl)) (by decide +kernel)
theorem k1_238 : (Cond.static ({ cls := "java/lang/Math", name := "max", desc := "(JJ)J" } : MethodName)) ∈ gW := gW_in (in1 (List.mem_of_getElem? (i := 238) rfl)) (by decide +kernel)
theorem k1_239 : (Cond.code ({ cls := "java/lang/Math", name := "max", desc := "(JJ)J" } : MethodName) prog_14_method_66_code (4 : Nat) (Option.some ClassFile.FieldType.long)) ∈ gW := gW_in (in1 (List.mem_of_getElem? (i := 239) rfl)) (by decide +kernel)
theorem k2_0 : (Cond.constantLong "BookChecks$Book" (59 : Nat) (900 : Int64)) ∈ gW := gW_in (in2 (List.mem_of_getElem? (i := 0) rfl)) (by decide +kernel)
theorem k2_1 : (Cond.methodLink "BookChecks$Book" (61 : Nat) ({ cls := "java/lang/Math", name := "abs", desc := "(J)J" } : MethodName)) ∈ gW := gW_in (in2 (List.mem_of_getElem? (i := 1) rfl)) (by decide +kernel)
theorem k2_2 : (Cond.static ({ cls := "java/lang/Math", name := "abs", desc := "(J)J" } : MethodName)) ∈ gW := gW_in (in2 (List.mem_of_getElem? (i := 2) rfl)) (by decide +kernel)
theorem k2_3 : (Cond.code ({ cls := "java/lang/Math", name := "abs", desc := "(J)J" } : MethodName) prog_14_method_61_code (2 : Nat) (Option.some ClassFile.FieldType.long)) ∈ gW := gW_in (in2 (List.mem_of_getElem? (i := 3) rfl)) (by decide +kernel)
theorem k2_4 : (Cond.methodLink "BookChecks$Book" (50 : Nat) ({ cls := "java/lang/Math", name := "max", desc := "(II)I" } : MethodName)) ∈ gW := gW_in (in2 (List.mem_of_getElem? (i := 4) rfl)) (by decide +kernel)
theorem k2_5 : (Cond.static ({ cls := "java/lang/Math", name := "max", desc := "(II)I" } : MethodName)) ∈ gW := gW_in (in2 (List.mem_of_getElem? (i := 5) rfl)) (by decide +kernel)
theorem k2_6 : (Cond.code ({ cls := "java/lang/Math", name := "max", desc := "(II)I" } : MethodName) prog_14_method_65_code (2 : Nat) (Option.some ClassFile.FieldType.int)) ∈ gW := gW_in (in2 (List.mem_of_getElem? (i := 6) rfl)) (by decide +kernel)
theorem k2_7 : (Cond.methodLink "BookChecksLaw" (43 : Nat) ({ cls := "BookChecks", name := "pair", desc := "(I)I" } : MethodName)) ∈ gW := gW_in (in2 (List.mem_of_getElem? (i := 7) rfl)) (by decide +kernel)
theorem k2_8 : (Cond.instanceMethod ({ cls := "BookChecks", name := "pair", desc := "(I)I" } : MethodName)) ∈ gW := gW_in (in2 (List.mem_of_getElem? (i := 8) rfl)) (by decide +kernel)
theorem k2_9 : (Cond.selects "BookChecks" ({ cls := "BookChecks", name := "pair", desc := "(I)I" } : MethodName) ({ cls := "BookChecks", name := "pair", desc := "(I)I" } : MethodName)) ∈ gW := gW_in (in2 (List.mem_of_getElem? (i := 9) rfl)) (by decide +kernel)
theorem k2_10 : (Cond.code ({ cls := "BookChecks", name := "pair", desc := "(I)I" } : MethodName) prog_1_method_5_code (2 : Nat) (Option.some ClassFile.FieldType.int)) ∈ gW := gW_in (in2 (List.mem_of_getElem? (i := 10) rfl)) (by decide +kernel)
theorem k2_11 : (Cond.methodLink "BookChecks" (76 : Nat) ({ cls := "BookChecks$Joins", name := "saleOf", desc := "(I)I" } : MethodName)) ∈ gW := gW_in (in2 (List.mem_of_getElem? (i := 11) rfl)) (by decide +kernel)
theorem k2_12 : (Cond.instanceMethod ({ cls := "BookChecks$Joins", name := "saleOf", desc := "(I)I" } : MethodName)) ∈ gW := gW_in (in2 (List.mem_of_getElem? (i := 12) rfl)) (by decide +kernel)
theorem k2_13 : (Cond.selects "BookChecks$Joins" ({ cls := "BookChecks$Joins", name := "saleOf", desc := "(I)I" } : MethodName) ({ cls := "BookChecks$Joins", name := "saleOf", desc := "(I)I" } : MethodName)) ∈ gW := gW_in (in2 (List.mem_of_getElem? (i := 13) rfl)) (by decide +kernel)
theorem k2_14 : (Cond.code ({ cls := "BookChecks$Joins", name := "saleOf", desc := "(I)I" } : MethodName) prog_4_method_5_code (2 : Nat) (Option.some ClassFile.FieldType.int)) ∈ gW := gW_in (in2 (List.mem_of_getElem? (i := 14) rfl)) (by decide +kernel)
theorem k2_15 : (Cond.methodLink "BookChecksLaw" (48 : Nat) ({ cls := "BookChecks", name := "points", desc := "(I)I" } : MethodName)) ∈ gW := gW_in (in2 (List.mem_of_getElem? (i := 15) rfl)) (by decide +kernel)
theorem k2_16 : (Cond.instanceMethod ({ cls := "BookChecks", name := "points", desc := "(I)I" } : MethodName)) ∈ gW := gW_in (in2 (List.mem_of_getElem? (i := 16) rfl)) (by decide +kernel)
theorem k2_17 : (Cond.selects "BookChecks" ({ cls := "BookChecks", name := "points", desc := "(I)I" } : MethodName) ({ cls := "BookChecks", name := "points", desc := "(I)I" } : MethodName)) ∈ gW := gW_in (in2 (List.mem_of_getElem? (i := 17) rfl)) (by decide +kernel)
theorem k2_18 : (Cond.code ({ cls := "BookChecks", name := "points", desc := "(I)I" } : MethodName) prog_1_method_6_code (3 : Nat) (Option.some ClassFile.FieldType.int)) ∈ gW := gW_in (in2 (List.mem_of_getElem? (i := 18) rfl)) (by decide +kernel)
theorem k2_19 : (Cond.methodLink "BookChecks" (80 : Nat) ({ cls := "BookChecks$Book", name := "fitWith", desc := "(ILBookChecks$Book;I)I" } : MethodName)) ∈ gW := gW_in (in2 (List.mem_of_getElem? (i := 19) rfl)) (by decide +kernel)
theorem k2_20 : (Cond.methodLink "BookChecksLaw" (52 : Nat) ({ cls := "BookChecks", name := "differs", desc := "(I)J" } : MethodName)) ∈ gW := gW_in (in2 (List.mem_of_getElem? (i := 20) rfl)) (by decide +kernel)
theorem k2_21 : (Cond.instanceMethod ({ cls := "BookChecks", name := "differs", desc := "(I)J" } : MethodName)) ∈ gW := gW_in (in2 (List.mem_of_getElem? (i := 21) rfl)) (by decide +kernel)
theorem k2_22 : (Cond.selects "BookChecks" ({ cls := "BookChecks", name := "differs", desc := "(I)J" } : MethodName) ({ cls := "BookChecks", name := "differs", desc := "(I)J" } : MethodName)) ∈ gW := gW_in (in2 (List.mem_of_getElem? (i := 22) rfl)) (by decide +kernel)
theorem k2_23 : (Cond.code ({ cls := "BookChecks", name := "differs", desc := "(I)J" } : MethodName) prog_1_method_7_code (3 : Nat) (Option.some ClassFile.FieldType.long)) ∈ gW := gW_in (in2 (List.mem_of_getElem? (i := 23) rfl)) (by decide +kernel)
theorem k2_24 : (Cond.methodLink "BookChecks" (84 : Nat) ({ cls := "BookChecks$Book", name := "gramsOf", desc := "(I)J" } : MethodName)) ∈ gW := gW_in (in2 (List.mem_of_getElem? (i := 24) rfl)) (by decide +kernel)
theorem k2_25 : (Cond.instanceMethod ({ cls := "BookChecks$Book", name := "gramsOf", desc := "(I)J" } : MethodName)) ∈ gW := gW_in (in2 (List.mem_of_getElem? (i := 25) rfl)) (by decide +kernel)
theorem k2_26 : (Cond.selects "BookChecks$Book" ({ cls := "BookChecks$Book", name := "gramsOf", desc := "(I)J" } : MethodName) ({ cls := "BookChecks$Book", name := "gramsOf", desc := "(I)J" } : MethodName)) ∈ gW := gW_in (in2 (List.mem_of_getElem? (i := 26) rfl)) (by decide +kernel)
theorem k2_27 : (Cond.code ({ cls := "BookChecks$Book", name := "gramsOf", desc := "(I)J" } : MethodName) prog_3_method_4_code (2 : Nat) (Option.some ClassFile.FieldType.long)) ∈ gW := gW_in (in2 (List.mem_of_getElem? (i := 27) rfl)) (by decide +kernel)
theorem k2_28 : (Cond.methodLink "BookChecksLaw" (56 : Nat) ({ cls := "BookChecks", name := "waits", desc := "(II)I" } : MethodName)) ∈ gW := gW_in (in2 (List.mem_of_getElem? (i := 28) rfl)) (by decide +kernel)
theorem k2_29 : (Cond.instanceMethod ({ cls := "BookChecks", name := "waits", desc := "(II)I" } : MethodName)) ∈ gW := gW_in (in2 (List.mem_of_getElem? (i := 29) rfl)) (by decide +kernel)
theorem k2_30 : (Cond.selects "BookChecks" ({ cls := "BookChecks", name := "waits", desc := "(II)I" } : MethodName) ({ cls := "BookChecks", name := "waits", desc := "(II)I" } : MethodName)) ∈ gW := gW_in (in2 (List.mem_of_getElem? (i := 30) rfl)) (by decide +kernel)
theorem k2_31 : (Cond.code ({ cls := "BookChecks", name := "waits", desc := "(II)I" } : MethodName) prog_1_method_8_code (3 : Nat) (Option.some ClassFile.FieldType.int)) ∈ gW := gW_in (in2 (List.mem_of_getElem? (i := 31) rfl)) (by decide +kernel)
theorem k2_32 : (Cond.methodLink "BookChecks" (88 : Nat) ({ cls := "BookChecks$Joins", name := "waiting", desc := "(LBookChecks$Book;II)I" } : MethodName)) ∈ gW := gW_in (in2 (List.mem_of_getElem? (i := 32) rfl)) (by decide +kernel)
theorem k2_33 : (Cond.instanceMethod ({ cls := "BookChecks$Joins", name := "waiting", desc := "(LBookChecks$Book;II)I" } : MethodName)) ∈ gW := gW_in (in2 (List.mem_of_getElem? (i := 33) rfl)) (by decide +kernel)
theorem k2_34 : (Cond.selects "BookChecks$Joins" ({ cls := "BookChecks$Joins", name := "waiting", desc := "(LBookChecks$Book;II)I" } : MethodName) ({ cls := "BookChecks$Joins", name := "waiting", desc := "(LBookChecks$Book;II)I" } : MethodName)) ∈ gW := gW_in (in2 (List.mem_of_getElem? (i := 34) rfl)) (by decide +kernel)
theorem k2_35 : (Cond.code ({ cls := "BookChecks$Joins", name := "waiting", desc := "(LBookChecks$Book;II)I" } : MethodName) prog_4_method_6_code (8 : Nat) (Option.some ClassFile.FieldType.int)) ∈ gW := gW_in (in2 (List.mem_of_getElem? (i := 35) rfl)) (by decide +kernel)
theorem k2_36 : (Cond.constantLong "BookChecks$Joins" (38 : Nat) (5 : Int64)) ∈ gW := gW_in (in2 (List.mem_of_getElem? (i := 36) rfl)) (by decide +kernel)
theorem k2_37 : (Cond.methodLink "BookChecksLaw" (68 : Nat) ({ cls := "BookChecks", name := "balance", desc := "(I)J" } : MethodName)) ∈ gW := gW_in (in2 (List.mem_of_getElem? (i := 37) rfl)) (by decide +kernel)
theorem k2_38 : (Cond.instanceMethod ({ cls := "BookChecks", name := "balance", desc := "(I)J" } : MethodName)) ∈ gW := gW_in (in2 (List.mem_of_getElem? (i := 38) rfl)) (by decide +kernel)
theorem k2_39 : (Cond.selects "BookChecks" ({ cls := "BookChecks", name := "balance", desc := "(I)J" } : MethodName) ({ cls := "BookChecks", name := "balance", desc := "(I)J" } : MethodName)) ∈ gW := gW_in (in2 (List.mem_of_getElem? (i := 39) rfl)) (by decide +kernel)
theorem k2_40 : (Cond.code ({ cls := "BookChecks", name := "balance", desc := "(I)J" } : MethodName) prog_1_method_10_code (2 : Nat) (Option.some ClassFile.FieldType.long)) ∈ gW := gW_in (in2 (List.mem_of_getElem? (i := 40) rfl)) (by decide +kernel)
theorem k2_41 : (Cond.methodLink "BookChecks" (103 : Nat) ({ cls := "BookChecks$Book", name := "gramsOfKind", desc := "(I)J" } : MethodName)) ∈ gW := gW_in (in2 (List.mem_of_getElem? (i := 41) rfl)) (by decide +kernel)
theorem k2_42 : (Cond.instanceMethod ({ cls := "BookChecks$Book", name := "gramsOfKind", desc := "(I)J" } : MethodName)) ∈ gW := gW_in (in2 (List.mem_of_getElem? (i := 42) rfl)) (by decide +kernel)
theorem k2_43 : (Cond.selects "BookChecks$Book" ({ cls := "BookChecks$Book", name := "gramsOfKind", desc := "(I)J" } : MethodName) ({ cls := "BookChecks$Book", name := "gramsOfKind", desc := "(I)J" } : MethodName)) ∈ gW := gW_in (in2 (List.mem_of_getElem? (i := 43) rfl)) (by decide +kernel)
theorem k2_44 : (Cond.code ({ cls := "BookChecks$Book", name := "gramsOfKind", desc := "(I)J" } : MethodName) prog_3_method_5_code (5 : Nat) (Option.some ClassFile.FieldType.long)) ∈ gW := gW_in (in2 (List.mem_of_getElem? (i := 44) rfl)) (by decide +kernel)
theorem k2_45 : (Cond.methodLink "BookChecksLaw" (72 : Nat) ({ cls := "BookChecks", name := "plant", desc := "(JI)I" } : MethodName)) ∈ gW := gW_in (in2 (List.mem_of_getElem? (i := 45) rfl)) (by decide +kernel)
theorem k2_46 : (Cond.instanceMethod ({ cls := "BookChecks", name := "plant", desc := "(JI)I" } : MethodName)) ∈ gW := gW_in (in2 (List.mem_of_getElem? (i := 46) rfl)) (by decide +kernel)
theorem k2_47 : (Cond.selects "BookChecks" ({ cls := "BookChecks", name := "plant", desc := "(JI)I" } : MethodName) ({ cls := "BookChecks", name := "plant", desc := "(JI)I" } : MethodName)) ∈ gW := gW_in (in2 (List.mem_of_getElem? (i := 47) rfl)) (by decide +kernel)
theorem k2_48 : (Cond.code ({ cls := "BookChecks", name := "plant", desc := "(JI)I" } : MethodName) prog_1_method_11_code (4 : Nat) (Option.some ClassFile.FieldType.int)) ∈ gW := gW_in (in2 (List.mem_of_getElem? (i := 48) rfl)) (by decide +kernel)
theorem k2_49 : (Cond.methodLink "BookChecks" (106 : Nat) ({ cls := "BookChecks$Plants", name := "add", desc := "(JI)I" } : MethodName)) ∈ gW := gW_in (in2 (List.mem_of_getElem? (i := 49) rfl)) (by decide +kernel)
theorem k2_50 : (Cond.instanceMethod ({ cls := "BookChecks$Plants", name := "add", desc := "(JI)I" } : MethodName)) ∈ gW := gW_in (in2 (List.mem_of_getElem? (i := 50) rfl)) (by decide +kernel)
theorem k2_51 : (Cond.selects "BookChecks$Plants" ({ cls := "BookChecks$Plants", name := "add", desc := "(JI)I" } : MethodName) ({ cls := "BookChecks$Plants", name := "add", desc := "(JI)I" } : MethodName)) ∈ gW := gW_in (in2 (List.mem_of_getElem? (i := 51) rfl)) (by decide +kernel)
theorem k2_52 : (Cond.code ({ cls := "BookChecks$Plants", name := "add", desc := "(JI)I" } : MethodName) prog_5_method_3_code (5 : Nat) (Option.some ClassFile.FieldType.int)) ∈ gW := gW_in (in2 (List.mem_of_getElem? (i := 52) rfl)) (by decide +kernel)
theorem k2_53 : (Cond.constantLong "BookChecks$Plants" (32 : Nat) (1000000000 : Int64)) ∈ gW := gW_in (in2 (List.mem_of_getElem? (i := 53) rfl)) (by decide +kernel)
theorem k2_55 : (Cond.methodLink "BookChecksLaw" (77 : Nat) ({ cls := "BookChecks", name := "out", desc := "(IIJ)I" } : MethodName)) ∈ gW := gW_in (in2 (List.mem_of_getElem? (i := 55) rfl)) (by decide +kernel)
theorem k2_56 : (Cond.instanceMethod ({ cls := "BookChecks", name := "out", desc := "(IIJ)I" } : MethodName)) ∈ gW := gW_in (in2 (List.mem_of_getElem? (i := 56) rfl)) (by decide +kernel)
theorem k2_57 : (Cond.selects "BookChecks" ({ cls := "BookChecks", name := "out", desc := "(IIJ)I" } : MethodName) ({ cls := "BookChecks", name := "out", desc := "(IIJ)I" } : MethodName)) ∈ gW := gW_in (in2 (List.mem_of_getElem? (i := 57) rfl)) (by decide +kernel)
theorem k2_58 : (Cond.code ({ cls := "BookChecks", name := "out", desc := "(IIJ)I" } : MethodName) prog_1_method_12_code (5 : Nat) (Option.some ClassFile.FieldType.int)) ∈ gW := gW_in (in2 (List.mem_of_getElem? (i := 58) rfl)) (by decide +kernel)
theorem k2_59 : (Cond.methodLink "BookChecks" (109 : Nat) ({ cls := "BookChecks$Plants", name := "addOut", desc := "(IIJ)I" } : MethodName)) ∈ gW := gW_in (in2 (List.mem_of_getElem? (i := 59) rfl)) (by decide +kernel)
theorem k2_60 : (Cond.instanceMethod ({ cls := "BookChecks$Plants", name := "addOut", desc := "(IIJ)I" } : MethodName)) ∈ gW := gW_in (in2 (List.mem_of_getElem? (i := 60) rfl)) (by decide +kernel)
theorem k2_61 : (Cond.selects "BookChecks$Plants" ({ cls := "BookChecks$Plants", name := "addOut", desc := "(IIJ)I" } : MethodName) ({ cls := "BookChecks$Plants", name := "addOut", desc := "(IIJ)I" } : MethodName)) ∈ gW := gW_in (in2 (List.mem_of_getElem? (i := 61) rfl)) (by decide +kernel)
theorem k2_62 : (Cond.code ({ cls := "BookChecks$Plants", name := "addOut", desc := "(IIJ)I" } : MethodName) prog_5_method_4_code (6 : Nat) (Option.some ClassFile.FieldType.int)) ∈ gW := gW_in (in2 (List.mem_of_getElem? (i := 62) rfl)) (by decide +kernel)
theorem k2_63 : (Cond.methodLink "BookChecks$Plants" (38 : Nat) ({ cls := "BookChecks$Plants", name := "has", desc := "(I)Z" } : MethodName)) ∈ gW := gW_in (in2 (List.mem_of_getElem? (i := 63) rfl)) (by decide +kernel)
theorem k2_64 : (Cond.instanceMethod ({ cls := "BookChecks$Plants", name := "has", desc := "(I)Z" } : MethodName)) ∈ gW := gW_in (in2 (List.mem_of_getElem? (i := 64) rfl)) (by decide +kernel)
theorem k2_65 : (Cond.selects "BookChecks$Plants" ({ cls := "BookChecks$Plants", name := "has", desc := "(I)Z" } : MethodName) ({ cls := "BookChecks$Plants", name := "has", desc := "(I)Z" } : MethodName)) ∈ gW := gW_in (in2 (List.mem_of_getElem? (i := 65) rfl)) (by decide +kernel)
theorem k2_66 : (Cond.code ({ cls := "BookChecks$Plants", name := "has", desc := "(I)Z" } : MethodName) prog_5_method_2_code (2 : Nat) (Option.some ClassFile.FieldType.boolean)) ∈ gW := gW_in (in2 (List.mem_of_getElem? (i := 66) rfl)) (by decide +kernel)
theorem k2_68 : (Cond.methodLink "BookChecksLaw" (82 : Nat) ({ cls := "BookChecks", name := "lacks", desc := "(I)J" } : MethodName)) ∈ gW := gW_in (in2 (List.mem_of_getElem? (i := 68) rfl)) (by decide +kernel)
theorem k2_69 : (Cond.instanceMethod ({ cls := "BookChecks", name := "lacks", desc := "(I)J" } : MethodName)) ∈ gW := gW_in (in2 (List.mem_of_getElem? (i := 69) rfl)) (by decide +kernel)
theorem k2_70 : (Cond.selects "BookChecks" ({ cls := "BookChecks", name := "lacks", desc := "(I)J" } : MethodName) ({ cls := "BookChecks", name := "lacks", desc := "(I)J" } : MethodName)) ∈ gW := gW_in (in2 (List.mem_of_getElem? (i := 70) rfl)) (by decide +kernel)
theorem k2_71 : (Cond.code ({ cls := "BookChecks", name := "lacks", desc := "(I)J" } : MethodName) prog_1_method_13_code (2 : Nat) (Option.some ClassFile.FieldType.long)) ∈ gW := gW_in (in2 (List.mem_of_getElem? (i := 71) rfl)) (by decide +kernel)
theorem k2_72 : (Cond.methodLink "BookChecks" (113 : Nat) ({ cls := "BookChecks$Plants", name := "has", desc := "(I)Z" } : MethodName)) ∈ gW := gW_in (in2 (List.mem_of_getElem? (i := 72) rfl)) (by decide +kernel)
theorem k2_73 : (Cond.methodLink "BookChecks" (114 : Nat) ({ cls := "BookChecks$Plants", name := "lackOf", desc := "(I)J" } : MethodName)) ∈ gW := gW_in (in2 (List.mem_of_getElem? (i := 73) rfl)) (by decide +kernel)
theorem k2_74 : (Cond.instanceMethod ({ cls := "BookChecks$Plants", name := "lackOf", desc := "(I)J" } : MethodName)) ∈ gW := gW_in (in2 (List.mem_of_getElem? (i := 74) rfl)) (by decide +kernel)
theorem k2_75 : (Cond.selects "BookChecks$Plants" ({ cls := "BookChecks$Plants", name := "lackOf", desc := "(I)J" } : MethodName) ({ cls := "BookChecks$Plants", name := "lackOf", desc := "(I)J" } : MethodName)) ∈ gW := gW_in (in2 (List.mem_of_getElem? (i := 75) rfl)) (by decide +kernel)
theorem k2_76 : (Cond.code ({ cls := "BookChecks$Plants", name := "lackOf", desc := "(I)J" } : MethodName) prog_5_method_5_code (2 : Nat) (Option.some ClassFile.FieldType.long)) ∈ gW := gW_in (in2 (List.mem_of_getElem? (i := 76) rfl)) (by decide +kernel)
theorem k2_77 : (Cond.methodLink "BookChecks$Plants" (45 : Nat) ({ cls := "BookChecks$Plants", name := "ownKind", desc := "(I)I" } : MethodName)) ∈ gW := gW_in (in2 (List.mem_of_getElem? (i := 77) rfl)) (by decide +kernel)
theorem k2_79 : (Cond.instanceMethod ({ cls := "BookChecks$Plants", name := "ownKind", desc := "(I)I" } : MethodName)) ∈ gW := gW_in (in2 (List.mem_of_getElem? (i := 79) rfl)) (by decide +kernel)
theorem k2_80 : (Cond.code ({ cls := "BookChecks$Plants", name := "ownKind", desc := "(I)I" } : MethodName) prog_5_method_7_code (4 : Nat) (Option.some ClassFile.FieldType.int)) ∈ gW := gW_in (in2 (List.mem_of_getElem? (i := 80) rfl)) (by decide +kernel)
theorem k2_81 : (Cond.methodLink "BookChecks$Plants" (49 : Nat) ({ cls := "BookChecks$Plants", name := "gramsOfSet", desc := "(II)J" } : MethodName)) ∈ gW := gW_in (in2 (List.mem_of_getElem? (i := 81) rfl)) (by decide +kernel)
theorem k2_83 : (Cond.instanceMethod ({ cls := "BookChecks$Plants", name := "gramsOfSet", desc := "(II)J" } : MethodName)) ∈ gW := gW_in (in2 (List.mem_of_getElem? (i := 83) rfl)) (by decide +kernel)
theorem k2_84 : (Cond.code ({ cls := "BookChecks$Plants", name := "gramsOfSet", desc := "(II)J" } : MethodName) prog_5_method_8_code (6 : Nat) (Option.some ClassFile.FieldType.long)) ∈ gW := gW_in (in2 (List.mem_of_getElem? (i := 84) rfl)) (by decide +kernel)
theorem k2_85 : (Cond.methodLink "BookChecks$Plants" (53 : Nat) ({ cls := "java/lang/Math", name := "max", desc := "(JJ)J" } : MethodName)) ∈ gW := gW_in (in2 (List.mem_of_getElem? (i := 85) rfl)) (by decide +kernel)
theorem k2_86 : (Cond.constantLong "BookChecks" (117 : Nat) (-1 : Int64)) ∈ gW := gW_in (in2 (List.mem_of_getElem? (i := 86) rfl)) (by decide +kernel)
theorem k2_87 : (Cond.methodLink "BookChecksLaw" (86 : Nat) ({ cls := "BookChecks", name := "nowhere", desc := "(II)I" } : MethodName)) ∈ gW := gW_in (in2 (List.mem_of_getElem? (i := 87) rfl)) (by decide +kernel)
theorem k2_88 : (Cond.instanceMethod ({ cls := "BookChecks", name := "nowhere", desc := "(II)I" } : MethodName)) ∈ gW := gW_in (in2 (List.mem_of_getElem? (i := 88) rfl)) (by decide +kernel)
theorem k2_89 : (Cond.selects "BookChecks" ({ cls := "BookChecks", name := "nowhere", desc := "(II)I" } : MethodName) ({ cls := "BookChecks", name := "nowhere", desc := "(II)I" } : MethodName)) ∈ gW := gW_in (in2 (List.mem_of_getElem? (i := 89) rfl)) (by decide +kernel)
theorem k2_90 : (Cond.code ({ cls := "BookChecks", name := "nowhere", desc := "(II)I" } : MethodName) prog_1_method_14_code (3 : Nat) (Option.some ClassFile.FieldType.int)) ∈ gW := gW_in (in2 (List.mem_of_getElem? (i := 90) rfl)) (by decide +kernel)
theorem k2_91 : (Cond.methodLink "BookChecks" (119 : Nat) ({ cls := "BookChecks$Plants", name := "leastSet", desc := "(I)I" } : MethodName)) ∈ gW := gW_in (in2 (List.mem_of_getElem? (i := 91) rfl)) (by decide +kernel)
theorem k2_92 : (Cond.instanceMethod ({ cls := "BookChecks$Plants", name := "leastSet", desc := "(I)I" } : MethodName)) ∈ gW := gW_in (in2 (List.mem_of_getElem? (i := 92) rfl)) (by decide +kernel)
theorem k2_93 : (Cond.selects "BookChecks$Plants" ({ cls := "BookChecks$Plants", name := "leastSet", desc := "(I)I" } : MethodName) ({ cls := "BookChecks$Plants", name := "leastSet", desc := "(I)I" } : MethodName)) ∈ gW := gW_in (in2 (List.mem_of_getElem? (i := 93) rfl)) (by decide +kernel)
theorem k2_94 : (Cond.code ({ cls := "BookChecks$Plants", name := "leastSet", desc := "(I)I" } : MethodName) prog_5_method_6_code (8 : Nat) (Option.some ClassFile.FieldType.int)) ∈ gW := gW_in (in2 (List.mem_of_getElem? (i := 94) rfl)) (by decide +kernel)
theorem k2_95 : (Cond.methodLink "BookChecks$Plants" (59 : Nat) ({ cls := "BookChecks$Plants", name := "lackOf", desc := "(I)J" } : MethodName)) ∈ gW := gW_in (in2 (List.mem_of_getElem? (i := 95) rfl)) (by decide +kernel)
theorem k2_96 : (Cond.methodLink "BookChecks$Plants" (63 : Nat) ({ cls := "BookChecks$Plants", name := "isBefore", desc := "(II)Z" } : MethodName)) ∈ gW := gW_in (in2 (List.mem_of_getElem? (i := 96) rfl)) (by decide +kernel)
theorem k2_97 : (Cond.static ({ cls := "BookChecks$Plants", name := "isBefore", desc := "(II)Z" } : MethodName)) ∈ gW := gW_in (in2 (List.mem_of_getElem? (i := 97) rfl)) (by decide +kernel)
theorem k2_98 : (Cond.code ({ cls := "BookChecks$Plants", name := "isBefore", desc := "(II)Z" } : MethodName) prog_5_method_9_code (5 : Nat) (Option.some ClassFile.FieldType.boolean)) ∈ gW := gW_in (in2 (List.mem_of_getElem? (i := 98) rfl)) (by decide +kernel)
theorem k2_99 : (Cond.methodLink "BookChecks$Plants" (67 : Nat) ({ cls := "java/lang/Integer", name := "bitCount", desc := "(I)I" } : MethodName)) ∈ gW := gW_in (in2 (List.mem_of_getElem? (i := 99) rfl)) (by decide +kernel)
theorem k2_100 : (Cond.static ({ cls := "java/lang/Integer", name := "bitCount", desc := "(I)I" } : MethodName)) ∈ gW := gW_in (in2 (List.mem_of_getElem? (i := 100) rfl)) (by decide +kernel)
theorem k2_101 : (Cond.code ({ cls := "java/lang/Integer", name := "bitCount", desc := "(I)I" } : MethodName) prog_13_method_49_code (1 : Nat) (Option.some ClassFile.FieldType.int)) ∈ gW := gW_in (in2 (List.mem_of_getElem? (i := 101) rfl)) (by decide +kernel)
theorem k2_102 : (Cond.constant "java/lang/Integer" (265 : Nat) (1431655765 : Int32)) ∈ gW := gW_in (in2 (List.mem_of_getElem? (i := 102) rfl)) (by decide +kernel)
theorem k2_103 : (Cond.constant "java/lang/Integer" (266 : Nat) (858993459 : Int32)) ∈ gW := gW_in (in2 (List.mem_of_getElem? (i := 103) rfl)) (by decide +kernel)
theorem k2_104 : (Cond.constant "java/lang/Integer" (267 : Nat) (252645135 : Int32)) ∈ gW := gW_in (in2 (List.mem_of_getElem? (i := 104) rfl)) (by decide +kernel)
theorem k2_105 : (Cond.methodLink "BookChecks" (122 : Nat) ({ cls := "BookChecks", name := "bitAt", desc := "(II)I" } : MethodName)) ∈ gW := gW_in (in2 (List.mem_of_getElem? (i := 105) rfl)) (by decide +kernel)
theorem k2_106 : (Cond.static ({ cls := "BookChecks", name := "bitAt", desc := "(II)I" } : MethodName)) ∈ gW := gW_in (in2 (List.mem_of_getElem? (i := 106) rfl)) (by decide +kernel)
theorem k2_107 : (Cond.code ({ cls := "BookChecks", name := "bitAt", desc := "(II)I" } : MethodName) prog_1_method_28_code (4 : Nat) (Option.some ClassFile.FieldType.int)) ∈ gW := gW_in (in2 (List.mem_of_getElem? (i := 107) rfl)) (by decide +kernel)
theorem k2_108 : (Cond.methodLink "BookChecksLaw" (90 : Nat) ({ cls := "BookChecks", name := "risk", desc := "(III)Z" } : MethodName)) ∈ gW := gW_in (in2 (List.mem_of_getElem? (i := 108) rfl)) (by decide +kernel)
theorem k2_109 : (Cond.instanceMethod ({ cls := "BookChecks", name := "risk", desc := "(III)Z" } : MethodName)) ∈ gW := gW_in (in2 (List.mem_of_getElem? (i := 109) rfl)) (by decide +kernel)
theorem k2_110 : (Cond.selects "BookChecks" ({ cls := "BookChecks", name := "risk", desc := "(III)Z" } : MethodName) ({ cls := "BookChecks", name := "risk", desc := "(III)Z" } : MethodName)) ∈ gW := gW_in (in2 (List.mem_of_getElem? (i := 110) rfl)) (by decide +kernel)
theorem k2_111 : (Cond.code ({ cls := "BookChecks", name := "risk", desc := "(III)Z" } : MethodName) prog_1_method_15_code (4 : Nat) (Option.some ClassFile.FieldType.boolean)) ∈ gW := gW_in (in2 (List.mem_of_getElem? (i := 111) rfl)) (by decide +kernel)
theorem k2_112 : (Cond.methodLink "BookChecks" (126 : Nat) ({ cls := "BookChecks$Risks", name := "set", desc := "(III)Z" } : MethodName)) ∈ gW := gW_in (in2 (List.mem_of_getElem? (i := 112) rfl)) (by decide +kernel)
theorem k2_113 : (Cond.instanceMethod ({ cls := "BookChecks$Risks", name := "set", desc := "(III)Z" } : MethodName)) ∈ gW := gW_in (in2 (List.mem_of_getElem? (i := 113) rfl)) (by decide +kernel)
theorem k2_114 : (Cond.selects "BookChecks$Risks" ({ cls := "BookChecks$Risks", name := "set", desc := "(III)Z" } : MethodName) ({ cls := "BookChecks$Risks", name := "set", desc := "(III)Z" } : MethodName)) ∈ gW := gW_in (in2 (List.mem_of_getElem? (i := 114) rfl)) (by decide +kernel)
theorem k2_115 : (Cond.code ({ cls := "BookChecks$Risks", name := "set", desc := "(III)Z" } : MethodName) prog_6_method_2_code (4 : Nat) (Option.some ClassFile.FieldType.boolean)) ∈ gW := gW_in (in2 (List.mem_of_getElem? (i := 115) rfl)) (by decide +kernel)
theorem k2_117 : (Cond.methodLink "BookChecksLaw" (95 : Nat) ({ cls := "BookChecks", name := "draw", desc := "(I)I" } : MethodName)) ∈ gW := gW_in (in2 (List.mem_of_getElem? (i := 117) rfl)) (by decide +kernel)
theorem k2_118 : (Cond.instanceMethod ({ cls := "BookChecks", name := "draw", desc := "(I)I" } : MethodName)) ∈ gW := gW_in (in2 (List.mem_of_getElem? (i := 118) rfl)) (by decide +kernel)
theorem k2_119 : (Cond.selects "BookChecks" ({ cls := "BookChecks", name := "draw", desc := "(I)I" } : MethodName) ({ cls := "BookChecks", name := "draw", desc := "(I)I" } : MethodName)) ∈ gW := gW_in (in2 (List.mem_of_getElem? (i := 119) rfl)) (by decide +kernel)
theorem k2_120 : (Cond.code ({ cls := "BookChecks", name := "draw", desc := "(I)I" } : MethodName) prog_1_method_16_code (2 : Nat) (Option.some ClassFile.FieldType.int)) ∈ gW := gW_in (in2 (List.mem_of_getElem? (i := 120) rfl)) (by decide +kernel)
theorem k2_121 : (Cond.methodLink "BookChecks" (134 : Nat) ({ cls := "BookChecks$Risks", name := "take", desc := "(LBookChecks$Book;JILBookChecks$Row;)V" } : MethodName)) ∈ gW := gW_in (in2 (List.mem_of_getElem? (i := 121) rfl)) (by decide +kernel)
theorem k2_122 : (Cond.instanceMethod ({ cls := "BookChecks$Risks", name := "take", desc := "(LBookChecks$Book;JILBookChecks$Row;)V" } : MethodName)) ∈ gW := gW_in (in2 (List.mem_of_getElem? (i := 122) rfl)) (by decide +kernel)
theorem k2_123 : (Cond.selects "BookChecks$Risks" ({ cls := "BookChecks$Risks", name := "take", desc := "(LBookChecks$Book;JILBookChecks$Row;)V" } : MethodName) ({ cls := "BookChecks$Risks", name := "take", desc := "(LBookChecks$Book;JILBookChecks$Row;)V" } : MethodName)) ∈ gW := gW_in (in2 (List.mem_of_getElem? (i := 123) rfl)) (by decide +kernel)
theorem k2_124 : (Cond.code ({ cls := "BookChecks$Risks", name := "take", desc := "(LBookChecks$Book;JILBookChecks$Row;)V" } : MethodName) prog_6_method_3_code (11 : Nat) (Option.none : Option ClassFile.FieldType)) ∈ gW := gW_in (in2 (List.mem_of_getElem? (i := 124) rfl)) (by decide +kernel)
theorem k2_125 : (Cond.methodLink "BookChecks$Risks" (22 : Nat) ({ cls := "BookChecks$Row", name := "begin", desc := "(I)V" } : MethodName)) ∈ gW := gW_in (in2 (List.mem_of_getElem? (i := 125) rfl)) (by decide +kernel)
theorem k2_126 : (Cond.instanceMethod ({ cls := "BookChecks$Row", name := "begin", desc := "(I)V" } : MethodName)) ∈ gW := gW_in (in2 (List.mem_of_getElem? (i := 126) rfl)) (by decide +kernel)
theorem k2_127 : (Cond.selects "BookChecks$Row" ({ cls := "BookChecks$Row", name := "begin", desc := "(I)V" } : MethodName) ({ cls := "BookChecks$Row", name := "begin", desc := "(I)V" } : MethodName)) ∈ gW := gW_in (in2 (List.mem_of_getElem? (i := 127) rfl)) (by decide +kernel)
theorem k2_128 : (Cond.code ({ cls := "BookChecks$Row", name := "begin", desc := "(I)V" } : MethodName) prog_7_method_2_code (2 : Nat) (Option.none : Option ClassFile.FieldType)) ∈ gW := gW_in (in2 (List.mem_of_getElem? (i := 128) rfl)) (by decide +kernel)
theorem k2_129 : (Cond.methodLink "BookChecks$Risks" (28 : Nat) ({ cls := "BookChecks$Risks", name := "weighAll", desc := "(LBookChecks$Book;)I" } : MethodName)) ∈ gW := gW_in (in2 (List.mem_of_getElem? (i := 129) rfl)) (by decide +kernel)
theorem k2_131 : (Cond.instanceMethod ({ cls := "BookChecks$Risks", name := "weighAll", desc := "(LBookChecks$Book;)I" } : MethodName)) ∈ gW := gW_in (in2 (List.mem_of_getElem? (i := 131) rfl)) (by decide +kernel)
theorem k2_132 : (Cond.code ({ cls := "BookChecks$Risks", name := "weighAll", desc := "(LBookChecks$Book;)I" } : MethodName) prog_6_method_4_code (4 : Nat) (Option.some ClassFile.FieldType.int)) ∈ gW := gW_in (in2 (List.mem_of_getElem? (i := 132) rfl)) (by decide +kernel)
theorem k2_133 : (Cond.constantLong "BookChecks$Risks" (32 : Nat) (6364136223846793005 : Int64)) ∈ gW := gW_in (in2 (List.mem_of_getElem? (i := 133) rfl)) (by decide +kernel)
theorem k2_134 : (Cond.constantLong "BookChecks$Risks" (34 : Nat) (1442695040888963407 : Int64)) ∈ gW := gW_in (in2 (List.mem_of_getElem? (i := 134) rfl)) (by decide +kernel)
theorem k2_135 : (Cond.methodLink "BookChecks$Risks" (42 : Nat) ({ cls := "BookChecks$Risks", name := "pageOver", desc := "(II)I" } : MethodName)) ∈ gW := gW_in (in2 (List.mem_of_getElem? (i := 135) rfl)) (by decide +kernel)
theorem k2_137 : (Cond.instanceMethod ({ cls := "BookChecks$Risks", name := "pageOver", desc := "(II)I" } : MethodName)) ∈ gW := gW_in (in2 (List.mem_of_getElem? (i := 137) rfl)) (by decide +kernel)
theorem k2_138 : (Cond.code ({ cls := "BookChecks$Risks", name := "pageOver", desc := "(II)I" } : MethodName) prog_6_method_5_code (5 : Nat) (Option.some ClassFile.FieldType.int)) ∈ gW := gW_in (in2 (List.mem_of_getElem? (i := 138) rfl)) (by decide +kernel)
theorem k2_139 : (Cond.methodLink "BookChecks$Risks" (46 : Nat) ({ cls := "BookChecks$Row", name := "append", desc := "(I)V" } : MethodName)) ∈ gW := gW_in (in2 (List.mem_of_getElem? (i := 139) rfl)) (by decide +kernel)
theorem k2_140 : (Cond.instanceMethod ({ cls := "BookChecks$Row", name := "append", desc := "(I)V" } : MethodName)) ∈ gW := gW_in (in2 (List.mem_of_getElem? (i := 140) rfl)) (by decide +kernel)
theorem k2_141 : (Cond.selects "BookChecks$Row" ({ cls := "BookChecks$Row", name := "append", desc := "(I)V" } : MethodName) ({ cls := "BookChecks$Row", name := "append", desc := "(I)V" } : MethodName)) ∈ gW := gW_in (in2 (List.mem_of_getElem? (i := 141) rfl)) (by decide +kernel)
theorem k2_142 : (Cond.code ({ cls := "BookChecks$Row", name := "append", desc := "(I)V" } : MethodName) prog_7_method_3_code (2 : Nat) (Option.none : Option ClassFile.FieldType)) ∈ gW := gW_in (in2 (List.mem_of_getElem? (i := 142) rfl)) (by decide +kernel)
theorem k2_143 : (Cond.methodLink "BookChecksLaw" (99 : Nat) ({ cls := "BookChecks", name := "drawn", desc := "(I)I" } : MethodName)) ∈ gW := gW_in (in2 (List.mem_of_getElem? (i := 143) rfl)) (by decide +kernel)
theorem k2_144 : (Cond.instanceMethod ({ cls := "BookChecks", name := "drawn", desc := "(I)I" } : MethodName)) ∈ gW := gW_in (in2 (List.mem_of_getElem? (i := 144) rfl)) (by decide +kernel)
theorem k2_145 : (Cond.selects "BookChecks" ({ cls := "BookChecks", name := "drawn", desc := "(I)I" } : MethodName) ({ cls := "BookChecks", name := "drawn", desc := "(I)I" } : MethodName)) ∈ gW := gW_in (in2 (List.mem_of_getElem? (i := 145) rfl)) (by decide +kernel)
theorem k2_146 : (Cond.code ({ cls := "BookChecks", name := "drawn", desc := "(I)I" } : MethodName) prog_1_method_17_code (2 : Nat) (Option.some ClassFile.FieldType.int)) ∈ gW := gW_in (in2 (List.mem_of_getElem? (i := 146) rfl)) (by decide +kernel)
theorem k2_147 : (Cond.methodLink "BookChecks" (139 : Nat) ({ cls := "BookChecks$Row", name := "at", desc := "(I)I" } : MethodName)) ∈ gW := gW_in (in2 (List.mem_of_getElem? (i := 147) rfl)) (by decide +kernel)
theorem k2_148 : (Cond.instanceMethod ({ cls := "BookChecks$Row", name := "at", desc := "(I)I" } : MethodName)) ∈ gW := gW_in (in2 (List.mem_of_getElem? (i := 148) rfl)) (by decide +kernel)
theorem k2_149 : (Cond.selects "BookChecks$Row" ({ cls := "BookChecks$Row", name := "at", desc := "(I)I" } : MethodName) ({ cls := "BookChecks$Row", name := "at", desc := "(I)I" } : MethodName)) ∈ gW := gW_in (in2 (List.mem_of_getElem? (i := 149) rfl)) (by decide +kernel)
theorem k2_150 : (Cond.code ({ cls := "BookChecks$Row", name := "at", desc := "(I)I" } : MethodName) prog_7_method_4_code (2 : Nat) (Option.some ClassFile.FieldType.int)) ∈ gW := gW_in (in2 (List.mem_of_getElem? (i := 150) rfl)) (by decide +kernel)
theorem k2_151 : (Cond.methodLink "BookChecksLaw" (103 : Nat) ({ cls := "BookChecks", name := "same", desc := "(J)Z" } : MethodName)) ∈ gW := gW_in (in2 (List.mem_of_getElem? (i := 151) rfl)) (by decide +kernel)
theorem k2_152 : (Cond.instanceMethod ({ cls := "BookChecks", name := "same", desc := "(J)Z" } : MethodName)) ∈ gW := gW_in (in2 (List.mem_of_getElem? (i := 152) rfl)) (by decide +kernel)
theorem k2_153 : (Cond.selects "BookChecks" ({ cls := "BookChecks", name := "same", desc := "(J)Z" } : MethodName) ({ cls := "BookChecks", name := "same", desc := "(J)Z" } : MethodName)) ∈ gW := gW_in (in2 (List.mem_of_getElem? (i := 153) rfl)) (by decide +kernel)
theorem k2_154 : (Cond.code ({ cls := "BookChecks", name := "same", desc := "(J)Z" } : MethodName) prog_1_method_18_code (3 : Nat) (Option.some ClassFile.FieldType.boolean)) ∈ gW := gW_in (in2 (List.mem_of_getElem? (i := 154) rfl)) (by decide +kernel)
theorem k2_155 : (Cond.methodLink "BookChecks" (145 : Nat) ({ cls := "BookChecks$Row", name := "equalTo", desc := "(LBookChecks$Row;)Z" } : MethodName)) ∈ gW := gW_in (in2 (List.mem_of_getElem? (i := 155) rfl)) (by decide +kernel)
theorem k2_156 : (Cond.instanceMethod ({ cls := "BookChecks$Row", name := "equalTo", desc := "(LBookChecks$Row;)Z" } : MethodName)) ∈ gW := gW_in (in2 (List.mem_of_getElem? (i := 156) rfl)) (by decide +kernel)
theorem k2_157 : (Cond.selects "BookChecks$Row" ({ cls := "BookChecks$Row", name := "equalTo", desc := "(LBookChecks$Row;)Z" } : MethodName) ({ cls := "BookChecks$Row", name := "equalTo", desc := "(LBookChecks$Row;)Z" } : MethodName)) ∈ gW := gW_in (in2 (List.mem_of_getElem? (i := 157) rfl)) (by decide +kernel)
theorem k2_158 : (Cond.code ({ cls := "BookChecks$Row", name := "equalTo", desc := "(LBookChecks$Row;)Z" } : MethodName) prog_7_method_5_code (3 : Nat) (Option.some ClassFile.FieldType.boolean)) ∈ gW := gW_in (in2 (List.mem_of_getElem? (i := 158) rfl)) (by decide +kernel)
theorem k2_159 : (Cond.methodLink "BookChecksLaw" (108 : Nat) ({ cls := "BookChecks", name := "missed", desc := "(III)J" } : MethodName)) ∈ gW := gW_in (in2 (List.mem_of_getElem? (i := 159) rfl)) (by decide +kernel)
theorem k2_160 : (Cond.instanceMethod ({ cls := "BookChecks", name := "missed", desc := "(III)J" } : MethodName)) ∈ gW := gW_in (in2 (List.mem_of_getElem? (i := 160) rfl)) (by decide +kernel)
theorem k2_161 : (Cond.selects "BookChecks" ({ cls := "BookChecks", name := "missed", desc := "(III)J" } : MethodName) ({ cls := "BookChecks", name := "missed", desc := "(III)J" } : MethodName)) ∈ gW := gW_in (in2 (List.mem_of_getElem? (i := 161) rfl)) (by decide +kernel)
theorem k2_162 : (Cond.code ({ cls := "BookChecks", name := "missed", desc := "(III)J" } : MethodName) prog_1_method_19_code (13 : Nat) (Option.some ClassFile.FieldType.long)) ∈ gW := gW_in (in2 (List.mem_of_getElem? (i := 162) rfl)) (by decide +kernel)
theorem k2_163 : (Cond.methodLink "BookChecks" (149 : Nat) ({ cls := "BookChecks", name := "choose", desc := "(II)J" } : MethodName)) ∈ gW := gW_in (in2 (List.mem_of_getElem? (i := 163) rfl)) (by decide +kernel)
theorem k2_164 : (Cond.static ({ cls := "BookChecks", name := "choose", desc := "(II)J" } : MethodName)) ∈ gW := gW_in (in2 (List.mem_of_getElem? (i := 164) rfl)) (by decide +kernel)
theorem k2_165 : (Cond.code ({ cls := "BookChecks", name := "choose", desc := "(II)J" } : MethodName) prog_1_method_29_code (5 : Nat) (Option.some ClassFile.FieldType.long)) ∈ gW := gW_in (in2 (List.mem_of_getElem? (i := 165) rfl)) (by decide +kernel)
theorem k2_166 : (Cond.methodLink "BookChecks" (153 : Nat) ({ cls := "BookChecks", name := "commonDivisor", desc := "(JJ)J" } : MethodName)) ∈ gW := gW_in (in2 (List.mem_of_getElem? (i := 166) rfl)) (by decide +kernel)
theorem k2_167 : (Cond.static ({ cls := "BookChecks", name := "commonDivisor", desc := "(JJ)J" } : MethodName)) ∈ gW := gW_in (in2 (List.mem_of_getElem? (i := 167) rfl)) (by decide +kernel)
theorem k2_168 : (Cond.code ({ cls := "BookChecks", name := "commonDivisor", desc := "(JJ)J" } : MethodName) prog_1_method_30_code (11 : Nat) (Option.some ClassFile.FieldType.long)) ∈ gW := gW_in (in2 (List.mem_of_getElem? (i := 168) rfl)) (by decide +kernel)
theorem k2_169 : (Cond.methodLink "BookChecksLaw" (113 : Nat) ({ cls := "BookChecks", name := "camera", desc := "(II)I" } : MethodName)) ∈ gW := gW_in (in2 (List.mem_of_getElem? (i := 169) rfl)) (by decide +kernel)
theorem k2_170 : (Cond.instanceMethod ({ cls := "BookChecks", name := "camera", desc := "(II)I" } : MethodName)) ∈ gW := gW_in (in2 (List.mem_of_getElem? (i := 170) rfl)) (by decide +kernel)
theorem k2_171 : (Cond.selects "BookChecks" ({ cls := "BookChecks", name := "camera", desc := "(II)I" } : MethodName) ({ cls := "BookChecks", name := "camera", desc := "(II)I" } : MethodName)) ∈ gW := gW_in (in2 (List.mem_of_getElem? (i := 171) rfl)) (by decide +kernel)
theorem k2_172 : (Cond.code ({ cls := "BookChecks", name := "camera", desc := "(II)I" } : MethodName) prog_1_method_20_code (3 : Nat) (Option.some ClassFile.FieldType.int)) ∈ gW := gW_in (in2 (List.mem_of_getElem? (i := 172) rfl)) (by decide +kernel)
theorem k2_173 : (Cond.methodLink "BookChecks" (157 : Nat) ({ cls := "BookChecks$Watch", name := "most", desc := "(LBookChecks$Book;II)I" } : MethodName)) ∈ gW := gW_in (in2 (List.mem_of_getElem? (i := 173) rfl)) (by decide +kernel)
theorem k2_174 : (Cond.instanceMethod ({ cls := "BookChecks$Watch", name := "most", desc := "(LBookChecks$Book;II)I" } : MethodName)) ∈ gW := gW_in (in2 (List.mem_of_getElem? (i := 174) rfl)) (by decide +kernel)
theorem k2_175 : (Cond.selects "BookChecks$Watch" ({ cls := "BookChecks$Watch", name := "most", desc := "(LBookChecks$Book;II)I" } : MethodName) ({ cls := "BookChecks$Watch", name := "most", desc := "(LBookChecks$Book;II)I" } : MethodName)) ∈ gW := gW_in (in2 (List.mem_of_getElem? (i := 175) rfl)) (by decide +kernel)
theorem k2_176 : (Cond.code ({ cls := "BookChecks$Watch", name := "most", desc := "(LBookChecks$Book;II)I" } : MethodName) prog_8_method_2_code (9 : Nat) (Option.some ClassFile.FieldType.int)) ∈ gW := gW_in (in2 (List.mem_of_getElem? (i := 176) rfl)) (by decide +kernel)
theorem k2_177 : (Cond.methodLink "BookChecks$Watch" (15 : Nat) ({ cls := "BookChecks$Watch", name := "sortMinutes", desc := "(LBookChecks$Book;I)I" } : MethodName)) ∈ gW := gW_in (in2 (List.mem_of_getElem? (i := 177) rfl)) (by decide +kernel)
theorem k2_179 : (Cond.instanceMethod ({ cls := "BookChecks$Watch", name := "sortMinutes", desc := "(LBookChecks$Book;I)I" } : MethodName)) ∈ gW := gW_in (in2 (List.mem_of_getElem? (i := 179) rfl)) (by decide +kernel)
theorem k2_180 : (Cond.code ({ cls := "BookChecks$Watch", name := "sortMinutes", desc := "(LBookChecks$Book;I)I" } : MethodName) prog_8_method_3_code (5 : Nat) (Option.some ClassFile.FieldType.int)) ∈ gW := gW_in (in2 (List.mem_of_getElem? (i := 180) rfl)) (by decide +kernel)
theorem k2_181 : (Cond.constantLong "BookChecks$Watch" (29 : Nat) (20 : Int64)) ∈ gW := gW_in (in2 (List.mem_of_getElem? (i := 181) rfl)) (by decide +kernel)
theorem k2_182 : (Cond.constantLong "BookChecks$Watch" (34 : Nat) (100000 : Int64)) ∈ gW := gW_in (in2 (List.mem_of_getElem? (i := 182) rfl)) (by decide +kernel)
theorem k2_183 : (Cond.methodLink "BookChecks$Watch" (36 : Nat) ({ cls := "BookChecks$Watch", name := "insert", desc := "(IJ)V" } : MethodName)) ∈ gW := gW_in (in2 (List.mem_of_getElem? (i := 183) rfl)) (by decide +kernel)
theorem k2_185 : (Cond.instanceMethod ({ cls := "BookChecks$Watch", name := "insert", desc := "(IJ)V" } : MethodName)) ∈ gW := gW_in (in2 (List.mem_of_getElem? (i := 185) rfl)) (by decide +kernel)
theorem k2_186 : (Cond.code ({ cls := "BookChecks$Watch", name := "insert", desc := "(IJ)V" } : MethodName) prog_8_method_4_code (5 : Nat) (Option.none : Option ClassFile.FieldType)) ∈ gW := gW_in (in2 (List.mem_of_getElem? (i := 186) rfl)) (by decide +kernel)
theorem k2_187 : (Cond.methodLink "BookChecksLaw" (117 : Nat) ({ cls := "BookChecks", name := "act", desc := "(III)I" } : MethodName)) ∈ gW := gW_in (in2 (List.mem_of_getElem? (i := 187) rfl)) (by decide +kernel)
theorem k2_188 : (Cond.instanceMethod ({ cls := "BookChecks", name := "act", desc := "(III)I" } : MethodName)) ∈ gW := gW_in (in2 (List.mem_of_getElem? (i := 188) rfl)) (by decide +kernel)
theorem k2_189 : (Cond.selects "BookChecks" ({ cls := "BookChecks", name := "act", desc := "(III)I" } : MethodName) ({ cls := "BookChecks", name := "act", desc := "(III)I" } : MethodName)) ∈ gW := gW_in (in2 (List.mem_of_getElem? (i := 189) rfl)) (by decide +kernel)
theorem k2_190 : (Cond.code ({ cls := "BookChecks", name := "act", desc := "(III)I" } : MethodName) prog_1_method_21_code (4 : Nat) (Option.some ClassFile.FieldType.int)) ∈ gW := gW_in (in2 (List.mem_of_getElem? (i := 190) rfl)) (by decide +kernel)
theorem k2_191 : (Cond.methodLink "BookChecks" (160 : Nat) ({ cls := "BookChecks$Acts", name := "tell", desc := "(III)I" } : MethodName)) ∈ gW := gW_in (in2 (List.mem_of_getElem? (i := 191) rfl)) (by decide +kernel)
theorem k2_192 : (Cond.instanceMethod ({ cls := "BookChecks$Acts", name := "tell", desc := "(III)I" } : MethodName)) ∈ gW := gW_in (in2 (List.mem_of_getElem? (i := 192) rfl)) (by decide +kernel)
theorem k2_193 : (Cond.selects "BookChecks$Acts" ({ cls := "BookChecks$Acts", name := "tell", desc := "(III)I" } : MethodName) ({ cls := "BookChecks$Acts", name := "tell", desc := "(III)I" } : MethodName)) ∈ gW := gW_in (in2 (List.mem_of_getElem? (i := 193) rfl)) (by decide +kernel)
theorem k2_194 : (Cond.code ({ cls := "BookChecks$Acts", name := "tell", desc := "(III)I" } : MethodName) prog_2_method_2_code (5 : Nat) (Option.some ClassFile.FieldType.int)) ∈ gW := gW_in (in2 (List.mem_of_getElem? (i := 194) rfl)) (by decide +kernel)
theorem k2_196 : (Cond.methodLink "BookChecks$Acts" (25 : Nat) ({ cls := "BookChecks$Acts", name := "after", desc := "(II)I" } : MethodName)) ∈ gW := gW_in (in2 (List.mem_of_getElem? (i := 196) rfl)) (by decide +kernel)
theorem k2_197 : (Cond.static ({ cls := "BookChecks$Acts", name := "after", desc := "(II)I" } : MethodName)) ∈ gW := gW_in (in2 (List.mem_of_getElem? (i := 197) rfl)) (by decide +kernel)
theorem k2_198 : (Cond.code ({ cls := "BookChecks$Acts", name := "after", desc := "(II)I" } : MethodName) prog_2_method_3_code (2 : Nat) (Option.some ClassFile.FieldType.int)) ∈ gW := gW_in (in2 (List.mem_of_getElem? (i := 198) rfl)) (by decide +kernel)
theorem k2_199 : (Cond.methodLink "BookChecksLaw" (122 : Nat) ({ cls := "BookChecks", name := "state", desc := "(I)I" } : MethodName)) ∈ gW := gW_in (in2 (List.mem_of_getElem? (i := 199) rfl)) (by decide +kernel)
theorem k2_200 : (Cond.instanceMethod ({ cls := "BookChecks", name := "state", desc := "(I)I" } : MethodName)) ∈ gW := gW_in (in2 (List.mem_of_getElem? (i := 200) rfl)) (by decide +kernel)
theorem k2_201 : (Cond.selects "BookChecks" ({ cls := "BookChecks", name := "state", desc := "(I)I" } : MethodName) ({ cls := "BookChecks", name := "state", desc := "(I)I" } : MethodName)) ∈ gW := gW_in (in2 (List.mem_of_getElem? (i := 201) rfl)) (by decide +kernel)
theorem k2_202 : (Cond.code ({ cls := "BookChecks", name := "state", desc := "(I)I" } : MethodName) prog_1_method_22_code (2 : Nat) (Option.some ClassFile.FieldType.int)) ∈ gW := gW_in (in2 (List.mem_of_getElem? (i := 202) rfl)) (by decide +kernel)
theorem k2_203 : (Cond.methodLink "BookChecks" (164 : Nat) ({ cls := "BookChecks", name := "isShip", desc := "(I)Z" } : MethodName)) ∈ gW := gW_in (in2 (List.mem_of_getElem? (i := 203) rfl)) (by decide +kernel)
theorem k2_204 : (Cond.methodLink "BookChecksLaw" (126 : Nat) ({ cls := "BookChecks", name := "repeated", desc := "(I)I" } : MethodName)) ∈ gW := gW_in (in2 (List.mem_of_getElem? (i := 204) rfl)) (by decide +kernel)
theorem k2_205 : (Cond.instanceMethod ({ cls := "BookChecks", name := "repeated", desc := "(I)I" } : MethodName)) ∈ gW := gW_in (in2 (List.mem_of_getElem? (i := 205) rfl)) (by decide +kernel)
theorem k2_206 : (Cond.selects "BookChecks" ({ cls := "BookChecks", name := "repeated", desc := "(I)I" } : MethodName) ({ cls := "BookChecks", name := "repeated", desc := "(I)I" } : MethodName)) ∈ gW := gW_in (in2 (List.mem_of_getElem? (i := 206) rfl)) (by decide +kernel)
theorem k2_207 : (Cond.code ({ cls := "BookChecks", name := "repeated", desc := "(I)I" } : MethodName) prog_1_method_23_code (2 : Nat) (Option.some ClassFile.FieldType.int)) ∈ gW := gW_in (in2 (List.mem_of_getElem? (i := 207) rfl)) (by decide +kernel)
theorem k2_208 : (Cond.methodLink "BookChecksLaw" (15 : Nat) ({ cls := "BookChecksLaw", name := "cell", desc := "([II)I" } : MethodName)) ∈ gW := gW_in (in2 (List.mem_of_getElem? (i := 208) rfl)) (by decide +kernel)
theorem k2_209 : (Cond.static ({ cls := "BookChecksLaw", name := "cell", desc := "([II)I" } : MethodName)) ∈ gW := gW_in (in2 (List.mem_of_getElem? (i := 209) rfl)) (by decide +kernel)
theorem k2_210 : (Cond.code ({ cls := "BookChecksLaw", name := "cell", desc := "([II)I" } : MethodName) method_2_code (2 : Nat) (Option.some ClassFile.FieldType.int)) ∈ gW := gW_in (in2 (List.mem_of_getElem? (i := 210) rfl)) (by decide +kernel)
theorem k2_211 : (Cond.methodLink "BookChecksLaw" (61 : Nat) ({ cls := "BookChecksLaw", name := "pageAt", desc := "(LBookChecks;I[J)I" } : MethodName)) ∈ gW := gW_in (in2 (List.mem_of_getElem? (i := 211) rfl)) (by decide +kernel)
theorem k2_212 : (Cond.static ({ cls := "BookChecksLaw", name := "pageAt", desc := "(LBookChecks;I[J)I" } : MethodName)) ∈ gW := gW_in (in2 (List.mem_of_getElem? (i := 212) rfl)) (by decide +kernel)
theorem k2_214 : (Cond.classLink "BookChecksLaw" (13 : Nat) "java/lang/IndexOutOfBoundsException") ∈ gW := gW_in (in2 (List.mem_of_getElem? (i := 214) rfl)) (by decide +kernel)
theorem k2_215 : (Cond.methodLink "BookChecksLaw" (7 : Nat) ({ cls := "BookChecks", name := "pageAt", desc := "(I)J" } : MethodName)) ∈ gW := gW_in (in2 (List.mem_of_getElem? (i := 215) rfl)) (by decide +kernel)
theorem k2_216 : (Cond.instanceMethod ({ cls := "BookChecks", name := "pageAt", desc := "(I)J" } : MethodName)) ∈ gW := gW_in (in2 (List.mem_of_getElem? (i := 216) rfl)) (by decide +kernel)
theorem k2_217 : (Cond.selects "BookChecks" ({ cls := "BookChecks", name := "pageAt", desc := "(I)J" } : MethodName) ({ cls := "BookChecks", name := "pageAt", desc := "(I)J" } : MethodName)) ∈ gW := gW_in (in2 (List.mem_of_getElem? (i := 217) rfl)) (by decide +kernel)
theorem k2_218 : (Cond.code ({ cls := "BookChecks", name := "pageAt", desc := "(I)J" } : MethodName) prog_1_method_9_code (2 : Nat) (Option.some ClassFile.FieldType.long)) ∈ gW := gW_in (in2 (List.mem_of_getElem? (i := 218) rfl)) (by decide +kernel)
theorem k2_219 : (Cond.methodLink "BookChecks" (92 : Nat) ({ cls := "BookChecks$Book", name := "has", desc := "(I)Z" } : MethodName)) ∈ gW := gW_in (in2 (List.mem_of_getElem? (i := 219) rfl)) (by decide +kernel)
theorem k2_220 : (Cond.classLink "BookChecks" (96 : Nat) "java/lang/IndexOutOfBoundsException") ∈ gW := gW_in (in2 (List.mem_of_getElem? (i := 220) rfl)) (by decide +kernel)
theorem k2_221 : (Cond.instantiable "java/lang/IndexOutOfBoundsException" (6 : Nat)) ∈ gW := gW_in (in2 (List.mem_of_getElem? (i := 221) rfl)) (by decide +kernel)
theorem k2_229 : (Cond.selects "java/lang/IndexOutOfBoundsException" ({ cls := "java/lang/Throwable", name := "fillInStackTrace", desc := "(I)Ljava/lang/Throwable;" } : MethodName) ({ cls := "java/lang/Throwable", name := "fillInStackTrace", desc := "(I)Ljava/lang/Throwable;" } : MethodName)) ∈ gW := gW_in (in2 (List.mem_of_getElem? (i := 229) rfl)) (by decide +kernel)
theorem k2_230 : (Cond.selects "java/lang/IndexOutOfBoundsException" ({ cls := "java/lang/Throwable", name := "fillInStackTrace", desc := "()Ljava/lang/Throwable;" } : MethodName) ({ cls := "java/lang/Throwable", name := "fillInStackTrace", desc := "()Ljava/lang/Throwable;" } : MethodName)) ∈ gW := gW_in (in2 (List.mem_of_getElem? (i := 230) rfl)) (by decide +kernel)
theorem k2_231 : (Cond.lays "java/lang/IndexOutOfBoundsException" "java/lang/Throwable" "cause" "Ljava/lang/Throwable;") ∈ gW := gW_in (in2 (List.mem_of_getElem? (i := 231) rfl)) (by decide +kernel)
theorem k2_232 : (Cond.lays "java/lang/Throwable" "java/lang/Throwable" "cause" "Ljava/lang/Throwable;") ∈ gW := gW_in (in2 (List.mem_of_getElem? (i := 232) rfl)) (by decide +kernel)
theorem k2_233 : (Cond.lays "java/lang/IndexOutOfBoundsException" "java/lang/Throwable" "stackTrace" "[Ljava/lang/StackTraceElement;") ∈ gW := gW_in (in2 (List.mem_of_getElem? (i := 233) rfl)) (by decide +kernel)
theorem k2_234 : (Cond.lays "java/lang/Throwable" "java/lang/Throwable" "stackTrace" "[Ljava/lang/StackTraceElement;") ∈ gW := gW_in (in2 (List.mem_of_getElem? (i := 234) rfl)) (by decide +kernel)
theorem k2_235 : (Cond.lays "java/lang/IndexOutOfBoundsException" "java/lang/Throwable" "suppressedExceptions" "Ljava/util/List;") ∈ gW := gW_in (in2 (List.mem_of_getElem? (i := 235) rfl)) (by decide +kernel)
theorem k2_236 : (Cond.lays "java/lang/Throwable" "java/lang/Throwable" "suppressedExceptions" "Ljava/util/List;") ∈ gW := gW_in (in2 (List.mem_of_getElem? (i := 236) rfl)) (by decide +kernel)
theorem k2_237 : (Cond.lays "java/lang/IndexOutOfBoundsException" "java/lang/Throwable" "detailMessage" "Ljava/lang/String;") ∈ gW := gW_in (in2 (List.mem_of_getElem? (i := 237) rfl)) (by decide +kernel)
theorem k2_238 : (Cond.lays "java/lang/Throwable" "java/lang/Throwable" "detailMessage" "Ljava/lang/String;") ∈ gW := gW_in (in2 (List.mem_of_getElem? (i := 238) rfl)) (by decide +kernel)
theorem k2_239 : (Cond.lays "java/lang/IndexOutOfBoundsException" "java/lang/Throwable" "backtrace" "Ljava/lang/Object;") ∈ gW := gW_in (in2 (List.mem_of_getElem? (i := 239) rfl)) (by decide +kernel)
theorem k3_0 : (Cond.lays "java/lang/Throwable" "java/lang/Throwable" "backtrace" "Ljava/lang/Object;") ∈ gW := gW_in (in3 (List.mem_of_getElem? (i := 0) rfl)) (by decide +kernel)
theorem k3_32 : (Cond.fieldLink "java/lang/Throwable" (198 : Nat) "java/lang/Throwable" "backtrace" "Ljava/lang/Object;") ∈ gW := gW_in (in3 (List.mem_of_getElem? (i := 32) rfl)) (by decide +kernel)
theorem k3_2 : (Cond.superclass "java/lang/Throwable" "java/lang/Object") ∈ gW := gW_in (in3 (List.mem_of_getElem? (i := 2) rfl)) (by decide +kernel)
theorem k3_3 : (Cond.instanceMethod ({ cls := "java/lang/Throwable", name := "<init>", desc := "()V" } : MethodName)) ∈ gW := gW_in (in3 (List.mem_of_getElem? (i := 3) rfl)) (by decide +kernel)
theorem k3_4 : (Cond.code ({ cls := "java/lang/Throwable", name := "<init>", desc := "()V" } : MethodName) prog_17_method_1_code (1 : Nat) (Option.none : Option ClassFile.FieldType)) ∈ gW := gW_in (in3 (List.mem_of_getElem? (i := 4) rfl)) (by decide +kernel)
theorem k3_5 : (Cond.methodLink "java/lang/Throwable" (1 : Nat) ({ cls := "java/lang/Object", name := "<init>", desc := "()V" } : MethodName)) ∈ gW := gW_in (in3 (List.mem_of_getElem? (i := 5) rfl)) (by decide +kernel)
theorem k3_6 : (Cond.fieldLink "java/lang/Throwable" (13 : Nat) "java/lang/Throwable" "UNASSIGNED_STACK" "[Ljava/lang/StackTraceElement;") ∈ gW := gW_in (in3 (List.mem_of_getElem? (i := 6) rfl)) (by decide +kernel)
theorem k3_8 : (Cond.fieldLink "java/lang/Throwable" (20 : Nat) "java/lang/Throwable" "SUPPRESSED_SENTINEL" "Ljava/util/List;") ∈ gW := gW_in (in3 (List.mem_of_getElem? (i := 8) rfl)) (by decide +kernel)
theorem k3_10 : (Cond.methodLink "java/lang/Throwable" (27 : Nat) ({ cls := "java/lang/Throwable", name := "fillInStackTrace", desc := "()Ljava/lang/Throwable;" } : MethodName)) ∈ gW := gW_in (in3 (List.mem_of_getElem? (i := 10) rfl)) (by decide +kernel)
theorem k3_11 : (Cond.instanceMethod ({ cls := "java/lang/Throwable", name := "fillInStackTrace", desc := "()Ljava/lang/Throwable;" } : MethodName)) ∈ gW := gW_in (in3 (List.mem_of_getElem? (i := 11) rfl)) (by decide +kernel)
theorem k3_14 : (Cond.methodLink "java/lang/Throwable" (202 : Nat) ({ cls := "java/lang/Throwable", name := "fillInStackTrace", desc := "(I)Ljava/lang/Throwable;" } : MethodName)) ∈ gW := gW_in (in3 (List.mem_of_getElem? (i := 14) rfl)) (by decide +kernel)
theorem k3_16 : (Cond.instanceMethod ({ cls := "java/lang/Throwable", name := "fillInStackTrace", desc := "(I)Ljava/lang/Throwable;" } : MethodName)) ∈ gW := gW_in (in3 (List.mem_of_getElem? (i := 16) rfl)) (by decide +kernel)
theorem k3_17 : (Cond.instantiable "java/lang/Throwable" (6 : Nat)) ∈ gW := gW_in (in3 (List.mem_of_getElem? (i := 17) rfl)) (by decide +kernel)
theorem k3_20 : (Cond.methodLink "BookChecks" (100 : Nat) ({ cls := "java/lang/IndexOutOfBoundsException", name := "<init>", desc := "(Ljava/lang/String;)V" } : MethodName)) ∈ gW := gW_in (in3 (List.mem_of_getElem? (i := 20) rfl)) (by decide +kernel)
theorem k3_21 : (Cond.instanceMethod ({ cls := "java/lang/IndexOutOfBoundsException", name := "<init>", desc := "(Ljava/lang/String;)V" } : MethodName)) ∈ gW := gW_in (in3 (List.mem_of_getElem? (i := 21) rfl)) (by decide +kernel)
theorem k3_22 : (Cond.code ({ cls := "java/lang/IndexOutOfBoundsException", name := "<init>", desc := "(Ljava/lang/String;)V" } : MethodName) prog_12_method_2_code (2 : Nat) (Option.none : Option ClassFile.FieldType)) ∈ gW := gW_in (in3 (List.mem_of_getElem? (i := 22) rfl)) (by decide +kernel)
theorem k3_23 : (Cond.methodLink "java/lang/IndexOutOfBoundsException" (7 : Nat) ({ cls := "java/lang/RuntimeException", name := "<init>", desc := "(Ljava/lang/String;)V" } : MethodName)) ∈ gW := gW_in (in3 (List.mem_of_getElem? (i := 23) rfl)) (by decide +kernel)
theorem k3_24 : (Cond.instanceMethod ({ cls := "java/lang/RuntimeException", name := "<init>", desc := "(Ljava/lang/String;)V" } : MethodName)) ∈ gW := gW_in (in3 (List.mem_of_getElem? (i := 24) rfl)) (by decide +kernel)
theorem k3_25 : (Cond.code ({ cls := "java/lang/RuntimeException", name := "<init>", desc := "(Ljava/lang/String;)V" } : MethodName) prog_15_method_2_code (2 : Nat) (Option.none : Option ClassFile.FieldType)) ∈ gW := gW_in (in3 (List.mem_of_getElem? (i := 25) rfl)) (by decide +kernel)
theorem k3_26 : (Cond.methodLink "java/lang/RuntimeException" (7 : Nat) ({ cls := "java/lang/Exception", name := "<init>", desc := "(Ljava/lang/String;)V" } : MethodName)) ∈ gW := gW_in (in3 (List.mem_of_getElem? (i := 26) rfl)) (by decide +kernel)
theorem k3_27 : (Cond.instanceMethod ({ cls := "java/lang/Exception", name := "<init>", desc := "(Ljava/lang/String;)V" } : MethodName)) ∈ gW := gW_in (in3 (List.mem_of_getElem? (i := 27) rfl)) (by decide +kernel)
theorem k3_28 : (Cond.code ({ cls := "java/lang/Exception", name := "<init>", desc := "(Ljava/lang/String;)V" } : MethodName) prog_11_method_2_code (2 : Nat) (Option.none : Option ClassFile.FieldType)) ∈ gW := gW_in (in3 (List.mem_of_getElem? (i := 28) rfl)) (by decide +kernel)
theorem k3_29 : (Cond.methodLink "java/lang/Exception" (7 : Nat) ({ cls := "java/lang/Throwable", name := "<init>", desc := "(Ljava/lang/String;)V" } : MethodName)) ∈ gW := gW_in (in3 (List.mem_of_getElem? (i := 29) rfl)) (by decide +kernel)
theorem k3_30 : (Cond.instanceMethod ({ cls := "java/lang/Throwable", name := "<init>", desc := "(Ljava/lang/String;)V" } : MethodName)) ∈ gW := gW_in (in3 (List.mem_of_getElem? (i := 30) rfl)) (by decide +kernel)
theorem k3_31 : (Cond.code ({ cls := "java/lang/Throwable", name := "<init>", desc := "(Ljava/lang/String;)V" } : MethodName) prog_17_method_2_code (2 : Nat) (Option.none : Option ClassFile.FieldType)) ∈ gW := gW_in (in3 (List.mem_of_getElem? (i := 31) rfl)) (by decide +kernel)
theorem k3_33 : (Cond.fieldLink "java/lang/Throwable" (31 : Nat) "java/lang/Throwable" "detailMessage" "Ljava/lang/String;") ∈ gW := gW_in (in3 (List.mem_of_getElem? (i := 33) rfl)) (by decide +kernel)
theorem k3_34 : (Cond.fieldLink "java/lang/Throwable" (7 : Nat) "java/lang/Throwable" "cause" "Ljava/lang/Throwable;") ∈ gW := gW_in (in3 (List.mem_of_getElem? (i := 34) rfl)) (by decide +kernel)
theorem k3_35 : (Cond.fieldLink "java/lang/Throwable" (17 : Nat) "java/lang/Throwable" "stackTrace" "[Ljava/lang/StackTraceElement;") ∈ gW := gW_in (in3 (List.mem_of_getElem? (i := 35) rfl)) (by decide +kernel)
theorem k3_36 : (Cond.fieldLink "java/lang/Throwable" (24 : Nat) "java/lang/Throwable" "suppressedExceptions" "Ljava/util/List;") ∈ gW := gW_in (in3 (List.mem_of_getElem? (i := 36) rfl)) (by decide +kernel)
theorem k3_41 : (Cond.lays "java/lang/IndexOutOfBoundsException" "java/lang/Throwable" "depth" "I") ∈ gW := gW_in (in3 (List.mem_of_getElem? (i := 41) rfl)) (by decide +kernel)
theorem k3_44 : (Cond.superclass "java/lang/IndexOutOfBoundsException" "java/lang/RuntimeException") ∈ gW := gW_in (in3 (List.mem_of_getElem? (i := 44) rfl)) (by decide +kernel)
theorem k3_45 : (Cond.arrayClass ClassFile.FieldType.byte) ∈ gW := gW_in (in3 (List.mem_of_getElem? (i := 45) rfl)) (by decide +kernel)
theorem k3_46 : (Cond.classLink "BookChecksLaw" (24 : Nat) "BookChecksModel") ∈ gW := gW_in (in3 (List.mem_of_getElem? (i := 46) rfl)) (by decide +kernel)
theorem k3_47 : (Cond.instantiable "BookChecksModel" (27 : Nat)) ∈ gW := gW_in (in3 (List.mem_of_getElem? (i := 47) rfl)) (by decide +kernel)
theorem k3_48 : (Cond.methodLink "BookChecksLaw" (26 : Nat) ({ cls := "BookChecksModel", name := "<init>", desc := "(J)V" } : MethodName)) ∈ gW := gW_in (in3 (List.mem_of_getElem? (i := 48) rfl)) (by decide +kernel)
theorem k3_49 : (Cond.instanceMethod ({ cls := "BookChecksModel", name := "<init>", desc := "(J)V" } : MethodName)) ∈ gW := gW_in (in3 (List.mem_of_getElem? (i := 49) rfl)) (by decide +kernel)
theorem k3_50 : (Cond.code ({ cls := "BookChecksModel", name := "<init>", desc := "(J)V" } : MethodName) prog_10_method_1_code (5 : Nat) (Option.none : Option ClassFile.FieldType)) ∈ gW := gW_in (in3 (List.mem_of_getElem? (i := 50) rfl)) (by decide +kernel)
theorem k3_51 : (Cond.methodLink "BookChecksModel" (1 : Nat) ({ cls := "java/lang/Object", name := "<init>", desc := "()V" } : MethodName)) ∈ gW := gW_in (in3 (List.mem_of_getElem? (i := 51) rfl)) (by decide +kernel)
theorem k3_52 : (Cond.fieldLink "BookChecksModel" (79 : Nat) "BookChecksModel" "code" "I") ∈ gW := gW_in (in3 (List.mem_of_getElem? (i := 52) rfl)) (by decide +kernel)
theorem k3_53 : (Cond.fieldLink "BookChecksModel" (75 : Nat) "BookChecksModel" "seed" "J") ∈ gW := gW_in (in3 (List.mem_of_getElem? (i := 53) rfl)) (by decide +kernel)
theorem k3_54 : (Cond.fieldLink "BookChecksModel" (7 : Nat) "BookChecksModel" "counts" "[I") ∈ gW := gW_in (in3 (List.mem_of_getElem? (i := 54) rfl)) (by decide +kernel)
theorem k3_55 : (Cond.fieldLink "BookChecksModel" (13 : Nat) "BookChecksModel" "ships" "[I") ∈ gW := gW_in (in3 (List.mem_of_getElem? (i := 55) rfl)) (by decide +kernel)
theorem k3_56 : (Cond.fieldLink "BookChecksModel" (16 : Nat) "BookChecksModel" "days" "[I") ∈ gW := gW_in (in3 (List.mem_of_getElem? (i := 56) rfl)) (by decide +kernel)
theorem k3_57 : (Cond.fieldLink "BookChecksModel" (19 : Nat) "BookChecksModel" "kinds" "[I") ∈ gW := gW_in (in3 (List.mem_of_getElem? (i := 57) rfl)) (by decide +kernel)
theorem k3_58 : (Cond.fieldLink "BookChecksModel" (22 : Nat) "BookChecksModel" "grams" "[J") ∈ gW := gW_in (in3 (List.mem_of_getElem? (i := 58) rfl)) (by decide +kernel)
theorem k3_59 : (Cond.fieldLink "BookChecksModel" (26 : Nat) "BookChecksModel" "saleOf" "[I") ∈ gW := gW_in (in3 (List.mem_of_getElem? (i := 59) rfl)) (by decide +kernel)
theorem k3_60 : (Cond.fieldLink "BookChecksModel" (29 : Nat) "BookChecksModel" "sold" "[Z") ∈ gW := gW_in (in3 (List.mem_of_getElem? (i := 60) rfl)) (by decide +kernel)
theorem k3_61 : (Cond.fieldLink "BookChecksModel" (110 : Nat) "BookChecksModel" "plants" "I") ∈ gW := gW_in (in3 (List.mem_of_getElem? (i := 61) rfl)) (by decide +kernel)
theorem k3_62 : (Cond.fieldLink "BookChecksModel" (33 : Nat) "BookChecksModel" "ins" "[J") ∈ gW := gW_in (in3 (List.mem_of_getElem? (i := 62) rfl)) (by decide +kernel)
theorem k3_63 : (Cond.fieldLink "BookChecksModel" (36 : Nat) "BookChecksModel" "plantKinds" "[I") ∈ gW := gW_in (in3 (List.mem_of_getElem? (i := 63) rfl)) (by decide +kernel)
theorem k3_64 : (Cond.fieldLink "BookChecksModel" (39 : Nat) "BookChecksModel" "outs" "[I") ∈ gW := gW_in (in3 (List.mem_of_getElem? (i := 64) rfl)) (by decide +kernel)
theorem k3_65 : (Cond.fieldLink "BookChecksModel" (42 : Nat) "BookChecksModel" "outKinds" "[I") ∈ gW := gW_in (in3 (List.mem_of_getElem? (i := 65) rfl)) (by decide +kernel)
theorem k3_66 : (Cond.fieldLink "BookChecksModel" (45 : Nat) "BookChecksModel" "outGrams" "[J") ∈ gW := gW_in (in3 (List.mem_of_getElem? (i := 66) rfl)) (by decide +kernel)
theorem k3_67 : (Cond.fieldLink "BookChecksModel" (48 : Nat) "BookChecksModel" "weights" "[I") ∈ gW := gW_in (in3 (List.mem_of_getElem? (i := 67) rfl)) (by decide +kernel)
theorem k3_68 : (Cond.fieldLink "BookChecksModel" (141 : Nat) "BookChecksModel" "asked" "I") ∈ gW := gW_in (in3 (List.mem_of_getElem? (i := 68) rfl)) (by decide +kernel)
theorem k3_69 : (Cond.fieldLink "BookChecksModel" (144 : Nat) "BookChecksModel" "drawnCount" "I") ∈ gW := gW_in (in3 (List.mem_of_getElem? (i := 69) rfl)) (by decide +kernel)
theorem k3_70 : (Cond.fieldLink "BookChecksModel" (51 : Nat) "BookChecksModel" "drawn" "[I") ∈ gW := gW_in (in3 (List.mem_of_getElem? (i := 70) rfl)) (by decide +kernel)
theorem k3_71 : (Cond.fieldLink "BookChecksModel" (130 : Nat) "BookChecksModel" "triedCount" "I") ∈ gW := gW_in (in3 (List.mem_of_getElem? (i := 71) rfl)) (by decide +kernel)
theorem k3_72 : (Cond.fieldLink "BookChecksModel" (54 : Nat) "BookChecksModel" "tried" "[I") ∈ gW := gW_in (in3 (List.mem_of_getElem? (i := 72) rfl)) (by decide +kernel)
theorem k3_73 : (Cond.fieldLink "BookChecksModel" (57 : Nat) "BookChecksModel" "gone" "[Z") ∈ gW := gW_in (in3 (List.mem_of_getElem? (i := 73) rfl)) (by decide +kernel)
theorem k3_74 : (Cond.fieldLink "BookChecksModel" (60 : Nat) "BookChecksModel" "choices" "[J") ∈ gW := gW_in (in3 (List.mem_of_getElem? (i := 74) rfl)) (by decide +kernel)
theorem k3_75 : (Cond.fieldLink "BookChecksModel" (63 : Nat) "BookChecksModel" "watched" "[Z") ∈ gW := gW_in (in3 (List.mem_of_getElem? (i := 75) rfl)) (by decide +kernel)
theorem k3_76 : (Cond.fieldLink "BookChecksModel" (66 : Nat) "BookChecksModel" "states" "[I") ∈ gW := gW_in (in3 (List.mem_of_getElem? (i := 76) rfl)) (by decide +kernel)
theorem k3_77 : (Cond.fieldLink "BookChecksModel" (69 : Nat) "BookChecksModel" "persons" "[I") ∈ gW := gW_in (in3 (List.mem_of_getElem? (i := 77) rfl)) (by decide +kernel)
theorem k3_78 : (Cond.fieldLink "BookChecksModel" (72 : Nat) "BookChecksModel" "wrongs" "[I") ∈ gW := gW_in (in3 (List.mem_of_getElem? (i := 78) rfl)) (by decide +kernel)
theorem k3_79 : (Cond.lays "BookChecksModel" "BookChecksModel" "code" "I") ∈ gW := gW_in (in3 (List.mem_of_getElem? (i := 79) rfl)) (by decide +kernel)
theorem k3_81 : (Cond.laysFinal "BookChecksModel" "BookChecksModel" "seed" "J") ∈ gW := gW_in (in3 (List.mem_of_getElem? (i := 81) rfl)) (by decide +kernel)
theorem k3_83 : (Cond.laysFinal "BookChecksModel" "BookChecksModel" "counts" "[I") ∈ gW := gW_in (in3 (List.mem_of_getElem? (i := 83) rfl)) (by decide +kernel)
theorem k3_85 : (Cond.laysFinal "BookChecksModel" "BookChecksModel" "ships" "[I") ∈ gW := gW_in (in3 (List.mem_of_getElem? (i := 85) rfl)) (by decide +kernel)
theorem k3_87 : (Cond.laysFinal "BookChecksModel" "BookChecksModel" "days" "[I") ∈ gW := gW_in (in3 (List.mem_of_getElem? (i := 87) rfl)) (by decide +kernel)
theorem k3_89 : (Cond.laysFinal "BookChecksModel" "BookChecksModel" "kinds" "[I") ∈ gW := gW_in (in3 (List.mem_of_getElem? (i := 89) rfl)) (by decide +kernel)
theorem k3_91 : (Cond.laysFinal "BookChecksModel" "BookChecksModel" "grams" "[J") ∈ gW := gW_in (in3 (List.mem_of_getElem? (i := 91) rfl)) (by decide +kernel)
theorem k3_93 : (Cond.laysFinal "BookChecksModel" "BookChecksModel" "saleOf" "[I") ∈ gW := gW_in (in3 (List.mem_of_getElem? (i := 93) rfl)) (by decide +kernel)
theorem k3_95 : (Cond.laysFinal "BookChecksModel" "BookChecksModel" "sold" "[Z") ∈ gW := gW_in (in3 (List.mem_of_getElem? (i := 95) rfl)) (by decide +kernel)
theorem k3_97 : (Cond.lays "BookChecksModel" "BookChecksModel" "plants" "I") ∈ gW := gW_in (in3 (List.mem_of_getElem? (i := 97) rfl)) (by decide +kernel)
theorem k3_99 : (Cond.laysFinal "BookChecksModel" "BookChecksModel" "ins" "[J") ∈ gW := gW_in (in3 (List.mem_of_getElem? (i := 99) rfl)) (by decide +kernel)
theorem k3_101 : (Cond.laysFinal "BookChecksModel" "BookChecksModel" "plantKinds" "[I") ∈ gW := gW_in (in3 (List.mem_of_getElem? (i := 101) rfl)) (by decide +kernel)
theorem k3_103 : (Cond.laysFinal "BookChecksModel" "BookChecksModel" "outs" "[I") ∈ gW := gW_in (in3 (List.mem_of_getElem? (i := 103) rfl)) (by decide +kernel)
theorem k3_105 : (Cond.laysFinal "BookChecksModel" "BookChecksModel" "outKinds" "[I") ∈ gW := gW_in (in3 (List.mem_of_getElem? (i := 105) rfl)) (by decide +kernel)
theorem k3_107 : (Cond.laysFinal "BookChecksModel" "BookChecksModel" "outGrams" "[J") ∈ gW := gW_in (in3 (List.mem_of_getElem? (i := 107) rfl)) (by decide +kernel)
theorem k3_109 : (Cond.laysFinal "BookChecksModel" "BookChecksModel" "weights" "[I") ∈ gW := gW_in (in3 (List.mem_of_getElem? (i := 109) rfl)) (by decide +kernel)
theorem k3_111 : (Cond.lays "BookChecksModel" "BookChecksModel" "asked" "I") ∈ gW := gW_in (in3 (List.mem_of_getElem? (i := 111) rfl)) (by decide +kernel)
theorem k3_113 : (Cond.lays "BookChecksModel" "BookChecksModel" "drawnCount" "I") ∈ gW := gW_in (in3 (List.mem_of_getElem? (i := 113) rfl)) (by decide +kernel)
theorem k3_115 : (Cond.laysFinal "BookChecksModel" "BookChecksModel" "drawn" "[I") ∈ gW := gW_in (in3 (List.mem_of_getElem? (i := 115) rfl)) (by decide +kernel)
theorem k3_117 : (Cond.lays "BookChecksModel" "BookChecksModel" "triedCount" "I") ∈ gW := gW_in (in3 (List.mem_of_getElem? (i := 117) rfl)) (by decide +kernel)
theorem k3_119 : (Cond.laysFinal "BookChecksModel" "BookChecksModel" "tried" "[I") ∈ gW := gW_in (in3 (List.mem_of_getElem? (i := 119) rfl)) (by decide +kernel)
theorem k3_121 : (Cond.laysFinal "BookChecksModel" "BookChecksModel" "gone" "[Z") ∈ gW := gW_in (in3 (List.mem_of_getElem? (i := 121) rfl)) (by decide +kernel)
theorem k3_123 : (Cond.laysFinal "BookChecksModel" "BookChecksModel" "choices" "[J") ∈ gW := gW_in (in3 (List.mem_of_getElem? (i := 123) rfl)) (by decide +kernel)
theorem k3_125 : (Cond.laysFinal "BookChecksModel" "BookChecksModel" "watched" "[Z") ∈ gW := gW_in (in3 (List.mem_of_getElem? (i := 125) rfl)) (by decide +kernel)
theorem k3_127 : (Cond.laysFinal "BookChecksModel" "BookChecksModel" "states" "[I") ∈ gW := gW_in (in3 (List.mem_of_getElem? (i := 127) rfl)) (by decide +kernel)
theorem k3_129 : (Cond.laysFinal "BookChecksModel" "BookChecksModel" "persons" "[I") ∈ gW := gW_in (in3 (List.mem_of_getElem? (i := 129) rfl)) (by decide +kernel)
theorem k3_131 : (Cond.laysFinal "BookChecksModel" "BookChecksModel" "wrongs" "[I") ∈ gW := gW_in (in3 (List.mem_of_getElem? (i := 131) rfl)) (by decide +kernel)
theorem k3_133 : (Cond.superclass "BookChecksModel" "java/lang/Object") ∈ gW := gW_in (in3 (List.mem_of_getElem? (i := 133) rfl)) (by decide +kernel)
theorem k3_134 : (Cond.arrayClass ClassFile.FieldType.boolean) ∈ gW := gW_in (in3 (List.mem_of_getElem? (i := 134) rfl)) (by decide +kernel)
theorem k3_135 : (Cond.methodLink "BookChecksLaw" (65 : Nat) ({ cls := "BookChecksModel", name := "thrown", desc := "()I" } : MethodName)) ∈ gW := gW_in (in3 (List.mem_of_getElem? (i := 135) rfl)) (by decide +kernel)
theorem k3_136 : (Cond.instanceMethod ({ cls := "BookChecksModel", name := "thrown", desc := "()I" } : MethodName)) ∈ gW := gW_in (in3 (List.mem_of_getElem? (i := 136) rfl)) (by decide +kernel)
theorem k3_137 : (Cond.selects "BookChecksModel" ({ cls := "BookChecksModel", name := "thrown", desc := "()I" } : MethodName) ({ cls := "BookChecksModel", name := "thrown", desc := "()I" } : MethodName)) ∈ gW := gW_in (in3 (List.mem_of_getElem? (i := 137) rfl)) (by decide +kernel)
theorem k3_138 : (Cond.code ({ cls := "BookChecksModel", name := "thrown", desc := "()I" } : MethodName) prog_10_method_2_code (1 : Nat) (Option.some ClassFile.FieldType.int)) ∈ gW := gW_in (in3 (List.mem_of_getElem? (i := 138) rfl)) (by decide +kernel)
theorem k3_139 : (Cond.methodLink "BookChecksLaw" (33 : Nat) ({ cls := "BookChecksModel", name := "page", desc := "(IIIJ)I" } : MethodName)) ∈ gW := gW_in (in3 (List.mem_of_getElem? (i := 139) rfl)) (by decide +kernel)
theorem k3_140 : (Cond.instanceMethod ({ cls := "BookChecksModel", name := "page", desc := "(IIIJ)I" } : MethodName)) ∈ gW := gW_in (in3 (List.mem_of_getElem? (i := 140) rfl)) (by decide +kernel)
theorem k3_141 : (Cond.selects "BookChecksModel" ({ cls := "BookChecksModel", name := "page", desc := "(IIIJ)I" } : MethodName) ({ cls := "BookChecksModel", name := "page", desc := "(IIIJ)I" } : MethodName)) ∈ gW := gW_in (in3 (List.mem_of_getElem? (i := 141) rfl)) (by decide +kernel)
theorem k3_142 : (Cond.code ({ cls := "BookChecksModel", name := "page", desc := "(IIIJ)I" } : MethodName) prog_10_method_6_code (6 : Nat) (Option.some ClassFile.FieldType.int)) ∈ gW := gW_in (in3 (List.mem_of_getElem? (i := 142) rfl)) (by decide +kernel)
theorem k3_143 : (Cond.methodLink "BookChecksModel" (95 : Nat) ({ cls := "BookChecksModel", name := "tell", desc := "(IIIIJ)I" } : MethodName)) ∈ gW := gW_in (in3 (List.mem_of_getElem? (i := 143) rfl)) (by decide +kernel)
theorem k3_145 : (Cond.instanceMethod ({ cls := "BookChecksModel", name := "tell", desc := "(IIIIJ)I" } : MethodName)) ∈ gW := gW_in (in3 (List.mem_of_getElem? (i := 145) rfl)) (by decide +kernel)
theorem k3_146 : (Cond.code ({ cls := "BookChecksModel", name := "tell", desc := "(IIIIJ)I" } : MethodName) prog_10_method_5_code (8 : Nat) (Option.some ClassFile.FieldType.int)) ∈ gW := gW_in (in3 (List.mem_of_getElem? (i := 146) rfl)) (by decide +kernel)
theorem k3_147 : (Cond.methodLink "BookChecksModel" (83 : Nat) ({ cls := "BookChecksModel", name := "isTen", desc := "(I)Z" } : MethodName)) ∈ gW := gW_in (in3 (List.mem_of_getElem? (i := 147) rfl)) (by decide +kernel)
theorem k3_148 : (Cond.static ({ cls := "BookChecksModel", name := "isTen", desc := "(I)Z" } : MethodName)) ∈ gW := gW_in (in3 (List.mem_of_getElem? (i := 148) rfl)) (by decide +kernel)
theorem k3_149 : (Cond.code ({ cls := "BookChecksModel", name := "isTen", desc := "(I)Z" } : MethodName) prog_10_method_4_code (1 : Nat) (Option.some ClassFile.FieldType.boolean)) ∈ gW := gW_in (in3 (List.mem_of_getElem? (i := 149) rfl)) (by decide +kernel)
theorem k3_150 : (Cond.constantLong "BookChecksModel" (87 : Nat) (100000 : Int64)) ∈ gW := gW_in (in3 (List.mem_of_getElem? (i := 150) rfl)) (by decide +kernel)
theorem k3_151 : (Cond.methodLink "BookChecksModel" (89 : Nat) ({ cls := "BookChecksModel", name := "within", desc := "(JJJ)Z" } : MethodName)) ∈ gW := gW_in (in3 (List.mem_of_getElem? (i := 151) rfl)) (by decide +kernel)
theorem k3_152 : (Cond.static ({ cls := "BookChecksModel", name := "within", desc := "(JJJ)Z" } : MethodName)) ∈ gW := gW_in (in3 (List.mem_of_getElem? (i := 152) rfl)) (by decide +kernel)
theorem k3_153 : (Cond.code ({ cls := "BookChecksModel", name := "within", desc := "(JJJ)Z" } : MethodName) prog_10_method_3_code (6 : Nat) (Option.some ClassFile.FieldType.boolean)) ∈ gW := gW_in (in3 (List.mem_of_getElem? (i := 153) rfl)) (by decide +kernel)
theorem k3_154 : (Cond.constantLong "BookChecksModel" (93 : Nat) (1000000000 : Int64)) ∈ gW := gW_in (in3 (List.mem_of_getElem? (i := 154) rfl)) (by decide +kernel)
theorem k3_155 : (Cond.methodLink "BookChecksLaw" (37 : Nat) ({ cls := "BookChecksModel", name := "sale", desc := "(IIIJ)I" } : MethodName)) ∈ gW := gW_in (in3 (List.mem_of_getElem? (i := 155) rfl)) (by decide +kernel)
theorem k3_156 : (Cond.instanceMethod ({ cls := "BookChecksModel", name := "sale", desc := "(IIIJ)I" } : MethodName)) ∈ gW := gW_in (in3 (List.mem_of_getElem? (i := 156) rfl)) (by decide +kernel)
theorem k3_157 : (Cond.selects "BookChecksModel" ({ cls := "BookChecksModel", name := "sale", desc := "(IIIJ)I" } : MethodName) ({ cls := "BookChecksModel", name := "sale", desc := "(IIIJ)I" } : MethodName)) ∈ gW := gW_in (in3 (List.mem_of_getElem? (i := 157) rfl)) (by decide +kernel)
theorem k3_158 : (Cond.code ({ cls := "BookChecksModel", name := "sale", desc := "(IIIJ)I" } : MethodName) prog_10_method_7_code (6 : Nat) (Option.some ClassFile.FieldType.int)) ∈ gW := gW_in (in3 (List.mem_of_getElem? (i := 158) rfl)) (by decide +kernel)
theorem k3_159 : (Cond.methodLink "BookChecksLaw" (42 : Nat) ({ cls := "BookChecksModel", name := "run", desc := "()I" } : MethodName)) ∈ gW := gW_in (in3 (List.mem_of_getElem? (i := 159) rfl)) (by decide +kernel)
theorem k3_160 : (Cond.instanceMethod ({ cls := "BookChecksModel", name := "run", desc := "()I" } : MethodName)) ∈ gW := gW_in (in3 (List.mem_of_getElem? (i := 160) rfl)) (by decide +kernel)
theorem k3_161 : (Cond.selects "BookChecksModel" ({ cls := "BookChecksModel", name := "run", desc := "()I" } : MethodName) ({ cls := "BookChecksModel", name := "run", desc := "()I" } : MethodName)) ∈ gW := gW_in (in3 (List.mem_of_getElem? (i := 161) rfl)) (by decide +kernel)
theorem k3_162 : (Cond.code ({ cls := "BookChecksModel", name := "run", desc := "()I" } : MethodName) prog_10_method_9_code (9 : Nat) (Option.some ClassFile.FieldType.int)) ∈ gW := gW_in (in3 (List.mem_of_getElem? (i := 162) rfl)) (by decide +kernel)
theorem k3_163 : (Cond.methodLink "BookChecksModel" (101 : Nat) ({ cls := "BookChecksModel", name := "pointsOf", desc := "(II)I" } : MethodName)) ∈ gW := gW_in (in3 (List.mem_of_getElem? (i := 163) rfl)) (by decide +kernel)
theorem k3_165 : (Cond.instanceMethod ({ cls := "BookChecksModel", name := "pointsOf", desc := "(II)I" } : MethodName)) ∈ gW := gW_in (in3 (List.mem_of_getElem? (i := 165) rfl)) (by decide +kernel)
theorem k3_166 : (Cond.code ({ cls := "BookChecksModel", name := "pointsOf", desc := "(II)I" } : MethodName) prog_10_method_8_code (10 : Nat) (Option.some ClassFile.FieldType.int)) ∈ gW := gW_in (in3 (List.mem_of_getElem? (i := 166) rfl)) (by decide +kernel)
theorem k3_167 : (Cond.constantLong "BookChecksModel" (99 : Nat) (900 : Int64)) ∈ gW := gW_in (in3 (List.mem_of_getElem? (i := 167) rfl)) (by decide +kernel)
theorem k3_168 : (Cond.methodLink "BookChecksLaw" (47 : Nat) ({ cls := "BookChecksModel", name := "pair", desc := "(I)I" } : MethodName)) ∈ gW := gW_in (in3 (List.mem_of_getElem? (i := 168) rfl)) (by decide +kernel)
theorem k3_169 : (Cond.instanceMethod ({ cls := "BookChecksModel", name := "pair", desc := "(I)I" } : MethodName)) ∈ gW := gW_in (in3 (List.mem_of_getElem? (i := 169) rfl)) (by decide +kernel)
theorem k3_170 : (Cond.selects "BookChecksModel" ({ cls := "BookChecksModel", name := "pair", desc := "(I)I" } : MethodName) ({ cls := "BookChecksModel", name := "pair", desc := "(I)I" } : MethodName)) ∈ gW := gW_in (in3 (List.mem_of_getElem? (i := 170) rfl)) (by decide +kernel)
theorem k3_171 : (Cond.code ({ cls := "BookChecksModel", name := "pair", desc := "(I)I" } : MethodName) prog_10_method_11_code (2 : Nat) (Option.some ClassFile.FieldType.int)) ∈ gW := gW_in (in3 (List.mem_of_getElem? (i := 171) rfl)) (by decide +kernel)
theorem k3_172 : (Cond.methodLink "BookChecksModel" (105 : Nat) ({ cls := "BookChecksModel", name := "isPage", desc := "(I)Z" } : MethodName)) ∈ gW := gW_in (in3 (List.mem_of_getElem? (i := 172) rfl)) (by decide +kernel)
theorem k3_174 : (Cond.instanceMethod ({ cls := "BookChecksModel", name := "isPage", desc := "(I)Z" } : MethodName)) ∈ gW := gW_in (in3 (List.mem_of_getElem? (i := 174) rfl)) (by decide +kernel)
theorem k3_175 : (Cond.code ({ cls := "BookChecksModel", name := "isPage", desc := "(I)Z" } : MethodName) prog_10_method_10_code (2 : Nat) (Option.some ClassFile.FieldType.boolean)) ∈ gW := gW_in (in3 (List.mem_of_getElem? (i := 175) rfl)) (by decide +kernel)
theorem k3_176 : (Cond.methodLink "BookChecksLaw" (51 : Nat) ({ cls := "BookChecksModel", name := "points", desc := "(I)I" } : MethodName)) ∈ gW := gW_in (in3 (List.mem_of_getElem? (i := 176) rfl)) (by decide +kernel)
theorem k3_177 : (Cond.instanceMethod ({ cls := "BookChecksModel", name := "points", desc := "(I)I" } : MethodName)) ∈ gW := gW_in (in3 (List.mem_of_getElem? (i := 177) rfl)) (by decide +kernel)
theorem k3_178 : (Cond.selects "BookChecksModel" ({ cls := "BookChecksModel", name := "points", desc := "(I)I" } : MethodName) ({ cls := "BookChecksModel", name := "points", desc := "(I)I" } : MethodName)) ∈ gW := gW_in (in3 (List.mem_of_getElem? (i := 178) rfl)) (by decide +kernel)
theorem k3_179 : (Cond.code ({ cls := "BookChecksModel", name := "points", desc := "(I)I" } : MethodName) prog_10_method_12_code (2 : Nat) (Option.some ClassFile.FieldType.int)) ∈ gW := gW_in (in3 (List.mem_of_getElem? (i := 179) rfl)) (by decide +kernel)
theorem k3_180 : (Cond.methodLink "BookChecksLaw" (55 : Nat) ({ cls := "BookChecksModel", name := "differs", desc := "(I)J" } : MethodName)) ∈ gW := gW_in (in3 (List.mem_of_getElem? (i := 180) rfl)) (by decide +kernel)
theorem k3_181 : (Cond.instanceMethod ({ cls := "BookChecksModel", name := "differs", desc := "(I)J" } : MethodName)) ∈ gW := gW_in (in3 (List.mem_of_getElem? (i := 181) rfl)) (by decide +kernel)
theorem k3_182 : (Cond.selects "BookChecksModel" ({ cls := "BookChecksModel", name := "differs", desc := "(I)J" } : MethodName) ({ cls := "BookChecksModel", name := "differs", desc := "(I)J" } : MethodName)) ∈ gW := gW_in (in3 (List.mem_of_getElem? (i := 182) rfl)) (by decide +kernel)
theorem k3_183 : (Cond.code ({ cls := "BookChecksModel", name := "differs", desc := "(I)J" } : MethodName) prog_10_method_13_code (2 : Nat) (Option.some ClassFile.FieldType.long)) ∈ gW := gW_in (in3 (List.mem_of_getElem? (i := 183) rfl)) (by decide +kernel)
theorem k3_184 : (Cond.methodLink "BookChecksLaw" (60 : Nat) ({ cls := "BookChecksModel", name := "waits", desc := "(II)I" } : MethodName)) ∈ gW := gW_in (in3 (List.mem_of_getElem? (i := 184) rfl)) (by decide +kernel)
theorem k3_185 : (Cond.instanceMethod ({ cls := "BookChecksModel", name := "waits", desc := "(II)I" } : MethodName)) ∈ gW := gW_in (in3 (List.mem_of_getElem? (i := 185) rfl)) (by decide +kernel)
theorem k3_186 : (Cond.selects "BookChecksModel" ({ cls := "BookChecksModel", name := "waits", desc := "(II)I" } : MethodName) ({ cls := "BookChecksModel", name := "waits", desc := "(II)I" } : MethodName)) ∈ gW := gW_in (in3 (List.mem_of_getElem? (i := 186) rfl)) (by decide +kernel)
theorem k3_187 : (Cond.code ({ cls := "BookChecksModel", name := "waits", desc := "(II)I" } : MethodName) prog_10_method_14_code (5 : Nat) (Option.some ClassFile.FieldType.int)) ∈ gW := gW_in (in3 (List.mem_of_getElem? (i := 187) rfl)) (by decide +kernel)
theorem k3_188 : (Cond.constantLong "BookChecksModel" (108 : Nat) (5 : Int64)) ∈ gW := gW_in (in3 (List.mem_of_getElem? (i := 188) rfl)) (by decide +kernel)
theorem k3_189 : (Cond.methodLink "BookChecksLaw" (64 : Nat) ({ cls := "BookChecksModel", name := "pageAt", desc := "(I)J" } : MethodName)) ∈ gW := gW_in (in3 (List.mem_of_getElem? (i := 189) rfl)) (by decide +kernel)
theorem k3_190 : (Cond.instanceMethod ({ cls := "BookChecksModel", name := "pageAt", desc := "(I)J" } : MethodName)) ∈ gW := gW_in (in3 (List.mem_of_getElem? (i := 190) rfl)) (by decide +kernel)
theorem k3_191 : (Cond.selects "BookChecksModel" ({ cls := "BookChecksModel", name := "pageAt", desc := "(I)J" } : MethodName) ({ cls := "BookChecksModel", name := "pageAt", desc := "(I)J" } : MethodName)) ∈ gW := gW_in (in3 (List.mem_of_getElem? (i := 191) rfl)) (by decide +kernel)
theorem k3_192 : (Cond.code ({ cls := "BookChecksModel", name := "pageAt", desc := "(I)J" } : MethodName) prog_10_method_15_code (2 : Nat) (Option.some ClassFile.FieldType.long)) ∈ gW := gW_in (in3 (List.mem_of_getElem? (i := 192) rfl)) (by decide +kernel)
theorem k3_193 : (Cond.methodLink "BookChecksLaw" (71 : Nat) ({ cls := "BookChecksModel", name := "balance", desc := "(I)J" } : MethodName)) ∈ gW := gW_in (in3 (List.mem_of_getElem? (i := 193) rfl)) (by decide +kernel)
theorem k3_194 : (Cond.instanceMethod ({ cls := "BookChecksModel", name := "balance", desc := "(I)J" } : MethodName)) ∈ gW := gW_in (in3 (List.mem_of_getElem? (i := 194) rfl)) (by decide +kernel)
theorem k3_195 : (Cond.selects "BookChecksModel" ({ cls := "BookChecksModel", name := "balance", desc := "(I)J" } : MethodName) ({ cls := "BookChecksModel", name := "balance", desc := "(I)J" } : MethodName)) ∈ gW := gW_in (in3 (List.mem_of_getElem? (i := 195) rfl)) (by decide +kernel)
theorem k3_196 : (Cond.code ({ cls := "BookChecksModel", name := "balance", desc := "(I)J" } : MethodName) prog_10_method_16_code (5 : Nat) (Option.some ClassFile.FieldType.long)) ∈ gW := gW_in (in3 (List.mem_of_getElem? (i := 196) rfl)) (by decide +kernel)
theorem k3_197 : (Cond.methodLink "BookChecksLaw" (76 : Nat) ({ cls := "BookChecksModel", name := "plant", desc := "(JI)I" } : MethodName)) ∈ gW := gW_in (in3 (List.mem_of_getElem? (i := 197) rfl)) (by decide +kernel)
theorem k3_198 : (Cond.instanceMethod ({ cls := "BookChecksModel", name := "plant", desc := "(JI)I" } : MethodName)) ∈ gW := gW_in (in3 (List.mem_of_getElem? (i := 198) rfl)) (by decide +kernel)
theorem k3_199 : (Cond.selects "BookChecksModel" ({ cls := "BookChecksModel", name := "plant", desc := "(JI)I" } : MethodName) ({ cls := "BookChecksModel", name := "plant", desc := "(JI)I" } : MethodName)) ∈ gW := gW_in (in3 (List.mem_of_getElem? (i := 199) rfl)) (by decide +kernel)
theorem k3_200 : (Cond.code ({ cls := "BookChecksModel", name := "plant", desc := "(JI)I" } : MethodName) prog_10_method_17_code (4 : Nat) (Option.some ClassFile.FieldType.int)) ∈ gW := gW_in (in3 (List.mem_of_getElem? (i := 200) rfl)) (by decide +kernel)
theorem k3_201 : (Cond.methodLink "BookChecksLaw" (81 : Nat) ({ cls := "BookChecksModel", name := "out", desc := "(IIJ)I" } : MethodName)) ∈ gW := gW_in (in3 (List.mem_of_getElem? (i := 201) rfl)) (by decide +kernel)
theorem k3_202 : (Cond.instanceMethod ({ cls := "BookChecksModel", name := "out", desc := "(IIJ)I" } : MethodName)) ∈ gW := gW_in (in3 (List.mem_of_getElem? (i := 202) rfl)) (by decide +kernel)
theorem k3_203 : (Cond.selects "BookChecksModel" ({ cls := "BookChecksModel", name := "out", desc := "(IIJ)I" } : MethodName) ({ cls := "BookChecksModel", name := "out", desc := "(IIJ)I" } : MethodName)) ∈ gW := gW_in (in3 (List.mem_of_getElem? (i := 203) rfl)) (by decide +kernel)
theorem k3_204 : (Cond.code ({ cls := "BookChecksModel", name := "out", desc := "(IIJ)I" } : MethodName) prog_10_method_19_code (5 : Nat) (Option.some ClassFile.FieldType.int)) ∈ gW := gW_in (in3 (List.mem_of_getElem? (i := 204) rfl)) (by decide +kernel)
theorem k3_205 : (Cond.methodLink "BookChecksModel" (113 : Nat) ({ cls := "BookChecksModel", name := "isPlant", desc := "(I)Z" } : MethodName)) ∈ gW := gW_in (in3 (List.mem_of_getElem? (i := 205) rfl)) (by decide +kernel)
theorem k3_207 : (Cond.instanceMethod ({ cls := "BookChecksModel", name := "isPlant", desc := "(I)Z" } : MethodName)) ∈ gW := gW_in (in3 (List.mem_of_getElem? (i := 207) rfl)) (by decide +kernel)
theorem k3_208 : (Cond.code ({ cls := "BookChecksModel", name := "isPlant", desc := "(I)Z" } : MethodName) prog_10_method_18_code (2 : Nat) (Option.some ClassFile.FieldType.boolean)) ∈ gW := gW_in (in3 (List.mem_of_getElem? (i := 208) rfl)) (by decide +kernel)
theorem k3_209 : (Cond.methodLink "BookChecksLaw" (85 : Nat) ({ cls := "BookChecksModel", name := "lacks", desc := "(I)J" } : MethodName)) ∈ gW := gW_in (in3 (List.mem_of_getElem? (i := 209) rfl)) (by decide +kernel)
theorem k3_210 : (Cond.instanceMethod ({ cls := "BookChecksModel", name := "lacks", desc := "(I)J" } : MethodName)) ∈ gW := gW_in (in3 (List.mem_of_getElem? (i := 210) rfl)) (by decide +kernel)
theorem k3_211 : (Cond.selects "BookChecksModel" ({ cls := "BookChecksModel", name := "lacks", desc := "(I)J" } : MethodName) ({ cls := "BookChecksModel", name := "lacks", desc := "(I)J" } : MethodName)) ∈ gW := gW_in (in3 (List.mem_of_getElem? (i := 211) rfl)) (by decide +kernel)
theorem k3_212 : (Cond.code ({ cls := "BookChecksModel", name := "lacks", desc := "(I)J" } : MethodName) prog_10_method_22_code (2 : Nat) (Option.some ClassFile.FieldType.long)) ∈ gW := gW_in (in3 (List.mem_of_getElem? (i := 212) rfl)) (by decide +kernel)
theorem k3_213 : (Cond.methodLink "BookChecksModel" (120 : Nat) ({ cls := "BookChecksModel", name := "lack", desc := "(I)J" } : MethodName)) ∈ gW := gW_in (in3 (List.mem_of_getElem? (i := 213) rfl)) (by decide +kernel)
theorem k3_215 : (Cond.instanceMethod ({ cls := "BookChecksModel", name := "lack", desc := "(I)J" } : MethodName)) ∈ gW := gW_in (in3 (List.mem_of_getElem? (i := 215) rfl)) (by decide +kernel)
theorem k3_216 : (Cond.code ({ cls := "BookChecksModel", name := "lack", desc := "(I)J" } : MethodName) prog_10_method_21_code (4 : Nat) (Option.some ClassFile.FieldType.long)) ∈ gW := gW_in (in3 (List.mem_of_getElem? (i := 216) rfl)) (by decide +kernel)
theorem k3_217 : (Cond.methodLink "BookChecksModel" (116 : Nat) ({ cls := "BookChecksModel", name := "ownIn", desc := "(II)J" } : MethodName)) ∈ gW := gW_in (in3 (List.mem_of_getElem? (i := 217) rfl)) (by decide +kernel)
theorem k3_219 : (Cond.instanceMethod ({ cls := "BookChecksModel", name := "ownIn", desc := "(II)J" } : MethodName)) ∈ gW := gW_in (in3 (List.mem_of_getElem? (i := 219) rfl)) (by decide +kernel)
theorem k3_220 : (Cond.code ({ cls := "BookChecksModel", name := "ownIn", desc := "(II)J" } : MethodName) prog_10_method_20_code (7 : Nat) (Option.some ClassFile.FieldType.long)) ∈ gW := gW_in (in3 (List.mem_of_getElem? (i := 220) rfl)) (by decide +kernel)
theorem k3_221 : (Cond.constantLong "BookChecksModel" (124 : Nat) (-1 : Int64)) ∈ gW := gW_in (in3 (List.mem_of_getElem? (i := 221) rfl)) (by decide +kernel)
theorem k3_222 : (Cond.methodLink "BookChecksLaw" (89 : Nat) ({ cls := "BookChecksModel", name := "nowhere", desc := "(II)I" } : MethodName)) ∈ gW := gW_in (in3 (List.mem_of_getElem? (i := 222) rfl)) (by decide +kernel)
theorem k3_223 : (Cond.instanceMethod ({ cls := "BookChecksModel", name := "nowhere", desc := "(II)I" } : MethodName)) ∈ gW := gW_in (in3 (List.mem_of_getElem? (i := 223) rfl)) (by decide +kernel)
theorem k3_224 : (Cond.selects "BookChecksModel" ({ cls := "BookChecksModel", name := "nowhere", desc := "(II)I" } : MethodName) ({ cls := "BookChecksModel", name := "nowhere", desc := "(II)I" } : MethodName)) ∈ gW := gW_in (in3 (List.mem_of_getElem? (i := 224) rfl)) (by decide +kernel)
theorem k3_225 : (Cond.code ({ cls := "BookChecksModel", name := "nowhere", desc := "(II)I" } : MethodName) prog_10_method_24_code (7 : Nat) (Option.some ClassFile.FieldType.int)) ∈ gW := gW_in (in3 (List.mem_of_getElem? (i := 225) rfl)) (by decide +kernel)
theorem k3_226 : (Cond.methodLink "BookChecksModel" (126 : Nat) ({ cls := "BookChecksModel", name := "ones", desc := "(I)I" } : MethodName)) ∈ gW := gW_in (in3 (List.mem_of_getElem? (i := 226) rfl)) (by decide +kernel)
theorem k3_227 : (Cond.static ({ cls := "BookChecksModel", name := "ones", desc := "(I)I" } : MethodName)) ∈ gW := gW_in (in3 (List.mem_of_getElem? (i := 227) rfl)) (by decide +kernel)
theorem k3_228 : (Cond.code ({ cls := "BookChecksModel", name := "ones", desc := "(I)I" } : MethodName) prog_10_method_23_code (3 : Nat) (Option.some ClassFile.FieldType.int)) ∈ gW := gW_in (in3 (List.mem_of_getElem? (i := 228) rfl)) (by decide +kernel)
theorem k3_229 : (Cond.methodLink "BookChecksLaw" (94 : Nat) ({ cls := "BookChecksModel", name := "risk", desc := "(III)Z" } : MethodName)) ∈ gW := gW_in (in3 (List.mem_of_getElem? (i := 229) rfl)) (by decide +kernel)
theorem k3_230 : (Cond.instanceMethod ({ cls := "BookChecksModel", name := "risk", desc := "(III)Z" } : MethodName)) ∈ gW := gW_in (in3 (List.mem_of_getElem? (i := 230) rfl)) (by decide +kernel)
theorem k3_231 : (Cond.selects "BookChecksModel" ({ cls := "BookChecksModel", name := "risk", desc := "(III)Z" } : MethodName) ({ cls := "BookChecksModel", name := "risk", desc := "(III)Z" } : MethodName)) ∈ gW := gW_in (in3 (List.mem_of_getElem? (i := 231) rfl)) (by decide +kernel)
theorem k3_232 : (Cond.code ({ cls := "BookChecksModel", name := "risk", desc := "(III)Z" } : MethodName) prog_10_method_25_code (4 : Nat) (Option.some ClassFile.FieldType.boolean)) ∈ gW := gW_in (in3 (List.mem_of_getElem? (i := 232) rfl)) (by decide +kernel)
theorem k3_233 : (Cond.methodLink "BookChecksLaw" (98 : Nat) ({ cls := "BookChecksModel", name := "draw", desc := "(I)I" } : MethodName)) ∈ gW := gW_in (in3 (List.mem_of_getElem? (i := 233) rfl)) (by decide +kernel)
theorem k3_234 : (Cond.instanceMethod ({ cls := "BookChecksModel", name := "draw", desc := "(I)I" } : MethodName)) ∈ gW := gW_in (in3 (List.mem_of_getElem? (i := 234) rfl)) (by decide +kernel)
theorem k3_235 : (Cond.selects "BookChecksModel" ({ cls := "BookChecksModel", name := "draw", desc := "(I)I" } : MethodName) ({ cls := "BookChecksModel", name := "draw", desc := "(I)I" } : MethodName)) ∈ gW := gW_in (in3 (List.mem_of_getElem? (i := 235) rfl)) (by decide +kernel)
theorem k3_236 : (Cond.code ({ cls := "BookChecksModel", name := "draw", desc := "(I)I" } : MethodName) prog_10_method_27_code (3 : Nat) (Option.some ClassFile.FieldType.int)) ∈ gW := gW_in (in3 (List.mem_of_getElem? (i := 236) rfl)) (by decide +kernel)
theorem k3_237 : (Cond.methodLink "BookChecksModel" (137 : Nat) ({ cls := "BookChecksModel", name := "tryDraw", desc := "(JI)V" } : MethodName)) ∈ gW := gW_in (in3 (List.mem_of_getElem? (i := 237) rfl)) (by decide +kernel)
theorem k3_239 : (Cond.instanceMethod ({ cls := "BookChecksModel", name := "tryDraw", desc := "(JI)V" } : MethodName)) ∈ gW := gW_in (in3 (List.mem_of_getElem? (i := 239) rfl)) (by decide +kernel)
theorem k4_0 : (Cond.code ({ cls := "BookChecksModel", name := "tryDraw", desc := "(JI)V" } : MethodName) prog_10_method_26_code (10 : Nat) (Option.none : Option ClassFile.FieldType)) ∈ gW := gW_in (in4 (List.mem_of_getElem? (i := 0) rfl)) (by decide +kernel)
theorem k4_1 : (Cond.constantLong "BookChecksModel" (133 : Nat) (6364136223846793005 : Int64)) ∈ gW := gW_in (in4 (List.mem_of_getElem? (i := 1) rfl)) (by decide +kernel)
theorem k4_2 : (Cond.constantLong "BookChecksModel" (135 : Nat) (1442695040888963407 : Int64)) ∈ gW := gW_in (in4 (List.mem_of_getElem? (i := 2) rfl)) (by decide +kernel)
theorem k4_3 : (Cond.methodLink "BookChecksLaw" (102 : Nat) ({ cls := "BookChecksModel", name := "drawn", desc := "(I)I" } : MethodName)) ∈ gW := gW_in (in4 (List.mem_of_getElem? (i := 3) rfl)) (by decide +kernel)
theorem k4_4 : (Cond.instanceMethod ({ cls := "BookChecksModel", name := "drawn", desc := "(I)I" } : MethodName)) ∈ gW := gW_in (in4 (List.mem_of_getElem? (i := 4) rfl)) (by decide +kernel)
theorem k4_5 : (Cond.selects "BookChecksModel" ({ cls := "BookChecksModel", name := "drawn", desc := "(I)I" } : MethodName) ({ cls := "BookChecksModel", name := "drawn", desc := "(I)I" } : MethodName)) ∈ gW := gW_in (in4 (List.mem_of_getElem? (i := 5) rfl)) (by decide +kernel)
theorem k4_6 : (Cond.code ({ cls := "BookChecksModel", name := "drawn", desc := "(I)I" } : MethodName) prog_10_method_28_code (2 : Nat) (Option.some ClassFile.FieldType.int)) ∈ gW := gW_in (in4 (List.mem_of_getElem? (i := 6) rfl)) (by decide +kernel)
theorem k4_7 : (Cond.methodLink "BookChecksLaw" (107 : Nat) ({ cls := "BookChecksModel", name := "same", desc := "(J)Z" } : MethodName)) ∈ gW := gW_in (in4 (List.mem_of_getElem? (i := 7) rfl)) (by decide +kernel)
theorem k4_8 : (Cond.instanceMethod ({ cls := "BookChecksModel", name := "same", desc := "(J)Z" } : MethodName)) ∈ gW := gW_in (in4 (List.mem_of_getElem? (i := 8) rfl)) (by decide +kernel)
theorem k4_9 : (Cond.selects "BookChecksModel" ({ cls := "BookChecksModel", name := "same", desc := "(J)Z" } : MethodName) ({ cls := "BookChecksModel", name := "same", desc := "(J)Z" } : MethodName)) ∈ gW := gW_in (in4 (List.mem_of_getElem? (i := 9) rfl)) (by decide +kernel)
theorem k4_10 : (Cond.code ({ cls := "BookChecksModel", name := "same", desc := "(J)Z" } : MethodName) prog_10_method_29_code (5 : Nat) (Option.some ClassFile.FieldType.boolean)) ∈ gW := gW_in (in4 (List.mem_of_getElem? (i := 10) rfl)) (by decide +kernel)
theorem k4_11 : (Cond.methodLink "BookChecksLaw" (112 : Nat) ({ cls := "BookChecksModel", name := "missed", desc := "(III)J" } : MethodName)) ∈ gW := gW_in (in4 (List.mem_of_getElem? (i := 11) rfl)) (by decide +kernel)
theorem k4_12 : (Cond.instanceMethod ({ cls := "BookChecksModel", name := "missed", desc := "(III)J" } : MethodName)) ∈ gW := gW_in (in4 (List.mem_of_getElem? (i := 12) rfl)) (by decide +kernel)
theorem k4_13 : (Cond.selects "BookChecksModel" ({ cls := "BookChecksModel", name := "missed", desc := "(III)J" } : MethodName) ({ cls := "BookChecksModel", name := "missed", desc := "(III)J" } : MethodName)) ∈ gW := gW_in (in4 (List.mem_of_getElem? (i := 13) rfl)) (by decide +kernel)
theorem k4_14 : (Cond.code ({ cls := "BookChecksModel", name := "missed", desc := "(III)J" } : MethodName) prog_10_method_30_code (15 : Nat) (Option.some ClassFile.FieldType.long)) ∈ gW := gW_in (in4 (List.mem_of_getElem? (i := 14) rfl)) (by decide +kernel)
theorem k4_15 : (Cond.methodLink "BookChecksLaw" (116 : Nat) ({ cls := "BookChecksModel", name := "camera", desc := "(II)I" } : MethodName)) ∈ gW := gW_in (in4 (List.mem_of_getElem? (i := 15) rfl)) (by decide +kernel)
theorem k4_16 : (Cond.instanceMethod ({ cls := "BookChecksModel", name := "camera", desc := "(II)I" } : MethodName)) ∈ gW := gW_in (in4 (List.mem_of_getElem? (i := 16) rfl)) (by decide +kernel)
theorem k4_17 : (Cond.selects "BookChecksModel" ({ cls := "BookChecksModel", name := "camera", desc := "(II)I" } : MethodName) ({ cls := "BookChecksModel", name := "camera", desc := "(II)I" } : MethodName)) ∈ gW := gW_in (in4 (List.mem_of_getElem? (i := 17) rfl)) (by decide +kernel)
theorem k4_18 : (Cond.code ({ cls := "BookChecksModel", name := "camera", desc := "(II)I" } : MethodName) prog_10_method_31_code (10 : Nat) (Option.some ClassFile.FieldType.int)) ∈ gW := gW_in (in4 (List.mem_of_getElem? (i := 18) rfl)) (by decide +kernel)
theorem k4_19 : (Cond.constantLong "BookChecksModel" (147 : Nat) (20 : Int64)) ∈ gW := gW_in (in4 (List.mem_of_getElem? (i := 19) rfl)) (by decide +kernel)
theorem k4_20 : (Cond.constantLong "BookChecksModel" (149 : Nat) (99999 : Int64)) ∈ gW := gW_in (in4 (List.mem_of_getElem? (i := 20) rfl)) (by decide +kernel)
theorem k4_21 : (Cond.methodLink "BookChecksLaw" (121 : Nat) ({ cls := "BookChecksModel", name := "act", desc := "(III)I" } : MethodName)) ∈ gW := gW_in (in4 (List.mem_of_getElem? (i := 21) rfl)) (by decide +kernel)
theorem k4_22 : (Cond.instanceMethod ({ cls := "BookChecksModel", name := "act", desc := "(III)I" } : MethodName)) ∈ gW := gW_in (in4 (List.mem_of_getElem? (i := 22) rfl)) (by decide +kernel)
theorem k4_23 : (Cond.selects "BookChecksModel" ({ cls := "BookChecksModel", name := "act", desc := "(III)I" } : MethodName) ({ cls := "BookChecksModel", name := "act", desc := "(III)I" } : MethodName)) ∈ gW := gW_in (in4 (List.mem_of_getElem? (i := 23) rfl)) (by decide +kernel)
theorem k4_24 : (Cond.code ({ cls := "BookChecksModel", name := "act", desc := "(III)I" } : MethodName) prog_10_method_33_code (5 : Nat) (Option.some ClassFile.FieldType.int)) ∈ gW := gW_in (in4 (List.mem_of_getElem? (i := 24) rfl)) (by decide +kernel)
theorem k4_25 : (Cond.methodLink "BookChecksModel" (151 : Nat) ({ cls := "BookChecksModel", name := "next", desc := "(II)I" } : MethodName)) ∈ gW := gW_in (in4 (List.mem_of_getElem? (i := 25) rfl)) (by decide +kernel)
theorem k4_26 : (Cond.static ({ cls := "BookChecksModel", name := "next", desc := "(II)I" } : MethodName)) ∈ gW := gW_in (in4 (List.mem_of_getElem? (i := 26) rfl)) (by decide +kernel)
theorem k4_27 : (Cond.code ({ cls := "BookChecksModel", name := "next", desc := "(II)I" } : MethodName) prog_10_method_32_code (2 : Nat) (Option.some ClassFile.FieldType.int)) ∈ gW := gW_in (in4 (List.mem_of_getElem? (i := 27) rfl)) (by decide +kernel)
theorem k4_28 : (Cond.methodLink "BookChecksLaw" (125 : Nat) ({ cls := "BookChecksModel", name := "state", desc := "(I)I" } : MethodName)) ∈ gW := gW_in (in4 (List.mem_of_getElem? (i := 28) rfl)) (by decide +kernel)
theorem k4_29 : (Cond.instanceMethod ({ cls := "BookChecksModel", name := "state", desc := "(I)I" } : MethodName)) ∈ gW := gW_in (in4 (List.mem_of_getElem? (i := 29) rfl)) (by decide +kernel)
theorem k4_30 : (Cond.selects "BookChecksModel" ({ cls := "BookChecksModel", name := "state", desc := "(I)I" } : MethodName) ({ cls := "BookChecksModel", name := "state", desc := "(I)I" } : MethodName)) ∈ gW := gW_in (in4 (List.mem_of_getElem? (i := 30) rfl)) (by decide +kernel)
theorem k4_31 : (Cond.code ({ cls := "BookChecksModel", name := "state", desc := "(I)I" } : MethodName) prog_10_method_34_code (2 : Nat) (Option.some ClassFile.FieldType.int)) ∈ gW := gW_in (in4 (List.mem_of_getElem? (i := 31) rfl)) (by decide +kernel)
theorem k4_32 : (Cond.methodLink "BookChecksLaw" (129 : Nat) ({ cls := "BookChecksModel", name := "repeated", desc := "(I)I" } : MethodName)) ∈ gW := gW_in (in4 (List.mem_of_getElem? (i := 32) rfl)) (by decide +kernel)
theorem k4_33 : (Cond.instanceMethod ({ cls := "BookChecksModel", name := "repeated", desc := "(I)I" } : MethodName)) ∈ gW := gW_in (in4 (List.mem_of_getElem? (i := 33) rfl)) (by decide +kernel)
theorem k4_34 : (Cond.selects "BookChecksModel" ({ cls := "BookChecksModel", name := "repeated", desc := "(I)I" } : MethodName) ({ cls := "BookChecksModel", name := "repeated", desc := "(I)I" } : MethodName)) ∈ gW := gW_in (in4 (List.mem_of_getElem? (i := 34) rfl)) (by decide +kernel)
theorem k4_35 : (Cond.code ({ cls := "BookChecksModel", name := "repeated", desc := "(I)I" } : MethodName) prog_10_method_35_code (2 : Nat) (Option.some ClassFile.FieldType.int)) ∈ gW := gW_in (in4 (List.mem_of_getElem? (i := 35) rfl)) (by decide +kernel)
theorem k4_36 : (Cond.constantLong "BookChecksLaw" (27 : Nat) (4294967295 : Int64)) ∈ gW := gW_in (in4 (List.mem_of_getElem? (i := 36) rfl)) (by decide +kernel)
theorem ks_Jo_partAll : Cond.selects "BookChecks$Joins" ⟨"BookChecks$Joins", "partAll", "()V"⟩ ⟨"BookChecks$Joins", "partAll", "()V"⟩ ∈ gW := gW_sel (List.mem_of_getElem? (i := 0) rfl) (by decide +kernel)
theorem ks_Jo_joinBest : Cond.selects "BookChecks$Joins" ⟨"BookChecks$Joins", "joinBest", "(LBookChecks$Book;LBookChecks$Book;)Z"⟩ ⟨"BookChecks$Joins", "joinBest", "(LBookChecks$Book;LBookChecks$Book;)Z"⟩ ∈ gW := gW_sel (List.mem_of_getElem? (i := 1) rfl) (by decide +kernel)
theorem ks_Pl_ownKind : Cond.selects "BookChecks$Plants" ⟨"BookChecks$Plants", "ownKind", "(I)I"⟩ ⟨"BookChecks$Plants", "ownKind", "(I)I"⟩ ∈ gW := gW_sel (List.mem_of_getElem? (i := 2) rfl) (by decide +kernel)
theorem ks_Pl_gramsOfSet : Cond.selects "BookChecks$Plants" ⟨"BookChecks$Plants", "gramsOfSet", "(II)J"⟩ ⟨"BookChecks$Plants", "gramsOfSet", "(II)J"⟩ ∈ gW := gW_sel (List.mem_of_getElem? (i := 3) rfl) (by decide +kernel)
theorem ks_Ri_weighAll : Cond.selects "BookChecks$Risks" ⟨"BookChecks$Risks", "weighAll", "(LBookChecks$Book;)I"⟩ ⟨"BookChecks$Risks", "weighAll", "(LBookChecks$Book;)I"⟩ ∈ gW := gW_sel (List.mem_of_getElem? (i := 4) rfl) (by decide +kernel)
theorem ks_Ri_pageOver : Cond.selects "BookChecks$Risks" ⟨"BookChecks$Risks", "pageOver", "(II)I"⟩ ⟨"BookChecks$Risks", "pageOver", "(II)I"⟩ ∈ gW := gW_sel (List.mem_of_getElem? (i := 5) rfl) (by decide +kernel)
theorem ks_Wa_sortMinutes : Cond.selects "BookChecks$Watch" ⟨"BookChecks$Watch", "sortMinutes", "(LBookChecks$Book;I)I"⟩ ⟨"BookChecks$Watch", "sortMinutes", "(LBookChecks$Book;I)I"⟩ ∈ gW := gW_sel (List.mem_of_getElem? (i := 6) rfl) (by decide +kernel)
theorem ks_Wa_insert : Cond.selects "BookChecks$Watch" ⟨"BookChecks$Watch", "insert", "(IJ)V"⟩ ⟨"BookChecks$Watch", "insert", "(IJ)V"⟩ ∈ gW := gW_sel (List.mem_of_getElem? (i := 7) rfl) (by decide +kernel)
theorem ks_Mo_tell : Cond.selects "BookChecksModel" ⟨"BookChecksModel", "tell", "(IIIIJ)I"⟩ ⟨"BookChecksModel", "tell", "(IIIIJ)I"⟩ ∈ gW := gW_sel (List.mem_of_getElem? (i := 9) rfl) (by decide +kernel)
theorem ks_Mo_pointsOf : Cond.selects "BookChecksModel" ⟨"BookChecksModel", "pointsOf", "(II)I"⟩ ⟨"BookChecksModel", "pointsOf", "(II)I"⟩ ∈ gW := gW_sel (List.mem_of_getElem? (i := 10) rfl) (by decide +kernel)
theorem ks_Mo_isPage : Cond.selects "BookChecksModel" ⟨"BookChecksModel", "isPage", "(I)Z"⟩ ⟨"BookChecksModel", "isPage", "(I)Z"⟩ ∈ gW := gW_sel (List.mem_of_getElem? (i := 11) rfl) (by decide +kernel)
theorem ks_Mo_isPlant : Cond.selects "BookChecksModel" ⟨"BookChecksModel", "isPlant", "(I)Z"⟩ ⟨"BookChecksModel", "isPlant", "(I)Z"⟩ ∈ gW := gW_sel (List.mem_of_getElem? (i := 12) rfl) (by decide +kernel)
theorem ks_Mo_lack : Cond.selects "BookChecksModel" ⟨"BookChecksModel", "lack", "(I)J"⟩ ⟨"BookChecksModel", "lack", "(I)J"⟩ ∈ gW := gW_sel (List.mem_of_getElem? (i := 13) rfl) (by decide +kernel)
theorem ks_Mo_ownIn : Cond.selects "BookChecksModel" ⟨"BookChecksModel", "ownIn", "(II)J"⟩ ⟨"BookChecksModel", "ownIn", "(II)J"⟩ ∈ gW := gW_sel (List.mem_of_getElem? (i := 14) rfl) (by decide +kernel)
theorem ks_Mo_tryDraw : Cond.selects "BookChecksModel" ⟨"BookChecksModel", "tryDraw", "(JI)V"⟩ ⟨"BookChecksModel", "tryDraw", "(JI)V"⟩ ∈ gW := gW_sel (List.mem_of_getElem? (i := 15) rfl) (by decide +kernel)
theorem nm_B : ∀ a, a < 10 → ∀ b, b < 10 → a ≠ b → (F_B a).2.1 ≠ (F_B b).2.1 := by decide +kernel
theorem tk_B : ∀ k, k < 10 → parseFieldDescriptor (F_B k).2.2.1 = some (t_B k) := by decide +kernel
theorem iw_B : ∀ w ∈ u_ws R_B F_B 10, w ∈ gW := by
  intro w hw
  have hw : w ∈ [u_lay R_B F_B 0, u_lay R_B F_B 1, u_lay R_B F_B 2, u_lay R_B F_B 3, u_lay R_B F_B 4, u_lay R_B F_B 5, u_lay R_B F_B 6, u_lay R_B F_B 7, u_lay R_B F_B 8, u_lay R_B F_B 9] := hw
  simp only [List.mem_cons, List.not_mem_nil, or_false] at hw
  rcases hw with rfl | rfl | rfl | rfl | rfl | rfl | rfl | rfl | rfl | rfl
  · exact k1_167
  · exact k1_169
  · exact k1_171
  · exact k1_173
  · exact k1_175
  · exact k1_177
  · exact k1_179
  · exact k1_181
  · exact k1_183
  · exact k1_185
theorem nm_Bk : ∀ a, a < 5 → ∀ b, b < 5 → a ≠ b → (F_Bk a).2.1 ≠ (F_Bk b).2.1 := by decide +kernel
theorem tk_Bk : ∀ k, k < 5 → parseFieldDescriptor (F_Bk k).2.2.1 = some (t_Bk k) := by decide +kernel
theorem iw_Bk : ∀ w ∈ u_ws R_Bk F_Bk 5, w ∈ gW := by
  intro w hw
  have hw : w ∈ [u_lay R_Bk F_Bk 0, u_lay R_Bk F_Bk 1, u_lay R_Bk F_Bk 2, u_lay R_Bk F_Bk 3, u_lay R_Bk F_Bk 4] := hw
  simp only [List.mem_cons, List.not_mem_nil, or_false] at hw
  rcases hw with rfl | rfl | rfl | rfl | rfl
  · exact k1_43
  · exact k1_45
  · exact k1_47
  · exact k1_49
  · exact k1_51
theorem nm_Jo : ∀ a, a < 2 → ∀ b, b < 2 → a ≠ b → (F_Jo a).2.1 ≠ (F_Jo b).2.1 := by decide +kernel
theorem tk_Jo : ∀ k, k < 2 → parseFieldDescriptor (F_Jo k).2.2.1 = some (t_Jo k) := by decide +kernel
theorem iw_Jo : ∀ w ∈ u_ws R_Jo F_Jo 2, w ∈ gW := by
  intro w hw
  have hw : w ∈ [u_lay R_Jo F_Jo 0, u_lay R_Jo F_Jo 1] := hw
  simp only [List.mem_cons, List.not_mem_nil, or_false] at hw
  rcases hw with rfl | rfl
  · exact k1_68
  · exact k1_70
theorem nm_Pl : ∀ a, a < 6 → ∀ b, b < 6 → a ≠ b → (F_Pl a).2.1 ≠ (F_Pl b).2.1 := by decide +kernel
theorem tk_Pl : ∀ k, k < 6 → parseFieldDescriptor (F_Pl k).2.2.1 = some (t_Pl k) := by decide +kernel
theorem iw_Pl : ∀ w ∈ u_ws R_Pl F_Pl 6, w ∈ gW := by
  intro w hw
  have hw : w ∈ [u_lay R_Pl F_Pl 0, u_lay R_Pl F_Pl 1, u_lay R_Pl F_Pl 2, u_lay R_Pl F_Pl 3, u_lay R_Pl F_Pl 4, u_lay R_Pl F_Pl 5] := hw
  simp only [List.mem_cons, List.not_mem_nil, or_false] at hw
  rcases hw with rfl | rfl | rfl | rfl | rfl | rfl
  · exact k1_85
  · exact k1_87
  · exact k1_89
  · exact k1_91
  · exact k1_93
  · exact k1_95
theorem nm_Ri : ∀ a, a < 2 → ∀ b, b < 2 → a ≠ b → (F_Ri a).2.1 ≠ (F_Ri b).2.1 := by decide +kernel
theorem tk_Ri : ∀ k, k < 2 → parseFieldDescriptor (F_Ri k).2.2.1 = some (t_Ri k) := by decide +kernel
theorem iw_Ri : ∀ w ∈ u_ws R_Ri F_Ri 2, w ∈ gW := by
  intro w hw
  have hw : w ∈ [u_lay R_Ri F_Ri 0, u_lay R_Ri F_Ri 1] := hw
  simp only [List.mem_cons, List.not_mem_nil, or_false] at hw
  rcases hw with rfl | rfl
  · exact k1_106
  · exact k1_108
theorem nm_Ro : ∀ a, a < 3 → ∀ b, b < 3 → a ≠ b → (F_Ro a).2.1 ≠ (F_Ro b).2.1 := by decide +kernel
theorem tk_Ro : ∀ k, k < 3 → parseFieldDescriptor (F_Ro k).2.2.1 = some (t_Ro k) := by decide +kernel
theorem iw_Ro : ∀ w ∈ u_ws R_Ro F_Ro 3, w ∈ gW := by
  intro w hw
  have hw : w ∈ [u_lay R_Ro F_Ro 0, u_lay R_Ro F_Ro 1, u_lay R_Ro F_Ro 2] := hw
  simp only [List.mem_cons, List.not_mem_nil, or_false] at hw
  rcases hw with rfl | rfl | rfl
  · exact k1_122
  · exact k1_124
  · exact k1_126
theorem nm_Wa : ∀ a, a < 1 → ∀ b, b < 1 → a ≠ b → (F_Wa a).2.1 ≠ (F_Wa b).2.1 := by decide +kernel
theorem tk_Wa : ∀ k, k < 1 → parseFieldDescriptor (F_Wa k).2.2.1 = some (t_Wa k) := by decide +kernel
theorem iw_Wa : ∀ w ∈ u_ws R_Wa F_Wa 1, w ∈ gW := by
  intro w hw
  have hw : w ∈ [u_lay R_Wa F_Wa 0] := hw
  simp only [List.mem_cons, List.not_mem_nil, or_false] at hw
  rcases hw with rfl
  · exact k1_136
theorem nm_Ac : ∀ a, a < 3 → ∀ b, b < 3 → a ≠ b → (F_Ac a).2.1 ≠ (F_Ac b).2.1 := by decide +kernel
theorem tk_Ac : ∀ k, k < 3 → parseFieldDescriptor (F_Ac k).2.2.1 = some (t_Ac k) := by decide +kernel
theorem iw_Ac : ∀ w ∈ u_ws R_Ac F_Ac 3, w ∈ gW := by
  intro w hw
  have hw : w ∈ [u_lay R_Ac F_Ac 0, u_lay R_Ac F_Ac 1, u_lay R_Ac F_Ac 2] := hw
  simp only [List.mem_cons, List.not_mem_nil, or_false] at hw
  rcases hw with rfl | rfl | rfl
  · exact k1_150
  · exact k1_152
  · exact k1_154
theorem nm_Mo : ∀ a, a < 27 → ∀ b, b < 27 → a ≠ b → (F_Mo a).2.1 ≠ (F_Mo b).2.1 := by decide +kernel
theorem tk_Mo : ∀ k, k < 27 → parseFieldDescriptor (F_Mo k).2.2.1 = some (t_Mo k) := by decide +kernel
theorem iw_Mo : ∀ w ∈ u_ws R_Mo F_Mo 27, w ∈ gW := by
  intro w hw
  have hw : w ∈ [u_lay R_Mo F_Mo 0, u_lay R_Mo F_Mo 1, u_lay R_Mo F_Mo 2, u_lay R_Mo F_Mo 3, u_lay R_Mo F_Mo 4, u_lay R_Mo F_Mo 5, u_lay R_Mo F_Mo 6, u_lay R_Mo F_Mo 7, u_lay R_Mo F_Mo 8, u_lay R_Mo F_Mo 9, u_lay R_Mo F_Mo 10, u_lay R_Mo F_Mo 11, u_lay R_Mo F_Mo 12, u_lay R_Mo F_Mo 13, u_lay R_Mo F_Mo 14, u_lay R_Mo F_Mo 15, u_lay R_Mo F_Mo 16, u_lay R_Mo F_Mo 17, u_lay R_Mo F_Mo 18, u_lay R_Mo F_Mo 19, u_lay R_Mo F_Mo 20, u_lay R_Mo F_Mo 21, u_lay R_Mo F_Mo 22, u_lay R_Mo F_Mo 23, u_lay R_Mo F_Mo 24, u_lay R_Mo F_Mo 25, u_lay R_Mo F_Mo 26] := hw
  simp only [List.mem_cons, List.not_mem_nil, or_false] at hw
  rcases hw with rfl | rfl | rfl | rfl | rfl | rfl | rfl | rfl | rfl | rfl | rfl | rfl | rfl | rfl | rfl | rfl | rfl | rfl | rfl | rfl | rfl | rfl | rfl | rfl | rfl | rfl | rfl
  · exact k3_79
  · exact k3_81
  · exact k3_83
  · exact k3_85
  · exact k3_87
  · exact k3_89
  · exact k3_91
  · exact k3_93
  · exact k3_95
  · exact k3_97
  · exact k3_99
  · exact k3_101
  · exact k3_103
  · exact k3_105
  · exact k3_107
  · exact k3_109
  · exact k3_111
  · exact k3_113
  · exact k3_115
  · exact k3_117
  · exact k3_119
  · exact k3_121
  · exact k3_123
  · exact k3_125
  · exact k3_127
  · exact k3_129
  · exact k3_131
theorem kc_B_init : Cond.code y_B_init b_B_init 3 none ∈ gW := k1_20
def ws_B_init : List Cond := Cond.code y_B_init b_B_init 3 none :: gW
theorem kc_B_page : Cond.code y_B_page b_B_page 6 (some .int) ∈ gW := k1_191
def ws_B_page : List Cond := Cond.code y_B_page b_B_page 6 (some .int) :: gW
theorem kc_B_sale : Cond.code y_B_sale b_B_sale 6 (some .int) ∈ gW := k1_213
def ws_B_sale : List Cond := Cond.code y_B_sale b_B_sale 6 (some .int) :: gW
theorem kc_B_run : Cond.code y_B_run b_B_run 1 (some .int) ∈ gW := k1_217
def ws_B_run : List Cond := Cond.code y_B_run b_B_run 1 (some .int) :: gW
theorem kc_B_pair : Cond.code y_B_pair b_B_pair 2 (some .int) ∈ gW := k2_10
def ws_B_pair : List Cond := Cond.code y_B_pair b_B_pair 2 (some .int) :: gW
theorem kc_B_points : Cond.code y_B_points b_B_points 3 (some .int) ∈ gW := k2_18
def ws_B_points : List Cond := Cond.code y_B_points b_B_points 3 (some .int) :: gW
theorem kc_B_differs : Cond.code y_B_differs b_B_differs 3 (some .long) ∈ gW := k2_23
def ws_B_differs : List Cond := Cond.code y_B_differs b_B_differs 3 (some .long) :: gW
theorem kc_B_waits : Cond.code y_B_waits b_B_waits 3 (some .int) ∈ gW := k2_31
def ws_B_waits : List Cond := Cond.code y_B_waits b_B_waits 3 (some .int) :: gW
theorem kc_B_pageAt : Cond.code y_B_pageAt b_B_pageAt 2 (some .long) ∈ gW := k2_218
def ws_B_pageAt : List Cond := Cond.code y_B_pageAt b_B_pageAt 2 (some .long) :: gW
theorem kc_B_balance : Cond.code y_B_balance b_B_balance 2 (some .long) ∈ gW := k2_40
def ws_B_balance : List Cond := Cond.code y_B_balance b_B_balance 2 (some .long) :: gW
theorem kc_B_plant : Cond.code y_B_plant b_B_plant 4 (some .int) ∈ gW := k2_48
def ws_B_plant : List Cond := Cond.code y_B_plant b_B_plant 4 (some .int) :: gW
theorem kc_B_out : Cond.code y_B_out b_B_out 5 (some .int) ∈ gW := k2_58
def ws_B_out : List Cond := Cond.code y_B_out b_B_out 5 (some .int) :: gW
theorem kc_B_lacks : Cond.code y_B_lacks b_B_lacks 2 (some .long) ∈ gW := k2_71
def ws_B_lacks : List Cond := Cond.code y_B_lacks b_B_lacks 2 (some .long) :: gW
theorem kc_B_nowhere : Cond.code y_B_nowhere b_B_nowhere 3 (some .int) ∈ gW := k2_90
def ws_B_nowhere : List Cond := Cond.code y_B_nowhere b_B_nowhere 3 (some .int) :: gW
theorem kc_B_risk : Cond.code y_B_risk b_B_risk 4 (some .boolean) ∈ gW := k2_111
def ws_B_risk : List Cond := Cond.code y_B_risk b_B_risk 4 (some .boolean) :: gW
theorem kc_B_draw : Cond.code y_B_draw b_B_draw 2 (some .int) ∈ gW := k2_120
def ws_B_draw : List Cond := Cond.code y_B_draw b_B_draw 2 (some .int) :: gW
theorem kc_B_drawn : Cond.code y_B_drawn b_B_drawn 2 (some .int) ∈ gW := k2_146
def ws_B_drawn : List Cond := Cond.code y_B_drawn b_B_drawn 2 (some .int) :: gW
theorem kc_B_same : Cond.code y_B_same b_B_same 3 (some .boolean) ∈ gW := k2_154
def ws_B_same : List Cond := Cond.code y_B_same b_B_same 3 (some .boolean) :: gW
theorem kc_B_missed : Cond.code y_B_missed b_B_missed 13 (some .long) ∈ gW := k2_162
def ws_B_missed : List Cond := Cond.code y_B_missed b_B_missed 13 (some .long) :: gW
theorem kc_B_camera : Cond.code y_B_camera b_B_camera 3 (some .int) ∈ gW := k2_172
def ws_B_camera : List Cond := Cond.code y_B_camera b_B_camera 3 (some .int) :: gW
theorem kc_B_act : Cond.code y_B_act b_B_act 4 (some .int) ∈ gW := k2_190
def ws_B_act : List Cond := Cond.code y_B_act b_B_act 4 (some .int) :: gW
theorem kc_B_state : Cond.code y_B_state b_B_state 2 (some .int) ∈ gW := k2_202
def ws_B_state : List Cond := Cond.code y_B_state b_B_state 2 (some .int) :: gW
theorem kc_B_repeated : Cond.code y_B_repeated b_B_repeated 2 (some .int) ∈ gW := k2_207
def ws_B_repeated : List Cond := Cond.code y_B_repeated b_B_repeated 2 (some .int) :: gW
theorem kc_B_isShip : Cond.code y_B_isShip b_B_isShip 1 (some .boolean) ∈ gW := k1_198
def ws_B_isShip : List Cond := Cond.code y_B_isShip b_B_isShip 1 (some .boolean) :: gW
theorem kc_B_isKind : Cond.code y_B_isKind b_B_isKind 1 (some .boolean) ∈ gW := k1_205
def ws_B_isKind : List Cond := Cond.code y_B_isKind b_B_isKind 1 (some .boolean) :: gW
theorem kc_B_isDay : Cond.code y_B_isDay b_B_isDay 1 (some .boolean) ∈ gW := k1_201
def ws_B_isDay : List Cond := Cond.code y_B_isDay b_B_isDay 1 (some .boolean) :: gW
theorem kc_B_isWeighed : Cond.code y_B_isWeighed b_B_isWeighed 2 (some .boolean) ∈ gW := k1_208
def ws_B_isWeighed : List Cond := Cond.code y_B_isWeighed b_B_isWeighed 2 (some .boolean) :: gW
theorem kc_B_bitAt : Cond.code y_B_bitAt b_B_bitAt 4 (some .int) ∈ gW := k2_107
def ws_B_bitAt : List Cond := Cond.code y_B_bitAt b_B_bitAt 4 (some .int) :: gW
theorem kc_B_choose : Cond.code y_B_choose b_B_choose 5 (some .long) ∈ gW := k2_165
def ws_B_choose : List Cond := Cond.code y_B_choose b_B_choose 5 (some .long) :: gW
theorem kc_B_commonDivisor : Cond.code y_B_commonDivisor b_B_commonDivisor 11 (some .long) ∈ gW := k2_168
def ws_B_commonDivisor : List Cond := Cond.code y_B_commonDivisor b_B_commonDivisor 11 (some .long) :: gW
theorem kc_Mo_init : Cond.code y_Mo_init b_Mo_init 5 none ∈ gW := k3_50
def ws_Mo_init : List Cond := Cond.code y_Mo_init b_Mo_init 5 none :: gW
theorem kc_Mo_thrown : Cond.code y_Mo_thrown b_Mo_thrown 1 (some .int) ∈ gW := k3_138
def ws_Mo_thrown : List Cond := Cond.code y_Mo_thrown b_Mo_thrown 1 (some .int) :: gW
theorem kc_Mo_within : Cond.code y_Mo_within b_Mo_within 6 (some .boolean) ∈ gW := k3_153
def ws_Mo_within : List Cond := Cond.code y_Mo_within b_Mo_within 6 (some .boolean) :: gW
theorem kc_Mo_isTen : Cond.code y_Mo_isTen b_Mo_isTen 1 (some .boolean) ∈ gW := k3_149
def ws_Mo_isTen : List Cond := Cond.code y_Mo_isTen b_Mo_isTen 1 (some .boolean) :: gW
theorem kc_Mo_tell : Cond.code y_Mo_tell b_Mo_tell 8 (some .int) ∈ gW := k3_146
def ws_Mo_tell : List Cond := Cond.code y_Mo_tell b_Mo_tell 8 (some .int) :: gW
theorem kc_Mo_page : Cond.code y_Mo_page b_Mo_page 6 (some .int) ∈ gW := k3_142
def ws_Mo_page : List Cond := Cond.code y_Mo_page b_Mo_page 6 (some .int) :: gW
theorem kc_Mo_sale : Cond.code y_Mo_sale b_Mo_sale 6 (some .int) ∈ gW := k3_158
def ws_Mo_sale : List Cond := Cond.code y_Mo_sale b_Mo_sale 6 (some .int) :: gW
theorem kc_Mo_pointsOf : Cond.code y_Mo_pointsOf b_Mo_pointsOf 10 (some .int) ∈ gW := k3_166
def ws_Mo_pointsOf : List Cond := Cond.code y_Mo_pointsOf b_Mo_pointsOf 10 (some .int) :: gW
theorem kc_Mo_run : Cond.code y_Mo_run b_Mo_run 9 (some .int) ∈ gW := k3_162
def ws_Mo_run : List Cond := Cond.code y_Mo_run b_Mo_run 9 (some .int) :: gW
theorem kc_Mo_isPage : Cond.code y_Mo_isPage b_Mo_isPage 2 (some .boolean) ∈ gW := k3_175
def ws_Mo_isPage : List Cond := Cond.code y_Mo_isPage b_Mo_isPage 2 (some .boolean) :: gW
theorem kc_Mo_pair : Cond.code y_Mo_pair b_Mo_pair 2 (some .int) ∈ gW := k3_171
def ws_Mo_pair : List Cond := Cond.code y_Mo_pair b_Mo_pair 2 (some .int) :: gW
theorem kc_Mo_points : Cond.code y_Mo_points b_Mo_points 2 (some .int) ∈ gW := k3_179
def ws_Mo_points : List Cond := Cond.code y_Mo_points b_Mo_points 2 (some .int) :: gW
theorem kc_Mo_differs : Cond.code y_Mo_differs b_Mo_differs 2 (some .long) ∈ gW := k3_183
def ws_Mo_differs : List Cond := Cond.code y_Mo_differs b_Mo_differs 2 (some .long) :: gW
theorem kc_Mo_waits : Cond.code y_Mo_waits b_Mo_waits 5 (some .int) ∈ gW := k3_187
def ws_Mo_waits : List Cond := Cond.code y_Mo_waits b_Mo_waits 5 (some .int) :: gW
theorem kc_Mo_pageAt : Cond.code y_Mo_pageAt b_Mo_pageAt 2 (some .long) ∈ gW := k3_192
def ws_Mo_pageAt : List Cond := Cond.code y_Mo_pageAt b_Mo_pageAt 2 (some .long) :: gW
theorem kc_Mo_balance : Cond.code y_Mo_balance b_Mo_balance 5 (some .long) ∈ gW := k3_196
def ws_Mo_balance : List Cond := Cond.code y_Mo_balance b_Mo_balance 5 (some .long) :: gW
theorem kc_Mo_plant : Cond.code y_Mo_plant b_Mo_plant 4 (some .int) ∈ gW := k3_200
def ws_Mo_plant : List Cond := Cond.code y_Mo_plant b_Mo_plant 4 (some .int) :: gW
theorem kc_Mo_isPlant : Cond.code y_Mo_isPlant b_Mo_isPlant 2 (some .boolean) ∈ gW := k3_208
def ws_Mo_isPlant : List Cond := Cond.code y_Mo_isPlant b_Mo_isPlant 2 (some .boolean) :: gW
theorem kc_Mo_out : Cond.code y_Mo_out b_Mo_out 5 (some .int) ∈ gW := k3_204
def ws_Mo_out : List Cond := Cond.code y_Mo_out b_Mo_out 5 (some .int) :: gW
theorem kc_Mo_ownIn : Cond.code y_Mo_ownIn b_Mo_ownIn 7 (some .long) ∈ gW := k3_220
def ws_Mo_ownIn : List Cond := Cond.code y_Mo_ownIn b_Mo_ownIn 7 (some .long) :: gW
theorem kc_Mo_lack : Cond.code y_Mo_lack b_Mo_lack 4 (some .long) ∈ gW := k3_216
def ws_Mo_lack : List Cond := Cond.code y_Mo_lack b_Mo_lack 4 (some .long) :: gW
theorem kc_Mo_lacks : Cond.code y_Mo_lacks b_Mo_lacks 2 (some .long) ∈ gW := k3_212
def ws_Mo_lacks : List Cond := Cond.code y_Mo_lacks b_Mo_lacks 2 (some .long) :: gW
theorem kc_Mo_ones : Cond.code y_Mo_ones b_Mo_ones 3 (some .int) ∈ gW := k3_228
def ws_Mo_ones : List Cond := Cond.code y_Mo_ones b_Mo_ones 3 (some .int) :: gW
theorem kc_Mo_nowhere : Cond.code y_Mo_nowhere b_Mo_nowhere 7 (some .int) ∈ gW := k3_225
def ws_Mo_nowhere : List Cond := Cond.code y_Mo_nowhere b_Mo_nowhere 7 (some .int) :: gW
theorem kc_Mo_risk : Cond.code y_Mo_risk b_Mo_risk 4 (some .boolean) ∈ gW := k3_232
def ws_Mo_risk : List Cond := Cond.code y_Mo_risk b_Mo_risk 4 (some .boolean) :: gW
theorem kc_Mo_tryDraw : Cond.code y_Mo_tryDraw b_Mo_tryDraw 10 none ∈ gW := k4_0
def ws_Mo_tryDraw : List Cond := Cond.code y_Mo_tryDraw b_Mo_tryDraw 10 none :: gW
theorem kc_Mo_draw : Cond.code y_Mo_draw b_Mo_draw 3 (some .int) ∈ gW := k3_236
def ws_Mo_draw : List Cond := Cond.code y_Mo_draw b_Mo_draw 3 (some .int) :: gW
theorem kc_Mo_drawn : Cond.code y_Mo_drawn b_Mo_drawn 2 (some .int) ∈ gW := k4_6
def ws_Mo_drawn : List Cond := Cond.code y_Mo_drawn b_Mo_drawn 2 (some .int) :: gW
theorem kc_Mo_same : Cond.code y_Mo_same b_Mo_same 5 (some .boolean) ∈ gW := k4_10
def ws_Mo_same : List Cond := Cond.code y_Mo_same b_Mo_same 5 (some .boolean) :: gW
theorem kc_Mo_missed : Cond.code y_Mo_missed b_Mo_missed 15 (some .long) ∈ gW := k4_14
def ws_Mo_missed : List Cond := Cond.code y_Mo_missed b_Mo_missed 15 (some .long) :: gW
theorem kc_Mo_camera : Cond.code y_Mo_camera b_Mo_camera 10 (some .int) ∈ gW := k4_18
def ws_Mo_camera : List Cond := Cond.code y_Mo_camera b_Mo_camera 10 (some .int) :: gW
theorem kc_Mo_next : Cond.code y_Mo_next b_Mo_next 2 (some .int) ∈ gW := k4_27
def ws_Mo_next : List Cond := Cond.code y_Mo_next b_Mo_next 2 (some .int) :: gW
theorem kc_Mo_act : Cond.code y_Mo_act b_Mo_act 5 (some .int) ∈ gW := k4_24
def ws_Mo_act : List Cond := Cond.code y_Mo_act b_Mo_act 5 (some .int) :: gW
theorem kc_Mo_state : Cond.code y_Mo_state b_Mo_state 2 (some .int) ∈ gW := k4_31
def ws_Mo_state : List Cond := Cond.code y_Mo_state b_Mo_state 2 (some .int) :: gW
theorem kc_Mo_repeated : Cond.code y_Mo_repeated b_Mo_repeated 2 (some .int) ∈ gW := k4_35
def ws_Mo_repeated : List Cond := Cond.code y_Mo_repeated b_Mo_repeated 2 (some .int) :: gW
theorem kc_Ac_init : Cond.code y_Ac_init b_Ac_init 2 none ∈ gW := k1_143
def ws_Ac_init : List Cond := Cond.code y_Ac_init b_Ac_init 2 none :: gW
theorem kc_Ac_tell : Cond.code y_Ac_tell b_Ac_tell 5 (some .int) ∈ gW := k2_194
def ws_Ac_tell : List Cond := Cond.code y_Ac_tell b_Ac_tell 5 (some .int) :: gW
theorem kc_Ac_after : Cond.code y_Ac_after b_Ac_after 2 (some .int) ∈ gW := k2_198
def ws_Ac_after : List Cond := Cond.code y_Ac_after b_Ac_after 2 (some .int) :: gW
theorem kc_Bk_init : Cond.code y_Bk_init b_Bk_init 1 none ∈ gW := k1_28
def ws_Bk_init : List Cond := Cond.code y_Bk_init b_Bk_init 1 none :: gW
theorem kc_Bk_add : Cond.code y_Bk_add b_Bk_add 7 (some .int) ∈ gW := k1_195
def ws_Bk_add : List Cond := Cond.code y_Bk_add b_Bk_add 7 (some .int) :: gW
theorem kc_Bk_has : Cond.code y_Bk_has b_Bk_has 2 (some .boolean) ∈ gW := k1_233
def ws_Bk_has : List Cond := Cond.code y_Bk_has b_Bk_has 2 (some .boolean) :: gW
theorem kc_Bk_gramsOf : Cond.code y_Bk_gramsOf b_Bk_gramsOf 2 (some .long) ∈ gW := k2_27
def ws_Bk_gramsOf : List Cond := Cond.code y_Bk_gramsOf b_Bk_gramsOf 2 (some .long) :: gW
theorem kc_Bk_gramsOfKind : Cond.code y_Bk_gramsOfKind b_Bk_gramsOfKind 5 (some .long) ∈ gW := k2_44
def ws_Bk_gramsOfKind : List Cond := Cond.code y_Bk_gramsOfKind b_Bk_gramsOfKind 5 (some .long) :: gW
theorem kc_Bk_fitWith : Cond.code y_Bk_fitWith b_Bk_fitWith 6 (some .int) ∈ gW := k1_229
def ws_Bk_fitWith : List Cond := Cond.code y_Bk_fitWith b_Bk_fitWith 6 (some .int) :: gW
theorem kc_Bk_lostByGrams : Cond.code y_Bk_lostByGrams b_Bk_lostByGrams 6 (some .int) ∈ gW := k1_236
def ws_Bk_lostByGrams : List Cond := Cond.code y_Bk_lostByGrams b_Bk_lostByGrams 6 (some .int) :: gW
theorem kc_Jo_init : Cond.code y_Jo_init b_Jo_init 1 none ∈ gW := k1_60
def ws_Jo_init : List Cond := Cond.code y_Jo_init b_Jo_init 1 none :: gW
theorem kc_Jo_partAll : Cond.code y_Jo_partAll b_Jo_partAll 2 none ∈ gW := k1_65
def ws_Jo_partAll : List Cond := Cond.code y_Jo_partAll b_Jo_partAll 2 none :: gW
theorem kc_Jo_joinAnew : Cond.code y_Jo_joinAnew b_Jo_joinAnew 5 (some .int) ∈ gW := k1_221
def ws_Jo_joinAnew : List Cond := Cond.code y_Jo_joinAnew b_Jo_joinAnew 5 (some .int) :: gW
theorem kc_Jo_joinBest : Cond.code y_Jo_joinBest b_Jo_joinBest 9 (some .boolean) ∈ gW := k1_225
def ws_Jo_joinBest : List Cond := Cond.code y_Jo_joinBest b_Jo_joinBest 9 (some .boolean) :: gW
theorem kc_Jo_saleOf : Cond.code y_Jo_saleOf b_Jo_saleOf 2 (some .int) ∈ gW := k2_14
def ws_Jo_saleOf : List Cond := Cond.code y_Jo_saleOf b_Jo_saleOf 2 (some .int) :: gW
theorem kc_Jo_waiting : Cond.code y_Jo_waiting b_Jo_waiting 8 (some .int) ∈ gW := k2_35
def ws_Jo_waiting : List Cond := Cond.code y_Jo_waiting b_Jo_waiting 8 (some .int) :: gW
theorem kc_Pl_init : Cond.code y_Pl_init b_Pl_init 1 none ∈ gW := k1_77
def ws_Pl_init : List Cond := Cond.code y_Pl_init b_Pl_init 1 none :: gW
theorem kc_Pl_has : Cond.code y_Pl_has b_Pl_has 2 (some .boolean) ∈ gW := k2_66
def ws_Pl_has : List Cond := Cond.code y_Pl_has b_Pl_has 2 (some .boolean) :: gW
theorem kc_Pl_add : Cond.code y_Pl_add b_Pl_add 5 (some .int) ∈ gW := k2_52
def ws_Pl_add : List Cond := Cond.code y_Pl_add b_Pl_add 5 (some .int) :: gW
theorem kc_Pl_addOut : Cond.code y_Pl_addOut b_Pl_addOut 6 (some .int) ∈ gW := k2_62
def ws_Pl_addOut : List Cond := Cond.code y_Pl_addOut b_Pl_addOut 6 (some .int) :: gW
theorem kc_Pl_lackOf : Cond.code y_Pl_lackOf b_Pl_lackOf 2 (some .long) ∈ gW := k2_76
def ws_Pl_lackOf : List Cond := Cond.code y_Pl_lackOf b_Pl_lackOf 2 (some .long) :: gW
theorem kc_Pl_leastSet : Cond.code y_Pl_leastSet b_Pl_leastSet 8 (some .int) ∈ gW := k2_94
def ws_Pl_leastSet : List Cond := Cond.code y_Pl_leastSet b_Pl_leastSet 8 (some .int) :: gW
theorem kc_Pl_ownKind : Cond.code y_Pl_ownKind b_Pl_ownKind 4 (some .int) ∈ gW := k2_80
def ws_Pl_ownKind : List Cond := Cond.code y_Pl_ownKind b_Pl_ownKind 4 (some .int) :: gW
theorem kc_Pl_gramsOfSet : Cond.code y_Pl_gramsOfSet b_Pl_gramsOfSet 6 (some .long) ∈ gW := k2_84
def ws_Pl_gramsOfSet : List Cond := Cond.code y_Pl_gramsOfSet b_Pl_gramsOfSet 6 (some .long) :: gW
theorem kc_Pl_isBefore : Cond.code y_Pl_isBefore b_Pl_isBefore 5 (some .boolean) ∈ gW := k2_98
def ws_Pl_isBefore : List Cond := Cond.code y_Pl_isBefore b_Pl_isBefore 5 (some .boolean) :: gW
theorem kc_Ri_init : Cond.code y_Ri_init b_Ri_init 2 none ∈ gW := k1_102
def ws_Ri_init : List Cond := Cond.code y_Ri_init b_Ri_init 2 none :: gW
theorem kc_Ri_set : Cond.code y_Ri_set b_Ri_set 4 (some .boolean) ∈ gW := k2_115
def ws_Ri_set : List Cond := Cond.code y_Ri_set b_Ri_set 4 (some .boolean) :: gW
theorem kc_Ri_take : Cond.code y_Ri_take b_Ri_take 11 none ∈ gW := k2_124
def ws_Ri_take : List Cond := Cond.code y_Ri_take b_Ri_take 11 none :: gW
theorem kc_Ri_weighAll : Cond.code y_Ri_weighAll b_Ri_weighAll 4 (some .int) ∈ gW := k2_132
def ws_Ri_weighAll : List Cond := Cond.code y_Ri_weighAll b_Ri_weighAll 4 (some .int) :: gW
theorem kc_Ri_pageOver : Cond.code y_Ri_pageOver b_Ri_pageOver 5 (some .int) ∈ gW := k2_138
def ws_Ri_pageOver : List Cond := Cond.code y_Ri_pageOver b_Ri_pageOver 5 (some .int) :: gW
theorem kc_Ro_init : Cond.code y_Ro_init b_Ro_init 1 none ∈ gW := k1_115
def ws_Ro_init : List Cond := Cond.code y_Ro_init b_Ro_init 1 none :: gW
theorem kc_Ro_begin : Cond.code y_Ro_begin b_Ro_begin 2 none ∈ gW := k2_128
def ws_Ro_begin : List Cond := Cond.code y_Ro_begin b_Ro_begin 2 none :: gW
theorem kc_Ro_append : Cond.code y_Ro_append b_Ro_append 2 none ∈ gW := k2_142
def ws_Ro_append : List Cond := Cond.code y_Ro_append b_Ro_append 2 none :: gW
theorem kc_Ro_at : Cond.code y_Ro_at b_Ro_at 2 (some .int) ∈ gW := k2_150
def ws_Ro_at : List Cond := Cond.code y_Ro_at b_Ro_at 2 (some .int) :: gW
theorem kc_Ro_equalTo : Cond.code y_Ro_equalTo b_Ro_equalTo 3 (some .boolean) ∈ gW := k2_158
def ws_Ro_equalTo : List Cond := Cond.code y_Ro_equalTo b_Ro_equalTo 3 (some .boolean) :: gW
theorem kc_Wa_init : Cond.code y_Wa_init b_Wa_init 1 none ∈ gW := k1_133
def ws_Wa_init : List Cond := Cond.code y_Wa_init b_Wa_init 1 none :: gW
theorem kc_Wa_most : Cond.code y_Wa_most b_Wa_most 9 (some .int) ∈ gW := k2_176
def ws_Wa_most : List Cond := Cond.code y_Wa_most b_Wa_most 9 (some .int) :: gW
theorem kc_Wa_sortMinutes : Cond.code y_Wa_sortMinutes b_Wa_sortMinutes 5 (some .int) ∈ gW := k2_180
def ws_Wa_sortMinutes : List Cond := Cond.code y_Wa_sortMinutes b_Wa_sortMinutes 5 (some .int) :: gW
theorem kc_Wa_insert : Cond.code y_Wa_insert b_Wa_insert 5 none ∈ gW := k2_186
def ws_Wa_insert : List Cond := Cond.code y_Wa_insert b_Wa_insert 5 none :: gW
theorem kc_Lw_cell : Cond.code y_Lw_cell b_Lw_cell 2 (some .int) ∈ gW := k2_210
def ws_Lw_cell : List Cond := Cond.code y_Lw_cell b_Lw_cell 2 (some .int) :: gW
theorem kc_In_bitCount : Cond.code y_In_bitCount b_In_bitCount 1 (some .int) ∈ gW := k2_101
def ws_In_bitCount : List Cond := Cond.code y_In_bitCount b_In_bitCount 1 (some .int) :: gW
end
section
/-! rows of my own over the kit: numbers as naturals (nI, lN), arrays of naturals, branches that say it of naturals -/
section BKR
variable {p : Program} {l : Launch} {e : Env} {R : Room} {s : State} {m : MethodId} {args : Array Value} {below : List Frame} {meth : Method} {c : Code} {H : Heap} {locs : List Loc} {cells slots : Nat} {Q : State → Prop}
variable {cc : ByteArray} {pc : Nat} {ls : Array Slot} {rest : List Value} {D : va_G} {cl : List vw_C} {A : Nat → Prop} {a : Nat} {tys : List (ClassId × FieldType)} {ws : va_W} {H0 : Heap}
theorem bk_topi {x y : Int32} (h : x = y) (k : W p l e R s m args below meth c H locs cells slots Q (F0 m pc ls (.int y :: rest))) : W p l e R s m args below meth c H locs cells slots Q (F0 m pc ls (.int x :: rest)) := by rw [h]; exact k
theorem bk_topl {x y : Int64} (h : x = y) (k : W p l e R s m args below meth c H locs cells slots Q (F0 m pc ls (.long y :: rest))) : W p l e R s m args below meth c H locs cells slots Q (F0 m pc ls (.long x :: rest)) := by rw [h]; exact k
theorem bk_iadd (hexec : p.tables.exec = Jvm.exec) (hb : c.code = cc) {x y : Nat} (hdg : decode cc pc = .ok (.iadd, 1)) (k : W p l e R s m args below meth c H locs cells slots Q (F0 m (pc + 1) ls (.int (nI (x + y)) :: rest))) : W p l e R s m args below meth c H locs cells slots Q (F0 m pc ls (.int (nI y) :: .int (nI x) :: rest)) := by
  refine lv_iadd hexec hb hdg ?_
  rw [nI_add]; exact k
theorem bk_imul (hexec : p.tables.exec = Jvm.exec) (hb : c.code = cc) {x y : Nat} (hdg : decode cc pc = .ok (.imul, 1)) (k : W p l e R s m args below meth c H locs cells slots Q (F0 m (pc + 1) ls (.int (nI (x * y)) :: rest))) : W p l e R s m args below meth c H locs cells slots Q (F0 m pc ls (.int (nI y) :: .int (nI x) :: rest)) := by
  refine lv_imul hexec hb hdg ?_
  rw [pk_mul]; exact k
theorem bk_ladd (hexec : p.tables.exec = Jvm.exec) (hb : c.code = cc) {x y : Nat} (hdg : decode cc pc = .ok (.ladd, 1)) (k : W p l e R s m args below meth c H locs cells slots Q (F0 m (pc + 1) ls (.long (lN (x + y)) :: rest))) : W p l e R s m args below meth c H locs cells slots Q (F0 m pc ls (.long (lN y) :: .long (lN x) :: rest)) := by
  refine lv_ladd hexec hb hdg ?_
  rw [lN_add]; exact k
theorem bk_lmul (hexec : p.tables.exec = Jvm.exec) (hb : c.code = cc) {x y : Nat} (hdg : decode cc pc = .ok (.lmul, 1)) (k : W p l e R s m args below meth c H locs cells slots Q (F0 m (pc + 1) ls (.long (lN (x * y)) :: rest))) : W p l e R s m args below meth c H locs cells slots Q (F0 m pc ls (.long (lN y) :: .long (lN x) :: rest)) := by
  refine lv_lmul hexec hb hdg ?_
  rw [lN_mul]; exact k
theorem bk_isub (hexec : p.tables.exec = Jvm.exec) (hb : c.code = cc) {x y : Nat} (h : y ≤ x) (hdg : decode cc pc = .ok (.isub, 1)) (k : W p l e R s m args below meth c H locs cells slots Q (F0 m (pc + 1) ls (.int (nI (x - y)) :: rest))) : W p l e R s m args below meth c H locs cells slots Q (F0 m pc ls (.int (nI y) :: .int (nI x) :: rest)) := by
  refine lv_isub hexec hb hdg ?_
  rw [pk_sub h]; exact k
theorem bk_lsub (hexec : p.tables.exec = Jvm.exec) (hb : c.code = cc) {x y : Nat} (h : y ≤ x) (hdg : decode cc pc = .ok (.lsub, 1)) (k : W p l e R s m args below meth c H locs cells slots Q (F0 m (pc + 1) ls (.long (lN (x - y)) :: rest))) : W p l e R s m args below meth c H locs cells slots Q (F0 m pc ls (.long (lN y) :: .long (lN x) :: rest)) := by
  refine lv_lsub hexec hb hdg ?_
  rw [lN_sub h]; exact k
theorem bk_idiv (hexec : p.tables.exec = Jvm.exec) (hb : c.code = cc) {x y : Nat} (hx : x < 2 ^ 31) (h0 : 0 < y) (hy : y < 2 ^ 31) (hdg : decode cc pc = .ok (.idiv, 1)) (k : W p l e R s m args below meth c H locs cells slots Q (F0 m (pc + 1) ls (.int (nI (x / y)) :: rest))) : W p l e R s m args below meth c H locs cells slots Q (F0 m pc ls (.int (nI y) :: .int (nI x) :: rest)) := by
  refine lv_idiv hexec hb hdg (nI_ne0 h0 hy) ?_
  rw [pk_div hx h0 hy]; exact k
theorem bk_irem (hexec : p.tables.exec = Jvm.exec) (hb : c.code = cc) {x y : Nat} (hx : x < 2 ^ 31) (h0 : 0 < y) (hy : y < 2 ^ 31) (hdg : decode cc pc = .ok (.irem, 1)) (k : W p l e R s m args below meth c H locs cells slots Q (F0 m (pc + 1) ls (.int (nI (x % y)) :: rest))) : W p l e R s m args below meth c H locs cells slots Q (F0 m pc ls (.int (nI y) :: .int (nI x) :: rest)) := by
  refine lv_irem hexec hb hdg (nI_ne0 h0 hy) ?_
  rw [pk_rem hx h0 hy]; exact k
theorem lN_ne0 {y : Nat} (h0 : 0 < y) (hy : y < 2 ^ 63) : ¬ lN y = 0 := fun h => by
  have h2 := (pk_lEQ (a := y) (b := 0) hy (by omega)).mp h
  omega
theorem bk_ldiv (hexec : p.tables.exec = Jvm.exec) (hb : c.code = cc) {x y : Nat} (hx : x < 2 ^ 63) (h0 : 0 < y) (hy : y < 2 ^ 63) (hdg : decode cc pc = .ok (.ldiv, 1)) (k : W p l e R s m args below meth c H locs cells slots Q (F0 m (pc + 1) ls (.long (lN (x / y)) :: rest))) : W p l e R s m args below meth c H locs cells slots Q (F0 m pc ls (.long (lN y) :: .long (lN x) :: rest)) := by
  refine lv_ldiv hexec hb hdg (lN_ne0 h0 hy) ?_
  rw [pk_lDiv hx h0 hy]; exact k
theorem bk_lrem (hexec : p.tables.exec = Jvm.exec) (hb : c.code = cc) {x y : Nat} (hx : x < 2 ^ 63) (h0 : 0 < y) (hy : y < 2 ^ 63) (hdg : decode cc pc = .ok (.lrem, 1)) (k : W p l e R s m args below meth c H locs cells slots Q (F0 m (pc + 1) ls (.long (lN (x % y)) :: rest))) : W p l e R s m args below meth c H locs cells slots Q (F0 m pc ls (.long (lN y) :: .long (lN x) :: rest)) := by
  refine lv_lrem hexec hb hdg (lN_ne0 h0 hy) ?_
  rw [pk_lRem hx h0 hy]; exact k
theorem bk_i2l (hexec : p.tables.exec = Jvm.exec) (hb : c.code = cc) {x : Nat} (hx : x < 2 ^ 31) (hdg : decode cc pc = .ok (.i2l, 1)) (k : W p l e R s m args below meth c H locs cells slots Q (F0 m (pc + 1) ls (.long (lN x) :: rest))) : W p l e R s m args below meth c H locs cells slots Q (F0 m pc ls (.int (nI x) :: rest)) := lv_i2l hexec hb hdg (nI_l hx) k
theorem bk_l2i (hexec : p.tables.exec = Jvm.exec) (hb : c.code = cc) {x : Nat} (hdg : decode cc pc = .ok (.l2i, 1)) (k : W p l e R s m args below meth c H locs cells slots Q (F0 m (pc + 1) ls (.int (nI x) :: rest))) : W p l e R s m args below meth c H locs cells slots Q (F0 m pc ls (.long (lN x) :: rest)) := lv_l2i hexec hb hdg (lN_i x) k
theorem bk_inc (i : Nat) : nI i + Int32.ofInt 1 = nI (i + 1) := nI_1 i
theorem bk_dec (i : Nat) : nI (i + 1) + Int32.ofInt (-1) = nI i := pk_m1 i
theorem bk_icmp_eq (hexec : p.tables.exec = Jvm.exec) (hb : c.code = cc) {a b : Nat} (ha : a < 2 ^ 31) (hb2 : b < 2 ^ 31) {off : Int} {tgt : Nat} (hdg : decode cc pc = .ok (.if_icmp .eq off, 3)) (ht : (pc : Int) + off = (tgt : Int)) (kt : a = b → W p l e R s m args below meth c H locs cells slots Q (F0 m tgt ls rest)) (kf : a ≠ b → W p l e R s m args below meth c H locs cells slots Q (F0 m (pc + 3) ls rest)) : W p l e R s m args below meth c H locs cells slots Q (F0 m pc ls (.int (nI b) :: .int (nI a) :: rest)) :=
  lv_icmp_eq hexec hb hdg ht (fun h => kt ((nI_eq ha hb2).mp h)) (fun h => kf (fun q => h ((nI_eq ha hb2).mpr q)))
theorem bk_icmp_ne (hexec : p.tables.exec = Jvm.exec) (hb : c.code = cc) {a b : Nat} (ha : a < 2 ^ 31) (hb2 : b < 2 ^ 31) {off : Int} {tgt : Nat} (hdg : decode cc pc = .ok (.if_icmp .ne off, 3)) (ht : (pc : Int) + off = (tgt : Int)) (kt : a ≠ b → W p l e R s m args below meth c H locs cells slots Q (F0 m tgt ls rest)) (kf : a = b → W p l e R s m args below meth c H locs cells slots Q (F0 m (pc + 3) ls rest)) : W p l e R s m args below meth c H locs cells slots Q (F0 m pc ls (.int (nI b) :: .int (nI a) :: rest)) :=
  lv_icmp_ne hexec hb hdg ht (fun h => kt (fun q => h ((nI_eq ha hb2).mpr q))) (fun h => kf ((nI_eq ha hb2).mp h))
theorem bk_icmp_lt (hexec : p.tables.exec = Jvm.exec) (hb : c.code = cc) {a b : Nat} (ha : a < 2 ^ 31) (hb2 : b < 2 ^ 31) {off : Int} {tgt : Nat} (hdg : decode cc pc = .ok (.if_icmp .lt off, 3)) (ht : (pc : Int) + off = (tgt : Int)) (kt : a < b → W p l e R s m args below meth c H locs cells slots Q (F0 m tgt ls rest)) (kf : b ≤ a → W p l e R s m args below meth c H locs cells slots Q (F0 m (pc + 3) ls rest)) : W p l e R s m args below meth c H locs cells slots Q (F0 m pc ls (.int (nI b) :: .int (nI a) :: rest)) :=
  lv_icmp_lt hexec hb hdg ht (fun h => kt ((nI_ltI ha hb2).mp h)) (fun h => kf (Nat.le_of_not_lt fun q => h ((nI_ltI ha hb2).mpr q)))
theorem bk_icmp_ge (hexec : p.tables.exec = Jvm.exec) (hb : c.code = cc) {a b : Nat} (ha : a < 2 ^ 31) (hb2 : b < 2 ^ 31) {off : Int} {tgt : Nat} (hdg : decode cc pc = .ok (.if_icmp .ge off, 3)) (ht : (pc : Int) + off = (tgt : Int)) (kt : b ≤ a → W p l e R s m args below meth c H locs cells slots Q (F0 m tgt ls rest)) (kf : a < b → W p l e R s m args below meth c H locs cells slots Q (F0 m (pc + 3) ls rest)) : W p l e R s m args below meth c H locs cells slots Q (F0 m pc ls (.int (nI b) :: .int (nI a) :: rest)) :=
  lv_icmp_ge hexec hb hdg ht (fun h => kt ((nI_leI hb2 ha).mp h)) (fun h => kf (Nat.lt_of_not_le fun q => h ((nI_leI hb2 ha).mpr q)))
theorem bk_icmp_gt (hexec : p.tables.exec = Jvm.exec) (hb : c.code = cc) {a b : Nat} (ha : a < 2 ^ 31) (hb2 : b < 2 ^ 31) {off : Int} {tgt : Nat} (hdg : decode cc pc = .ok (.if_icmp .gt off, 3)) (ht : (pc : Int) + off = (tgt : Int)) (kt : b < a → W p l e R s m args below meth c H locs cells slots Q (F0 m tgt ls rest)) (kf : a ≤ b → W p l e R s m args below meth c H locs cells slots Q (F0 m (pc + 3) ls rest)) : W p l e R s m args below meth c H locs cells slots Q (F0 m pc ls (.int (nI b) :: .int (nI a) :: rest)) :=
  lv_icmp_gt hexec hb hdg ht (fun h => kt ((nI_ltI hb2 ha).mp h)) (fun h => kf (Nat.le_of_not_lt fun q => h ((nI_ltI hb2 ha).mpr q)))
theorem bk_icmp_le (hexec : p.tables.exec = Jvm.exec) (hb : c.code = cc) {a b : Nat} (ha : a < 2 ^ 31) (hb2 : b < 2 ^ 31) {off : Int} {tgt : Nat} (hdg : decode cc pc = .ok (.if_icmp .le off, 3)) (ht : (pc : Int) + off = (tgt : Int)) (kt : a ≤ b → W p l e R s m args below meth c H locs cells slots Q (F0 m tgt ls rest)) (kf : b < a → W p l e R s m args below meth c H locs cells slots Q (F0 m (pc + 3) ls rest)) : W p l e R s m args below meth c H locs cells slots Q (F0 m pc ls (.int (nI b) :: .int (nI a) :: rest)) :=
  lv_icmp_le hexec hb hdg ht (fun h => kt ((nI_leI ha hb2).mp h)) (fun h => kf (Nat.lt_of_not_le fun q => h ((nI_leI ha hb2).mpr q)))
theorem bk_if_eq (hexec : p.tables.exec = Jvm.exec) (hb : c.code = cc) {a : Nat} (ha : a < 2 ^ 31) {off : Int} {tgt : Nat} (hdg : decode cc pc = .ok (.ifCond .eq off, 3)) (ht : (pc : Int) + off = (tgt : Int)) (kt : a = 0 → W p l e R s m args below meth c H locs cells slots Q (F0 m tgt ls rest)) (kf : a ≠ 0 → W p l e R s m args below meth c H locs cells slots Q (F0 m (pc + 3) ls rest)) : W p l e R s m args below meth c H locs cells slots Q (F0 m pc ls (.int (nI a) :: rest)) :=
  lv_if_eq hexec hb hdg ht (fun h => kt ((nI_eq (b := 0) ha (by decide)).mp h)) (fun h => kf (fun q => h ((nI_eq (b := 0) ha (by decide)).mpr q)))
theorem bk_if_ne (hexec : p.tables.exec = Jvm.exec) (hb : c.code = cc) {a : Nat} (ha : a < 2 ^ 31) {off : Int} {tgt : Nat} (hdg : decode cc pc = .ok (.ifCond .ne off, 3)) (ht : (pc : Int) + off = (tgt : Int)) (kt : a ≠ 0 → W p l e R s m args below meth c H locs cells slots Q (F0 m tgt ls rest)) (kf : a = 0 → W p l e R s m args below meth c H locs cells slots Q (F0 m (pc + 3) ls rest)) : W p l e R s m args below meth c H locs cells slots Q (F0 m pc ls (.int (nI a) :: rest)) :=
  lv_if_ne hexec hb hdg ht (fun h => kt (fun q => h ((nI_eq (b := 0) ha (by decide)).mpr q))) (fun h => kf ((nI_eq (b := 0) ha (by decide)).mp h))
theorem bk_if_lt (hexec : p.tables.exec = Jvm.exec) (hb : c.code = cc) {a : Nat} (ha : a < 2 ^ 31) {off : Int} {tgt : Nat} (hdg : decode cc pc = .ok (.ifCond .lt off, 3)) (ht : (pc : Int) + off = (tgt : Int)) (kt : False → W p l e R s m args below meth c H locs cells slots Q (F0 m tgt ls rest)) (kf : True → W p l e R s m args below meth c H locs cells slots Q (F0 m (pc + 3) ls rest)) : W p l e R s m args below meth c H locs cells slots Q (F0 m pc ls (.int (nI a) :: rest)) :=
  lv_if_lt hexec hb hdg ht (fun h => kt (nI_pos ha h)) (fun h => kf (trivial))
theorem bk_if_ge (hexec : p.tables.exec = Jvm.exec) (hb : c.code = cc) {a : Nat} (ha : a < 2 ^ 31) {off : Int} {tgt : Nat} (hdg : decode cc pc = .ok (.ifCond .ge off, 3)) (ht : (pc : Int) + off = (tgt : Int)) (kt : True → W p l e R s m args below meth c H locs cells slots Q (F0 m tgt ls rest)) (kf : False → W p l e R s m args below meth c H locs cells slots Q (F0 m (pc + 3) ls rest)) : W p l e R s m args below meth c H locs cells slots Q (F0 m pc ls (.int (nI a) :: rest)) :=
  lv_if_ge hexec hb hdg ht (fun h => kt (trivial)) (fun h => kf (h (nI_pos' ha)))
theorem bk_if_gt (hexec : p.tables.exec = Jvm.exec) (hb : c.code = cc) {a : Nat} (ha : a < 2 ^ 31) {off : Int} {tgt : Nat} (hdg : decode cc pc = .ok (.ifCond .gt off, 3)) (ht : (pc : Int) + off = (tgt : Int)) (kt : 0 < a → W p l e R s m args below meth c H locs cells slots Q (F0 m tgt ls rest)) (kf : a = 0 → W p l e R s m args below meth c H locs cells slots Q (F0 m (pc + 3) ls rest)) : W p l e R s m args below meth c H locs cells slots Q (F0 m pc ls (.int (nI a) :: rest)) :=
  lv_if_gt hexec hb hdg ht (fun h => kt ((nI_ltI (a := 0) (by decide) ha).mp h)) (fun h => kf (Nat.le_zero.mp (Nat.le_of_not_lt fun q => h ((nI_ltI (a := 0) (by decide) ha).mpr q))))
theorem bk_if_le (hexec : p.tables.exec = Jvm.exec) (hb : c.code = cc) {a : Nat} (ha : a < 2 ^ 31) {off : Int} {tgt : Nat} (hdg : decode cc pc = .ok (.ifCond .le off, 3)) (ht : (pc : Int) + off = (tgt : Int)) (kt : a = 0 → W p l e R s m args below meth c H locs cells slots Q (F0 m tgt ls rest)) (kf : 0 < a → W p l e R s m args below meth c H locs cells slots Q (F0 m (pc + 3) ls rest)) : W p l e R s m args below meth c H locs cells slots Q (F0 m pc ls (.int (nI a) :: rest)) :=
  lv_if_le hexec hb hdg ht (fun h => kt (Nat.le_zero.mp ((nI_leI (b := 0) ha (by decide)).mp h))) (fun h => kf (Nat.lt_of_not_le fun q => h ((nI_leI (b := 0) ha (by decide)).mpr q)))
theorem bk_cmp_lt {x y : Int64} : lg_cmp x y < 0 ↔ x < y := by
  unfold lg_cmp
  by_cases h1 : y < x
  · simp only [h1, if_true]
    exact ⟨fun h => absurd h (by decide), fun h => by rw [Int64.lt_iff_toInt_lt] at *; omega⟩
  · by_cases h2 : x = y
    · simp only [h1, h2, if_true, if_false]
      exact ⟨fun h => absurd h (by simp), fun h => by rw [Int64.lt_iff_toInt_lt] at *; omega⟩
    · simp only [h1, h2, if_false]
      refine ⟨fun _ => ?_, fun _ => by decide⟩
      rw [Int64.lt_iff_toInt_lt] at *
      have h3 : ¬ x.toInt = y.toInt := fun q => h2 (Int64.toInt_inj.mp q)
      omega
theorem bk_cmp_gt {x y : Int64} : 0 < lg_cmp x y ↔ y < x := by
  unfold lg_cmp
  by_cases h1 : y < x
  · simp only [h1, if_true]
    exact ⟨fun _ => trivial, fun _ => by decide⟩
  · by_cases h2 : x = y
    · subst h2
      simp only [h1, if_true, if_false]
      exact ⟨fun h => absurd h (by decide), fun h => False.elim h⟩
    · simp only [h1, h2, if_false]
      exact ⟨fun h => absurd h (by decide), fun h => False.elim h⟩
theorem bk_cmp_eq {x y : Int64} : lg_cmp x y = 0 ↔ x = y := by
  unfold lg_cmp
  by_cases h1 : y < x
  · simp only [h1, if_true]
    refine ⟨fun h => absurd h (by decide), fun h => ?_⟩
    rw [Int64.lt_iff_toInt_lt] at h1
    rw [h] at h1
    omega
  · by_cases h2 : x = y
    · simp only [h1, h2, if_true, if_false]
      exact ⟨fun _ => trivial, fun _ => by simp⟩
    · simp only [h1, h2, if_false]
      exact ⟨fun h => absurd h (by decide), fun h => h.elim⟩
theorem bk_nlt {x y : Int32} : ¬ x < y ↔ y ≤ x := by rw [Int32.lt_iff_toInt_lt, Int32.le_iff_toInt_le]; omega
theorem bk_nltL {x y : Int64} : ¬ x < y ↔ y ≤ x := by rw [Int64.lt_iff_toInt_lt, Int64.le_iff_toInt_le]; omega
theorem bk_lcmp_eq (hexec : p.tables.exec = Jvm.exec) (hb : c.code = cc) {x y : Int64} {off : Int} {tgt : Nat} (hdg0 : decode cc pc = .ok (.lcmp, 1)) (hdg : decode cc (pc + 1) = .ok (.ifCond .eq off, 3)) (ht : ((pc + 1 : Nat) : Int) + off = (tgt : Int)) (kt : x = y → W p l e R s m args below meth c H locs cells slots Q (F0 m tgt ls rest)) (kf : ¬ x = y → W p l e R s m args below meth c H locs cells slots Q (F0 m (pc + 4) ls rest)) : W p l e R s m args below meth c H locs cells slots Q (F0 m pc ls (.long y :: .long x :: rest)) :=
  W.lcmp hexec hb hdg0 (lv_if_eq hexec hb hdg ht (fun h => kt (bk_cmp_eq.mp h)) (fun h => kf (fun q => h (bk_cmp_eq.mpr q))))
theorem bk_lcmp_ne (hexec : p.tables.exec = Jvm.exec) (hb : c.code = cc) {x y : Int64} {off : Int} {tgt : Nat} (hdg0 : decode cc pc = .ok (.lcmp, 1)) (hdg : decode cc (pc + 1) = .ok (.ifCond .ne off, 3)) (ht : ((pc + 1 : Nat) : Int) + off = (tgt : Int)) (kt : ¬ x = y → W p l e R s m args below meth c H locs cells slots Q (F0 m tgt ls rest)) (kf : x = y → W p l e R s m args below meth c H locs cells slots Q (F0 m (pc + 4) ls rest)) : W p l e R s m args below meth c H locs cells slots Q (F0 m pc ls (.long y :: .long x :: rest)) :=
  W.lcmp hexec hb hdg0 (lv_if_ne hexec hb hdg ht (fun h => kt (fun q => h (bk_cmp_eq.mpr q))) (fun h => kf (bk_cmp_eq.mp h)))
theorem bk_lcmp_lt (hexec : p.tables.exec = Jvm.exec) (hb : c.code = cc) {x y : Int64} {off : Int} {tgt : Nat} (hdg0 : decode cc pc = .ok (.lcmp, 1)) (hdg : decode cc (pc + 1) = .ok (.ifCond .lt off, 3)) (ht : ((pc + 1 : Nat) : Int) + off = (tgt : Int)) (kt : x < y → W p l e R s m args below meth c H locs cells slots Q (F0 m tgt ls rest)) (kf : y ≤ x → W p l e R s m args below meth c H locs cells slots Q (F0 m (pc + 4) ls rest)) : W p l e R s m args below meth c H locs cells slots Q (F0 m pc ls (.long y :: .long x :: rest)) :=
  W.lcmp hexec hb hdg0 (lv_if_lt hexec hb hdg ht (fun h => kt (bk_cmp_lt.mp h)) (fun h => kf (bk_nltL.mp fun q => h (bk_cmp_lt.mpr q))))
theorem bk_lcmp_ge (hexec : p.tables.exec = Jvm.exec) (hb : c.code = cc) {x y : Int64} {off : Int} {tgt : Nat} (hdg0 : decode cc pc = .ok (.lcmp, 1)) (hdg : decode cc (pc + 1) = .ok (.ifCond .ge off, 3)) (ht : ((pc + 1 : Nat) : Int) + off = (tgt : Int)) (kt : y ≤ x → W p l e R s m args below meth c H locs cells slots Q (F0 m tgt ls rest)) (kf : x < y → W p l e R s m args below meth c H locs cells slots Q (F0 m (pc + 4) ls rest)) : W p l e R s m args below meth c H locs cells slots Q (F0 m pc ls (.long y :: .long x :: rest)) :=
  W.lcmp hexec hb hdg0 (lv_if_ge hexec hb hdg ht (fun h => kt (bk_nltL.mp fun q => bk_nlt.mpr h (bk_cmp_lt.mpr q))) (fun h => kf (bk_cmp_lt.mp (Decidable.not_not.mp fun q => h (bk_nlt.mp q)))))
theorem bk_lcmp_gt (hexec : p.tables.exec = Jvm.exec) (hb : c.code = cc) {x y : Int64} {off : Int} {tgt : Nat} (hdg0 : decode cc pc = .ok (.lcmp, 1)) (hdg : decode cc (pc + 1) = .ok (.ifCond .gt off, 3)) (ht : ((pc + 1 : Nat) : Int) + off = (tgt : Int)) (kt : y < x → W p l e R s m args below meth c H locs cells slots Q (F0 m tgt ls rest)) (kf : x ≤ y → W p l e R s m args below meth c H locs cells slots Q (F0 m (pc + 4) ls rest)) : W p l e R s m args below meth c H locs cells slots Q (F0 m pc ls (.long y :: .long x :: rest)) :=
  W.lcmp hexec hb hdg0 (lv_if_gt hexec hb hdg ht (fun h => kt (bk_cmp_gt.mp h)) (fun h => kf (bk_nltL.mp fun q => h (bk_cmp_gt.mpr q))))
theorem bk_lcmp_le (hexec : p.tables.exec = Jvm.exec) (hb : c.code = cc) {x y : Int64} {off : Int} {tgt : Nat} (hdg0 : decode cc pc = .ok (.lcmp, 1)) (hdg : decode cc (pc + 1) = .ok (.ifCond .le off, 3)) (ht : ((pc + 1 : Nat) : Int) + off = (tgt : Int)) (kt : x ≤ y → W p l e R s m args below meth c H locs cells slots Q (F0 m tgt ls rest)) (kf : y < x → W p l e R s m args below meth c H locs cells slots Q (F0 m (pc + 4) ls rest)) : W p l e R s m args below meth c H locs cells slots Q (F0 m pc ls (.long y :: .long x :: rest)) :=
  W.lcmp hexec hb hdg0 (lv_if_le hexec hb hdg ht (fun h => kt (bk_nltL.mp fun q => bk_nlt.mpr h (bk_cmp_gt.mpr q))) (fun h => kf (bk_cmp_gt.mp (Decidable.not_not.mp fun q => h (bk_nlt.mp q)))))
theorem bk_ncmp_eq (hexec : p.tables.exec = Jvm.exec) (hb : c.code = cc) {a b : Nat} (ha : a < 2 ^ 63) (hb2 : b < 2 ^ 63) {off : Int} {tgt : Nat} (hdg0 : decode cc pc = .ok (.lcmp, 1)) (hdg : decode cc (pc + 1) = .ok (.ifCond .eq off, 3)) (ht : ((pc + 1 : Nat) : Int) + off = (tgt : Int)) (kt : a = b → W p l e R s m args below meth c H locs cells slots Q (F0 m tgt ls rest)) (kf : a ≠ b → W p l e R s m args below meth c H locs cells slots Q (F0 m (pc + 4) ls rest)) : W p l e R s m args below meth c H locs cells slots Q (F0 m pc ls (.long (lN b) :: .long (lN a) :: rest)) :=
  bk_lcmp_eq hexec hb hdg0 hdg ht (fun h => kt ((pk_lEQ ha hb2).mp h)) (fun h => kf (fun q => h ((pk_lEQ ha hb2).mpr q)))
theorem bk_ncmp_ne (hexec : p.tables.exec = Jvm.exec) (hb : c.code = cc) {a b : Nat} (ha : a < 2 ^ 63) (hb2 : b < 2 ^ 63) {off : Int} {tgt : Nat} (hdg0 : decode cc pc = .ok (.lcmp, 1)) (hdg : decode cc (pc + 1) = .ok (.ifCond .ne off, 3)) (ht : ((pc + 1 : Nat) : Int) + off = (tgt : Int)) (kt : a ≠ b → W p l e R s m args below meth c H locs cells slots Q (F0 m tgt ls rest)) (kf : a = b → W p l e R s m args below meth c H locs cells slots Q (F0 m (pc + 4) ls rest)) : W p l e R s m args below meth c H locs cells slots Q (F0 m pc ls (.long (lN b) :: .long (lN a) :: rest)) :=
  bk_lcmp_ne hexec hb hdg0 hdg ht (fun h => kt (fun q => h ((pk_lEQ ha hb2).mpr q))) (fun h => kf ((pk_lEQ ha hb2).mp h))
theorem bk_ncmp_lt (hexec : p.tables.exec = Jvm.exec) (hb : c.code = cc) {a b : Nat} (ha : a < 2 ^ 63) (hb2 : b < 2 ^ 63) {off : Int} {tgt : Nat} (hdg0 : decode cc pc = .ok (.lcmp, 1)) (hdg : decode cc (pc + 1) = .ok (.ifCond .lt off, 3)) (ht : ((pc + 1 : Nat) : Int) + off = (tgt : Int)) (kt : a < b → W p l e R s m args below meth c H locs cells slots Q (F0 m tgt ls rest)) (kf : b ≤ a → W p l e R s m args below meth c H locs cells slots Q (F0 m (pc + 4) ls rest)) : W p l e R s m args below meth c H locs cells slots Q (F0 m pc ls (.long (lN b) :: .long (lN a) :: rest)) :=
  bk_lcmp_lt hexec hb hdg0 hdg ht (fun h => kt ((pk_lLT ha hb2).mp h)) (fun h => kf ((pk_lLE hb2 ha).mp h))
theorem bk_ncmp_ge (hexec : p.tables.exec = Jvm.exec) (hb : c.code = cc) {a b : Nat} (ha : a < 2 ^ 63) (hb2 : b < 2 ^ 63) {off : Int} {tgt : Nat} (hdg0 : decode cc pc = .ok (.lcmp, 1)) (hdg : decode cc (pc + 1) = .ok (.ifCond .ge off, 3)) (ht : ((pc + 1 : Nat) : Int) + off = (tgt : Int)) (kt : b ≤ a → W p l e R s m args below meth c H locs cells slots Q (F0 m tgt ls rest)) (kf : a < b → W p l e R s m args below meth c H locs cells slots Q (F0 m (pc + 4) ls rest)) : W p l e R s m args below meth c H locs cells slots Q (F0 m pc ls (.long (lN b) :: .long (lN a) :: rest)) :=
  bk_lcmp_ge hexec hb hdg0 hdg ht (fun h => kt ((pk_lLE hb2 ha).mp h)) (fun h => kf ((pk_lLT ha hb2).mp h))
theorem bk_ncmp_gt (hexec : p.tables.exec = Jvm.exec) (hb : c.code = cc) {a b : Nat} (ha : a < 2 ^ 63) (hb2 : b < 2 ^ 63) {off : Int} {tgt : Nat} (hdg0 : decode cc pc = .ok (.lcmp, 1)) (hdg : decode cc (pc + 1) = .ok (.ifCond .gt off, 3)) (ht : ((pc + 1 : Nat) : Int) + off = (tgt : Int)) (kt : b < a → W p l e R s m args below meth c H locs cells slots Q (F0 m tgt ls rest)) (kf : a ≤ b → W p l e R s m args below meth c H locs cells slots Q (F0 m (pc + 4) ls rest)) : W p l e R s m args below meth c H locs cells slots Q (F0 m pc ls (.long (lN b) :: .long (lN a) :: rest)) :=
  bk_lcmp_gt hexec hb hdg0 hdg ht (fun h => kt ((pk_lLT hb2 ha).mp h)) (fun h => kf ((pk_lLE ha hb2).mp h))
theorem bk_ncmp_le (hexec : p.tables.exec = Jvm.exec) (hb : c.code = cc) {a b : Nat} (ha : a < 2 ^ 63) (hb2 : b < 2 ^ 63) {off : Int} {tgt : Nat} (hdg0 : decode cc pc = .ok (.lcmp, 1)) (hdg : decode cc (pc + 1) = .ok (.ifCond .le off, 3)) (ht : ((pc + 1 : Nat) : Int) + off = (tgt : Int)) (kt : a ≤ b → W p l e R s m args below meth c H locs cells slots Q (F0 m tgt ls rest)) (kf : b < a → W p l e R s m args below meth c H locs cells slots Q (F0 m (pc + 4) ls rest)) : W p l e R s m args below meth c H locs cells slots Q (F0 m pc ls (.long (lN b) :: .long (lN a) :: rest)) :=
  bk_lcmp_le hexec hb hdg0 hdg ht (fun h => kt ((pk_lLE ha hb2).mp h)) (fun h => kf ((pk_lLT hb2 ha).mp h))
theorem bk_iald (hexec : p.tables.exec = Jvm.exec) (hb : c.code = cc) (hK : va_K D cl tys s) (hP : va_P D cl ws H) (q0 t0 : Nat) {cA : ClassId} {n : Nat} {f : Nat → Int32} (ha : ws[q0]? = some (a, .inl (cA, n, .inl f))) (ht : tys[t0]? = some (cA, .int)) {j : Nat} {v : Int32} (hj : j < n) (hn : n < 2 ^ 31) (hv : f j = v) (hdg : decode cc pc = .ok (.iaload, 1)) (kk : W p l e R s m args below meth c H locs cells slots Q (F0 m (pc + 1) ls (.int v :: rest))) : W p l e R s m args below meth c H locs cells slots Q (F0 m pc ls (.int (nI j) :: .ref a :: rest)) := by
  refine va_iald hexec hb hK hP q0 t0 ha ht (vp_in_nI hj hn) hdg ?_
  rw [nI_clamp (by omega), hv]; exact kk
theorem bk_lald (hexec : p.tables.exec = Jvm.exec) (hb : c.code = cc) (hK : va_K D cl tys s) (hP : va_P D cl ws H) (q0 t0 : Nat) {cA : ClassId} {n : Nat} {f : Nat → Int64} (ha : ws[q0]? = some (a, .inl (cA, n, .inr (.inl f)))) (ht : tys[t0]? = some (cA, .long)) {j : Nat} {v : Int64} (hj : j < n) (hn : n < 2 ^ 31) (hv : f j = v) (hdg : decode cc pc = .ok (.laload, 1)) (kk : W p l e R s m args below meth c H locs cells slots Q (F0 m (pc + 1) ls (.long v :: rest))) : W p l e R s m args below meth c H locs cells slots Q (F0 m pc ls (.int (nI j) :: .ref a :: rest)) := by
  refine va_lald hexec hb hK hP q0 t0 ha ht (vp_in_nI hj hn) hdg ?_
  rw [nI_clamp (by omega), hv]; exact kk
theorem bk_iast (hexec : p.tables.exec = Jvm.exec) (hb : c.code = cc) (hK : va_K D cl tys s) (hP : va_P D cl ws H) (hD : va_D A ws) (hS : va_S A H0 H locs) (q0 t0 : Nat) {cA : ClassId} {n : Nat} {f f2 : Nat → Int32} (ha : ws[q0]? = some (a, .inl (cA, n, .inl f))) (ht : tys[t0]? = some (cA, .int)) {j : Nat} {x : Int32} (hj : j < n) (hn : n < 2 ^ 31) (hf : upd f j x = f2) (hdg : decode cc pc = .ok (.iastore, 1)) (kk : ∀ (H1 : Heap) (locs1 : List Loc), va_P D cl (ws.set q0 (a, .inl (cA, n, .inl f2))) H1 → va_D A (ws.set q0 (a, .inl (cA, n, .inl f2))) → va_S A H0 H1 locs1 → W p l e R s m args below meth c H1 locs1 cells slots Q (F0 m (pc + 1) ls rest)) : W p l e R s m args below meth c H locs cells slots Q (F0 m pc ls (.int x :: .int (nI j) :: .ref a :: rest)) := by
  refine va_iast hexec hb hK hP hD hS q0 t0 ha ht (vp_in_nI hj hn) hdg ?_
  rw [nI_clamp (by omega), hf]; exact kk
theorem bk_last (hexec : p.tables.exec = Jvm.exec) (hb : c.code = cc) (hK : va_K D cl tys s) (hP : va_P D cl ws H) (hD : va_D A ws) (hS : va_S A H0 H locs) (q0 t0 : Nat) {cA : ClassId} {n : Nat} {f f2 : Nat → Int64} (ha : ws[q0]? = some (a, .inl (cA, n, .inr (.inl f)))) (ht : tys[t0]? = some (cA, .long)) {j : Nat} {x : Int64} (hj : j < n) (hn : n < 2 ^ 31) (hf : vp_updL f j x = f2) (hdg : decode cc pc = .ok (.lastore, 1)) (kk : ∀ (H1 : Heap) (locs1 : List Loc), va_P D cl (ws.set q0 (a, .inl (cA, n, .inr (.inl f2)))) H1 → va_D A (ws.set q0 (a, .inl (cA, n, .inr (.inl f2)))) → va_S A H0 H1 locs1 → W p l e R s m args below meth c H1 locs1 cells slots Q (F0 m (pc + 1) ls rest)) : W p l e R s m args below meth c H locs cells slots Q (F0 m pc ls (.long x :: .int (nI j) :: .ref a :: rest)) := by
  refine va_last hexec hb hK hP hD hS q0 t0 ha ht (vp_in_nI hj hn) hdg ?_
  rw [nI_clamp (by omega), hf]; exact kk
end BKR
/-- a row of naturals as ints, as longs; one place changed -/
def aI (d : Nat → Nat) : Nat → Int32 := fun j => nI (d j)
def aL (d : Nat → Nat) : Nat → Int64 := fun j => lN (d j)
/-- a natural or none (-1) -/
def oI (r : Option Nat) : Int32 := match r with
  | none => -1
  | some k => nI k
def aO (d : Nat → Option Nat) : Nat → Int32 := fun j => oI (d j)
theorem aI_up (d : Nat → Nat) (k x : Nat) : upd (aI d) k (nI x) = aI (va_up d k x) := by
  funext j
  by_cases h : j = k
  · rw [h, pk_us]; simp [aI, va_up]
  · rw [pk_un h]; simp [aI, va_up, h]
theorem aO_up (d : Nat → Option Nat) (k : Nat) (x : Option Nat) : upd (aO d) k (oI x) = aO (va_up d k x) := by
  funext j
  by_cases h : j = k
  · rw [h, pk_us]; simp [aO, va_up]
  · rw [pk_un h]; simp [aO, va_up, h]
theorem aL_up (d : Nat → Nat) (k x : Nat) : vp_updL (aL d) k (lN x) = aL (va_up d k x) := by
  funext j
  by_cases h : j = k
  · rw [h, pk_uLs]; simp [aL, va_up]
  · rw [pk_uLn h]; simp [aL, va_up, h]
theorem oI_none_iff {r : Option Nat} (h : ∀ k, r = some k → k < 2 ^ 31) : oI r = -1 ↔ r = none := by
  cases r with
  | none => simp [oI]
  | some k =>
    refine ⟨fun q => ?_, fun q => nomatch q⟩
    have h1 := congrArg Int32.toInt q
    have h2 : (oI (some k)).toInt = (k : Int) := nI_toInt (h k rfl)
    rw [h2, show ((-1 : Int32)).toInt = -1 by decide] at h1
    omega
/-- two classes of arrays of one kind of number are one -/
theorem bk_sameI {D : va_G} {cl : List vw_C} {tys : List (ClassId × FieldType)} {s : State} (hK : va_K D cl tys s) (i j : Nat) {x y : ClassId} (hi : tys[i]? = some (x, .int)) (hj : tys[j]? = some (y, .int)) : y = x := by
  have h1 : s.vm.findClass ("[" ++ FieldType.int.toString) = some x := (hK.2 i _ hi).2
  have h2 : s.vm.findClass ("[" ++ FieldType.int.toString) = some y := (hK.2 j _ hj).2
  rw [h1] at h2
  exact (Option.some.inj h2).symm
theorem bk_sameL {D : va_G} {cl : List vw_C} {tys : List (ClassId × FieldType)} {s : State} (hK : va_K D cl tys s) (i j : Nat) {x y : ClassId} (hi : tys[i]? = some (x, .long)) (hj : tys[j]? = some (y, .long)) : y = x := by
  have h1 : s.vm.findClass ("[" ++ FieldType.long.toString) = some x := (hK.2 i _ hi).2
  have h2 : s.vm.findClass ("[" ++ FieldType.long.toString) = some y := (hK.2 j _ hj).2
  rw [h1] at h2
  exact (Option.some.inj h2).symm
/-- what a reading method is given: the cells, the classes -/
abbrev rdP (D : va_G) (cl : List vw_C) (tys : List (ClassId × FieldType)) (ws : va_W) : State → Prop := fun U => nw U ∧ va_P D cl ws U.heap ∧ va_K D cl tys U
/-- what a writing method is given -/
abbrev wrP (D : va_G) (cl : List vw_C) (tys : List (ClassId × FieldType)) (ws : va_W) (sz : Nat) : State → Prop := fun U => nw U ∧ U.heap.size = sz ∧ va_P D cl ws U.heap ∧ va_K D cl tys U ∧ va_D (fun _ => True) ws
/-- what it leaves -/
abbrev wrQ (D : va_G) (cl : List vw_C) (tys : List (ClassId × FieldType)) (A : Nat → Prop) (ws : va_W) : State → Prop := fun t => va_P D cl ws t.heap ∧ va_K D cl tys t ∧ va_D A ws
theorem bk_blind {av : List Value} {D : va_G} {cl : List vw_C} {tys : List (ClassId × FieldType)} {ws : va_W} : FrameBlind (va_Pc av (rdP D cl tys ws)) := fun a U g mk q => by
  obtain ⟨q0, qN, qP, qK⟩ := q
  exact ⟨q0, nw_same (u := U) (U := U.calling g mk a) rfl qN, qP, va_K.moved (u := U) (U := U.calling g mk a) (Vm.Alike.refl U.vm) qK⟩
theorem bk_blind0 {av : List Value} : FrameBlind (va_Pc av (fun _ => True)) := fun a U g mk q => q
theorem bk_blindW {av : List Value} {D : va_G} {cl : List vw_C} {tys : List (ClassId × FieldType)} {ws : va_W} {sz : Nat} : FrameBlind (va_Pc av (wrP D cl tys ws sz)) := fun a U g mk q => by
  obtain ⟨q0, qN, q1, qP, qK, qD⟩ := q
  exact ⟨q0, nw_same (u := U) (U := U.calling g mk a) rfl qN, q1, qP, va_K.moved (u := U) (U := U.calling g mk a) (Vm.Alike.refl U.vm) qK, qD⟩
theorem oI_some_iff {r : Option Nat} {k : Nat} (hr : ∀ k, r = some k → k < 2 ^ 31) (hk : k < 2 ^ 31) : oI r = nI k ↔ r = some k := by
  cases r with
  | none =>
    refine ⟨fun q => ?_, fun q => nomatch q⟩
    have h1 := congrArg Int32.toInt q
    rw [nI_toInt hk, show (oI none).toInt = -1 by decide] at h1
    omega
  | some j =>
    refine ⟨fun q => ?_, fun q => by cases q; rfl⟩
    have := (nI_eq (hr j rfl) hk).mp q
    rw [this]
section BKO
variable {p : Program} {l : Launch} {e : Env} {R : Room} {s : State} {m : MethodId} {args : Array Value} {below : List Frame} {meth : Method} {c : Code} {H : Heap} {locs : List Loc} {cells slots : Nat} {Q : State → Prop}
variable {cc : ByteArray} {pc : Nat} {ls : Array Slot} {rest : List Value} {D : va_G} {cl : List vw_C} {A : Nat → Prop} {a : Nat} {tys : List (ClassId × FieldType)} {ws : va_W} {H0 : Heap}
theorem bk_ocmp_eq (hexec : p.tables.exec = Jvm.exec) (hb : c.code = cc) {r : Option Nat} (hr : ∀ k, r = some k → k < 2 ^ 31) {off : Int} {tgt : Nat} (hdg : decode cc pc = .ok (.if_icmp .eq off, 3)) (ht : (pc : Int) + off = (tgt : Int)) (kt : r = none → W p l e R s m args below meth c H locs cells slots Q (F0 m tgt ls rest)) (kf : ¬ r = none → W p l e R s m args below meth c H locs cells slots Q (F0 m (pc + 3) ls rest)) : W p l e R s m args below meth c H locs cells slots Q (F0 m pc ls (.int (oI none) :: .int (oI r) :: rest)) :=
  lv_icmp_eq hexec hb hdg ht (fun h => kt ((oI_none_iff hr).mp h)) (fun h => kf (fun q => h ((oI_none_iff hr).mpr q)))
theorem bk_ocmp_ne (hexec : p.tables.exec = Jvm.exec) (hb : c.code = cc) {r : Option Nat} (hr : ∀ k, r = some k → k < 2 ^ 31) {off : Int} {tgt : Nat} (hdg : decode cc pc = .ok (.if_icmp .ne off, 3)) (ht : (pc : Int) + off = (tgt : Int)) (kt : ¬ r = none → W p l e R s m args below meth c H locs cells slots Q (F0 m tgt ls rest)) (kf : r = none → W p l e R s m args below meth c H locs cells slots Q (F0 m (pc + 3) ls rest)) : W p l e R s m args below meth c H locs cells slots Q (F0 m pc ls (.int (oI none) :: .int (oI r) :: rest)) :=
  lv_icmp_ne hexec hb hdg ht (fun h => kt (fun q => h ((oI_none_iff hr).mpr q))) (fun h => kf ((oI_none_iff hr).mp h))
theorem bk_ocmpn_eq (hexec : p.tables.exec = Jvm.exec) (hb : c.code = cc) {r : Option Nat} {k : Nat} (hr : ∀ k, r = some k → k < 2 ^ 31) (hk : k < 2 ^ 31) {off : Int} {tgt : Nat} (hdg : decode cc pc = .ok (.if_icmp .eq off, 3)) (ht : (pc : Int) + off = (tgt : Int)) (kt : r = some k → W p l e R s m args below meth c H locs cells slots Q (F0 m tgt ls rest)) (kf : ¬ r = some k → W p l e R s m args below meth c H locs cells slots Q (F0 m (pc + 3) ls rest)) : W p l e R s m args below meth c H locs cells slots Q (F0 m pc ls (.int (nI k) :: .int (oI r) :: rest)) :=
  lv_icmp_eq hexec hb hdg ht (fun h => kt ((oI_some_iff hr hk).mp h)) (fun h => kf (fun q => h ((oI_some_iff hr hk).mpr q)))
theorem bk_ocmpn_ne (hexec : p.tables.exec = Jvm.exec) (hb : c.code = cc) {r : Option Nat} {k : Nat} (hr : ∀ k, r = some k → k < 2 ^ 31) (hk : k < 2 ^ 31) {off : Int} {tgt : Nat} (hdg : decode cc pc = .ok (.if_icmp .ne off, 3)) (ht : (pc : Int) + off = (tgt : Int)) (kt : ¬ r = some k → W p l e R s m args below meth c H locs cells slots Q (F0 m tgt ls rest)) (kf : r = some k → W p l e R s m args below meth c H locs cells slots Q (F0 m (pc + 3) ls rest)) : W p l e R s m args below meth c H locs cells slots Q (F0 m pc ls (.int (nI k) :: .int (oI r) :: rest)) :=
  lv_icmp_ne hexec hb hdg ht (fun h => kt (fun q => h ((oI_some_iff hr hk).mpr q))) (fun h => kf ((oI_some_iff hr hk).mp h))
end BKO
theorem bk_incn (i k : Nat) : nI i + nI k = nI (i + k) := nI_add i k
/-- in a range or not -/
def inR (n : Nat) (x : Int32) : Prop := ∃ j, j < n ∧ x = nI j
theorem inR_of {n : Nat} (hn : n < 2 ^ 31) {x : Int32} (h0 : ¬ x < 0) (h1 : ¬ nI n ≤ x) : inR n x := by
  rcases pk_ix x hn with h | h | h
  · exact absurd h h0
  · exact absurd h h1
  · exact h
theorem inR_neg {n : Nat} (hn : n < 2 ^ 31) {x : Int32} (h : x < 0) : ¬ inR n x := fun ⟨j, hj, e⟩ => by
  rw [e] at h
  exact nI_pos (by omega) h
theorem inR_big {n : Nat} (hn : n < 2 ^ 31) {x : Int32} (h : nI n ≤ x) : ¬ inR n x := fun ⟨j, hj, e⟩ => by
  rw [e] at h
  exact nI_ge hj hn h
theorem inR_nI {n j : Nat} (hn : n < 2 ^ 31) (hj : j < 2 ^ 31) : inR n (nI j) ↔ j < n := ⟨fun ⟨k, hk, e⟩ => by
  have := (nI_eq hj (by omega)).mp e
  omega, fun h => ⟨j, h, rfl⟩⟩
theorem inR_le {n : Nat} (hn : n + 1 < 2 ^ 31) {x : Int32} (h0 : ¬ x < 0) (h1 : ¬ nI n < x) : inR (n + 1) x := by
  refine inR_of hn h0 (fun q => h1 ?_)
  rw [Int32.le_iff_toInt_le, nI_toInt hn] at q
  rw [Int32.lt_iff_toInt_lt, nI_toInt (by omega)]
  omega
theorem inR_gt {n : Nat} (hn : n + 1 < 2 ^ 31) {x : Int32} (h : nI n < x) : ¬ inR (n + 1) x := by
  refine inR_big hn ?_
  rw [Int32.lt_iff_toInt_lt, nI_toInt (by omega)] at h
  rw [Int32.le_iff_toInt_le, nI_toInt hn]
  omega
def inL (a b : Nat) (x : Int64) : Prop := ∃ j, a ≤ j ∧ j ≤ b ∧ x = lN j
theorem inL_of {a b : Nat} (ha : a < 2 ^ 63) (hb : b < 2 ^ 63) {x : Int64} (h0 : lN a ≤ x) (h1 : x ≤ lN b) : inL a b x := by
  obtain ⟨k, hk, rfl⟩ : ∃ k : Nat, k < 2 ^ 63 ∧ x = lN k := pk_lOf (fun q => by
    rw [Int64.le_iff_toInt_le, pk_lT ha] at h0
    rw [Int64.lt_iff_toInt_lt] at q
    have : (0 : Int64).toInt = 0 := by decide
    omega)
  exact ⟨k, (pk_lLE ha hk).mp h0, (pk_lLE hk hb).mp h1, rfl⟩
theorem inL_low {a b : Nat} (ha : a < 2 ^ 63) (hb : b < 2 ^ 63) {x : Int64} (h : x < lN a) : ¬ inL a b x := fun ⟨j, h1, h2, e⟩ => by
  rw [e] at h
  have := (pk_lLT (by omega) ha).mp h
  omega
theorem inL_high {a b : Nat} (hb : b < 2 ^ 63) {x : Int64} (h : lN b < x) : ¬ inL a b x := fun ⟨j, h1, h2, e⟩ => by
  rw [e] at h
  have := (pk_lLT hb (by omega)).mp h
  omega
end
section
theorem d_B_init_0 : decode b_B_init 0 = .ok (.aload_n 0, 1) := by decide +kernel
theorem d_B_init_1 : decode b_B_init 1 = .ok (.invokespecial 1, 3) := by decide +kernel
theorem d_B_init_4 : decode b_B_init 4 = .ok (.aload_n 0, 1) := by decide +kernel
theorem d_B_init_5 : decode b_B_init 5 = .ok (.lload_n 1, 1) := by decide +kernel
theorem d_B_init_6 : decode b_B_init 6 = .ok (.putfield 7, 3) := by decide +kernel
theorem d_B_init_9 : decode b_B_init 9 = .ok (.aload_n 0, 1) := by decide +kernel
theorem d_B_init_10 : decode b_B_init 10 = .ok (.new 13, 3) := by decide +kernel
theorem d_B_init_13 : decode b_B_init 13 = .ok (.dup, 1) := by decide +kernel
theorem d_B_init_14 : decode b_B_init 14 = .ok (.invokespecial 15, 3) := by decide +kernel
theorem d_B_init_17 : decode b_B_init 17 = .ok (.putfield 16, 3) := by decide +kernel
theorem d_B_init_20 : decode b_B_init 20 = .ok (.aload_n 0, 1) := by decide +kernel
theorem d_B_init_21 : decode b_B_init 21 = .ok (.new 13, 3) := by decide +kernel
theorem d_B_init_24 : decode b_B_init 24 = .ok (.dup, 1) := by decide +kernel
theorem d_B_init_25 : decode b_B_init 25 = .ok (.invokespecial 15, 3) := by decide +kernel
theorem d_B_init_28 : decode b_B_init 28 = .ok (.putfield 20, 3) := by decide +kernel
theorem d_B_init_31 : decode b_B_init 31 = .ok (.aload_n 0, 1) := by decide +kernel
theorem d_B_init_32 : decode b_B_init 32 = .ok (.new 23, 3) := by decide +kernel
theorem d_B_init_35 : decode b_B_init 35 = .ok (.dup, 1) := by decide +kernel
theorem d_B_init_36 : decode b_B_init 36 = .ok (.invokespecial 25, 3) := by decide +kernel
theorem d_B_init_39 : decode b_B_init 39 = .ok (.putfield 26, 3) := by decide +kernel
theorem d_B_init_42 : decode b_B_init 42 = .ok (.aload_n 0, 1) := by decide +kernel
theorem d_B_init_43 : decode b_B_init 43 = .ok (.new 30, 3) := by decide +kernel
theorem d_B_init_46 : decode b_B_init 46 = .ok (.dup, 1) := by decide +kernel
theorem d_B_init_47 : decode b_B_init 47 = .ok (.invokespecial 32, 3) := by decide +kernel
theorem d_B_init_50 : decode b_B_init 50 = .ok (.putfield 33, 3) := by decide +kernel
theorem d_B_init_53 : decode b_B_init 53 = .ok (.aload_n 0, 1) := by decide +kernel
theorem d_B_init_54 : decode b_B_init 54 = .ok (.new 37, 3) := by decide +kernel
theorem d_B_init_57 : decode b_B_init 57 = .ok (.dup, 1) := by decide +kernel
theorem d_B_init_58 : decode b_B_init 58 = .ok (.invokespecial 39, 3) := by decide +kernel
theorem d_B_init_61 : decode b_B_init 61 = .ok (.putfield 40, 3) := by decide +kernel
theorem d_B_init_64 : decode b_B_init 64 = .ok (.aload_n 0, 1) := by decide +kernel
theorem d_B_init_65 : decode b_B_init 65 = .ok (.new 44, 3) := by decide +kernel
theorem d_B_init_68 : decode b_B_init 68 = .ok (.dup, 1) := by decide +kernel
theorem d_B_init_69 : decode b_B_init 69 = .ok (.invokespecial 46, 3) := by decide +kernel
theorem d_B_init_72 : decode b_B_init 72 = .ok (.putfield 47, 3) := by decide +kernel
theorem d_B_init_75 : decode b_B_init 75 = .ok (.aload_n 0, 1) := by decide +kernel
theorem d_B_init_76 : decode b_B_init 76 = .ok (.new 44, 3) := by decide +kernel
theorem d_B_init_79 : decode b_B_init 79 = .ok (.dup, 1) := by decide +kernel
theorem d_B_init_80 : decode b_B_init 80 = .ok (.invokespecial 46, 3) := by decide +kernel
theorem d_B_init_83 : decode b_B_init 83 = .ok (.putfield 51, 3) := by decide +kernel
theorem d_B_init_86 : decode b_B_init 86 = .ok (.aload_n 0, 1) := by decide +kernel
theorem d_B_init_87 : decode b_B_init 87 = .ok (.new 54, 3) := by decide +kernel
theorem d_B_init_90 : decode b_B_init 90 = .ok (.dup, 1) := by decide +kernel
theorem d_B_init_91 : decode b_B_init 91 = .ok (.invokespecial 56, 3) := by decide +kernel
theorem d_B_init_94 : decode b_B_init 94 = .ok (.putfield 57, 3) := by decide +kernel
theorem d_B_init_97 : decode b_B_init 97 = .ok (.aload_n 0, 1) := by decide +kernel
theorem d_B_init_98 : decode b_B_init 98 = .ok (.new 61, 3) := by decide +kernel
theorem d_B_init_101 : decode b_B_init 101 = .ok (.dup, 1) := by decide +kernel
theorem d_B_init_102 : decode b_B_init 102 = .ok (.invokespecial 63, 3) := by decide +kernel
theorem d_B_init_105 : decode b_B_init 105 = .ok (.putfield 64, 3) := by decide +kernel
theorem d_B_init_108 : decode b_B_init 108 = .ok (.return_, 1) := by decide +kernel
theorem d_B_page_0 : decode b_B_page 0 = .ok (.aload_n 0, 1) := by decide +kernel
theorem d_B_page_1 : decode b_B_page 1 = .ok (.getfield 16, 3) := by decide +kernel
theorem d_B_page_4 : decode b_B_page 4 = .ok (.iload_n 1, 1) := by decide +kernel
theorem d_B_page_5 : decode b_B_page 5 = .ok (.iload_n 2, 1) := by decide +kernel
theorem d_B_page_6 : decode b_B_page 6 = .ok (.iload_n 3, 1) := by decide +kernel
theorem d_B_page_7 : decode b_B_page 7 = .ok (.lload 4, 2) := by decide +kernel
theorem d_B_page_9 : decode b_B_page 9 = .ok (.invokevirtual 68, 3) := by decide +kernel
theorem d_B_page_12 : decode b_B_page 12 = .ok (.ireturn, 1) := by decide +kernel
theorem d_B_sale_0 : decode b_B_sale 0 = .ok (.aload_n 0, 1) := by decide +kernel
theorem d_B_sale_1 : decode b_B_sale 1 = .ok (.getfield 20, 3) := by decide +kernel
theorem d_B_sale_4 : decode b_B_sale 4 = .ok (.iload_n 1, 1) := by decide +kernel
theorem d_B_sale_5 : decode b_B_sale 5 = .ok (.iload_n 2, 1) := by decide +kernel
theorem d_B_sale_6 : decode b_B_sale 6 = .ok (.iload_n 3, 1) := by decide +kernel
theorem d_B_sale_7 : decode b_B_sale 7 = .ok (.lload 4, 2) := by decide +kernel
theorem d_B_sale_9 : decode b_B_sale 9 = .ok (.invokevirtual 68, 3) := by decide +kernel
theorem d_B_sale_12 : decode b_B_sale 12 = .ok (.ireturn, 1) := by decide +kernel
theorem d_B_run_0 : decode b_B_run 0 = .ok (.aload_n 0, 1) := by decide +kernel
theorem d_B_run_1 : decode b_B_run 1 = .ok (.getfield 26, 3) := by decide +kernel
theorem d_B_run_4 : decode b_B_run 4 = .ok (.aload_n 0, 1) := by decide +kernel
theorem d_B_run_5 : decode b_B_run 5 = .ok (.getfield 16, 3) := by decide +kernel
theorem d_B_run_8 : decode b_B_run 8 = .ok (.aload_n 0, 1) := by decide +kernel
theorem d_B_run_9 : decode b_B_run 9 = .ok (.getfield 20, 3) := by decide +kernel
theorem d_B_run_12 : decode b_B_run 12 = .ok (.invokevirtual 72, 3) := by decide +kernel
theorem d_B_run_15 : decode b_B_run 15 = .ok (.ireturn, 1) := by decide +kernel
theorem d_B_pair_0 : decode b_B_pair 0 = .ok (.aload_n 0, 1) := by decide +kernel
theorem d_B_pair_1 : decode b_B_pair 1 = .ok (.getfield 26, 3) := by decide +kernel
theorem d_B_pair_4 : decode b_B_pair 4 = .ok (.iload_n 1, 1) := by decide +kernel
theorem d_B_pair_5 : decode b_B_pair 5 = .ok (.invokevirtual 76, 3) := by decide +kernel
theorem d_B_pair_8 : decode b_B_pair 8 = .ok (.ireturn, 1) := by decide +kernel
theorem d_B_points_0 : decode b_B_points 0 = .ok (.aload_n 0, 1) := by decide +kernel
theorem d_B_points_1 : decode b_B_points 1 = .ok (.getfield 26, 3) := by decide +kernel
theorem d_B_points_4 : decode b_B_points 4 = .ok (.iload_n 1, 1) := by decide +kernel
theorem d_B_points_5 : decode b_B_points 5 = .ok (.invokevirtual 76, 3) := by decide +kernel
theorem d_B_points_8 : decode b_B_points 8 = .ok (.istore_n 2, 1) := by decide +kernel
theorem d_B_points_9 : decode b_B_points 9 = .ok (.iload_n 2, 1) := by decide +kernel
theorem d_B_points_10 : decode b_B_points 10 = .ok (.iconst (-1), 1) := by decide +kernel
theorem d_B_points_11 : decode b_B_points 11 = .ok (.if_icmp .ne 7, 3) := by decide +kernel
theorem d_B_points_14 : decode b_B_points 14 = .ok (.iconst 0, 1) := by decide +kernel
theorem d_B_points_15 : decode b_B_points 15 = .ok (.goto 16, 3) := by decide +kernel
theorem d_B_points_18 : decode b_B_points 18 = .ok (.aload_n 0, 1) := by decide +kernel
theorem d_B_points_19 : decode b_B_points 19 = .ok (.getfield 16, 3) := by decide +kernel
theorem d_B_points_22 : decode b_B_points 22 = .ok (.iload_n 1, 1) := by decide +kernel
theorem d_B_points_23 : decode b_B_points 23 = .ok (.aload_n 0, 1) := by decide +kernel
theorem d_B_points_24 : decode b_B_points 24 = .ok (.getfield 20, 3) := by decide +kernel
theorem d_B_points_27 : decode b_B_points 27 = .ok (.iload_n 2, 1) := by decide +kernel
theorem d_B_points_28 : decode b_B_points 28 = .ok (.invokevirtual 80, 3) := by decide +kernel
theorem d_B_points_31 : decode b_B_points 31 = .ok (.ireturn, 1) := by decide +kernel
theorem d_B_differs_0 : decode b_B_differs 0 = .ok (.aload_n 0, 1) := by decide +kernel
theorem d_B_differs_1 : decode b_B_differs 1 = .ok (.getfield 26, 3) := by decide +kernel
theorem d_B_differs_4 : decode b_B_differs 4 = .ok (.iload_n 1, 1) := by decide +kernel
theorem d_B_differs_5 : decode b_B_differs 5 = .ok (.invokevirtual 76, 3) := by decide +kernel
theorem d_B_differs_8 : decode b_B_differs 8 = .ok (.istore_n 2, 1) := by decide +kernel
theorem d_B_differs_9 : decode b_B_differs 9 = .ok (.iload_n 2, 1) := by decide +kernel
theorem d_B_differs_10 : decode b_B_differs 10 = .ok (.iconst (-1), 1) := by decide +kernel
theorem d_B_differs_11 : decode b_B_differs 11 = .ok (.if_icmp .ne 7, 3) := by decide +kernel
theorem d_B_differs_14 : decode b_B_differs 14 = .ok (.lconst 0, 1) := by decide +kernel
theorem d_B_differs_15 : decode b_B_differs 15 = .ok (.goto 20, 3) := by decide +kernel
theorem d_B_differs_18 : decode b_B_differs 18 = .ok (.aload_n 0, 1) := by decide +kernel
theorem d_B_differs_19 : decode b_B_differs 19 = .ok (.getfield 20, 3) := by decide +kernel
theorem d_B_differs_22 : decode b_B_differs 22 = .ok (.iload_n 2, 1) := by decide +kernel
theorem d_B_differs_23 : decode b_B_differs 23 = .ok (.invokevirtual 84, 3) := by decide +kernel
theorem d_B_differs_26 : decode b_B_differs 26 = .ok (.aload_n 0, 1) := by decide +kernel
theorem d_B_differs_27 : decode b_B_differs 27 = .ok (.getfield 16, 3) := by decide +kernel
theorem d_B_differs_30 : decode b_B_differs 30 = .ok (.iload_n 1, 1) := by decide +kernel
theorem d_B_differs_31 : decode b_B_differs 31 = .ok (.invokevirtual 84, 3) := by decide +kernel
theorem d_B_differs_34 : decode b_B_differs 34 = .ok (.lsub, 1) := by decide +kernel
theorem d_B_differs_35 : decode b_B_differs 35 = .ok (.lreturn, 1) := by decide +kernel
theorem d_B_waits_0 : decode b_B_waits 0 = .ok (.aload_n 0, 1) := by decide +kernel
theorem d_B_waits_1 : decode b_B_waits 1 = .ok (.getfield 26, 3) := by decide +kernel
theorem d_B_waits_4 : decode b_B_waits 4 = .ok (.aload_n 0, 1) := by decide +kernel
theorem d_B_waits_5 : decode b_B_waits 5 = .ok (.getfield 16, 3) := by decide +kernel
theorem d_B_waits_8 : decode b_B_waits 8 = .ok (.iload_n 1, 1) := by decide +kernel
theorem d_B_waits_9 : decode b_B_waits 9 = .ok (.iload_n 2, 1) := by decide +kernel
theorem d_B_waits_10 : decode b_B_waits 10 = .ok (.invokevirtual 88, 3) := by decide +kernel
theorem d_B_waits_13 : decode b_B_waits 13 = .ok (.ireturn, 1) := by decide +kernel
theorem d_B_pageAt_0 : decode b_B_pageAt 0 = .ok (.aload_n 0, 1) := by decide +kernel
theorem d_B_pageAt_1 : decode b_B_pageAt 1 = .ok (.getfield 16, 3) := by decide +kernel
theorem d_B_pageAt_4 : decode b_B_pageAt 4 = .ok (.iload_n 1, 1) := by decide +kernel
theorem d_B_pageAt_5 : decode b_B_pageAt 5 = .ok (.invokevirtual 92, 3) := by decide +kernel
theorem d_B_pageAt_8 : decode b_B_pageAt 8 = .ok (.ifCond .ne 13, 3) := by decide +kernel
theorem d_B_pageAt_11 : decode b_B_pageAt 11 = .ok (.new 96, 3) := by decide +kernel
theorem d_B_pageAt_14 : decode b_B_pageAt 14 = .ok (.dup, 1) := by decide +kernel
theorem d_B_pageAt_15 : decode b_B_pageAt 15 = .ok (.ldc 98, 2) := by decide +kernel
theorem d_B_pageAt_17 : decode b_B_pageAt 17 = .ok (.invokespecial 100, 3) := by decide +kernel
theorem d_B_pageAt_20 : decode b_B_pageAt 20 = .ok (.athrow, 1) := by decide +kernel
theorem d_B_pageAt_21 : decode b_B_pageAt 21 = .ok (.aload_n 0, 1) := by decide +kernel
theorem d_B_pageAt_22 : decode b_B_pageAt 22 = .ok (.getfield 16, 3) := by decide +kernel
theorem d_B_pageAt_25 : decode b_B_pageAt 25 = .ok (.iload_n 1, 1) := by decide +kernel
theorem d_B_pageAt_26 : decode b_B_pageAt 26 = .ok (.invokevirtual 84, 3) := by decide +kernel
theorem d_B_pageAt_29 : decode b_B_pageAt 29 = .ok (.lreturn, 1) := by decide +kernel
theorem d_B_balance_0 : decode b_B_balance 0 = .ok (.aload_n 0, 1) := by decide +kernel
theorem d_B_balance_1 : decode b_B_balance 1 = .ok (.getfield 20, 3) := by decide +kernel
theorem d_B_balance_4 : decode b_B_balance 4 = .ok (.iload_n 1, 1) := by decide +kernel
theorem d_B_balance_5 : decode b_B_balance 5 = .ok (.invokevirtual 103, 3) := by decide +kernel
theorem d_B_balance_8 : decode b_B_balance 8 = .ok (.aload_n 0, 1) := by decide +kernel
theorem d_B_balance_9 : decode b_B_balance 9 = .ok (.getfield 16, 3) := by decide +kernel
theorem d_B_balance_12 : decode b_B_balance 12 = .ok (.iload_n 1, 1) := by decide +kernel
theorem d_B_balance_13 : decode b_B_balance 13 = .ok (.invokevirtual 103, 3) := by decide +kernel
theorem d_B_balance_16 : decode b_B_balance 16 = .ok (.lsub, 1) := by decide +kernel
theorem d_B_balance_17 : decode b_B_balance 17 = .ok (.lreturn, 1) := by decide +kernel
theorem d_B_plant_0 : decode b_B_plant 0 = .ok (.aload_n 0, 1) := by decide +kernel
theorem d_B_plant_1 : decode b_B_plant 1 = .ok (.getfield 33, 3) := by decide +kernel
theorem d_B_plant_4 : decode b_B_plant 4 = .ok (.lload_n 1, 1) := by decide +kernel
theorem d_B_plant_5 : decode b_B_plant 5 = .ok (.iload_n 3, 1) := by decide +kernel
theorem d_B_plant_6 : decode b_B_plant 6 = .ok (.invokevirtual 106, 3) := by decide +kernel
theorem d_B_plant_9 : decode b_B_plant 9 = .ok (.ireturn, 1) := by decide +kernel
theorem d_B_out_0 : decode b_B_out 0 = .ok (.aload_n 0, 1) := by decide +kernel
theorem d_B_out_1 : decode b_B_out 1 = .ok (.getfield 33, 3) := by decide +kernel
theorem d_B_out_4 : decode b_B_out 4 = .ok (.iload_n 1, 1) := by decide +kernel
theorem d_B_out_5 : decode b_B_out 5 = .ok (.iload_n 2, 1) := by decide +kernel
theorem d_B_out_6 : decode b_B_out 6 = .ok (.lload_n 3, 1) := by decide +kernel
theorem d_B_out_7 : decode b_B_out 7 = .ok (.invokevirtual 109, 3) := by decide +kernel
theorem d_B_out_10 : decode b_B_out 10 = .ok (.ireturn, 1) := by decide +kernel
theorem d_B_lacks_0 : decode b_B_lacks 0 = .ok (.aload_n 0, 1) := by decide +kernel
theorem d_B_lacks_1 : decode b_B_lacks 1 = .ok (.getfield 33, 3) := by decide +kernel
theorem d_B_lacks_4 : decode b_B_lacks 4 = .ok (.iload_n 1, 1) := by decide +kernel
theorem d_B_lacks_5 : decode b_B_lacks 5 = .ok (.invokevirtual 113, 3) := by decide +kernel
theorem d_B_lacks_8 : decode b_B_lacks 8 = .ok (.ifCond .eq 14, 3) := by decide +kernel
theorem d_B_lacks_11 : decode b_B_lacks 11 = .ok (.aload_n 0, 1) := by decide +kernel
theorem d_B_lacks_12 : decode b_B_lacks 12 = .ok (.getfield 33, 3) := by decide +kernel
theorem d_B_lacks_15 : decode b_B_lacks 15 = .ok (.iload_n 1, 1) := by decide +kernel
theorem d_B_lacks_16 : decode b_B_lacks 16 = .ok (.invokevirtual 114, 3) := by decide +kernel
theorem d_B_lacks_19 : decode b_B_lacks 19 = .ok (.goto 6, 3) := by decide +kernel
theorem d_B_lacks_22 : decode b_B_lacks 22 = .ok (.ldc2_w 117, 3) := by decide +kernel
theorem d_B_lacks_25 : decode b_B_lacks 25 = .ok (.lreturn, 1) := by decide +kernel
theorem d_B_nowhere_0 : decode b_B_nowhere 0 = .ok (.aload_n 0, 1) := by decide +kernel
theorem d_B_nowhere_1 : decode b_B_nowhere 1 = .ok (.getfield 33, 3) := by decide +kernel
theorem d_B_nowhere_4 : decode b_B_nowhere 4 = .ok (.iload_n 1, 1) := by decide +kernel
theorem d_B_nowhere_5 : decode b_B_nowhere 5 = .ok (.invokevirtual 113, 3) := by decide +kernel
theorem d_B_nowhere_8 : decode b_B_nowhere 8 = .ok (.ifCond .eq 18, 3) := by decide +kernel
theorem d_B_nowhere_11 : decode b_B_nowhere 11 = .ok (.aload_n 0, 1) := by decide +kernel
theorem d_B_nowhere_12 : decode b_B_nowhere 12 = .ok (.getfield 33, 3) := by decide +kernel
theorem d_B_nowhere_15 : decode b_B_nowhere 15 = .ok (.iload_n 1, 1) := by decide +kernel
theorem d_B_nowhere_16 : decode b_B_nowhere 16 = .ok (.invokevirtual 119, 3) := by decide +kernel
theorem d_B_nowhere_19 : decode b_B_nowhere 19 = .ok (.iload_n 2, 1) := by decide +kernel
theorem d_B_nowhere_20 : decode b_B_nowhere 20 = .ok (.invokestatic 122, 3) := by decide +kernel
theorem d_B_nowhere_23 : decode b_B_nowhere 23 = .ok (.goto 4, 3) := by decide +kernel
theorem d_B_nowhere_26 : decode b_B_nowhere 26 = .ok (.iconst (-1), 1) := by decide +kernel
theorem d_B_nowhere_27 : decode b_B_nowhere 27 = .ok (.ireturn, 1) := by decide +kernel
theorem d_B_risk_0 : decode b_B_risk 0 = .ok (.aload_n 0, 1) := by decide +kernel
theorem d_B_risk_1 : decode b_B_risk 1 = .ok (.getfield 40, 3) := by decide +kernel
theorem d_B_risk_4 : decode b_B_risk 4 = .ok (.iload_n 1, 1) := by decide +kernel
theorem d_B_risk_5 : decode b_B_risk 5 = .ok (.iload_n 2, 1) := by decide +kernel
theorem d_B_risk_6 : decode b_B_risk 6 = .ok (.iload_n 3, 1) := by decide +kernel
theorem d_B_risk_7 : decode b_B_risk 7 = .ok (.invokevirtual 126, 3) := by decide +kernel
theorem d_B_risk_10 : decode b_B_risk 10 = .ok (.ireturn, 1) := by decide +kernel
theorem d_B_draw_0 : decode b_B_draw 0 = .ok (.iload_n 1, 1) := by decide +kernel
theorem d_B_draw_1 : decode b_B_draw 1 = .ok (.ifCond .lt 14, 3) := by decide +kernel
theorem d_B_draw_4 : decode b_B_draw 4 = .ok (.iload_n 1, 1) := by decide +kernel
theorem d_B_draw_5 : decode b_B_draw 5 = .ok (.aload_n 0, 1) := by decide +kernel
theorem d_B_draw_6 : decode b_B_draw 6 = .ok (.getfield 16, 3) := by decide +kernel
theorem d_B_draw_9 : decode b_B_draw 9 = .ok (.getfield 130, 3) := by decide +kernel
theorem d_B_draw_12 : decode b_B_draw 12 = .ok (.if_icmp .le 5, 3) := by decide +kernel
theorem d_B_draw_15 : decode b_B_draw 15 = .ok (.iconst (-1), 1) := by decide +kernel
theorem d_B_draw_16 : decode b_B_draw 16 = .ok (.ireturn, 1) := by decide +kernel
theorem d_B_draw_17 : decode b_B_draw 17 = .ok (.aload_n 0, 1) := by decide +kernel
theorem d_B_draw_18 : decode b_B_draw 18 = .ok (.getfield 40, 3) := by decide +kernel
theorem d_B_draw_21 : decode b_B_draw 21 = .ok (.aload_n 0, 1) := by decide +kernel
theorem d_B_draw_22 : decode b_B_draw 22 = .ok (.getfield 16, 3) := by decide +kernel
theorem d_B_draw_25 : decode b_B_draw 25 = .ok (.aload_n 0, 1) := by decide +kernel
theorem d_B_draw_26 : decode b_B_draw 26 = .ok (.getfield 7, 3) := by decide +kernel
theorem d_B_draw_29 : decode b_B_draw 29 = .ok (.iload_n 1, 1) := by decide +kernel
theorem d_B_draw_30 : decode b_B_draw 30 = .ok (.aload_n 0, 1) := by decide +kernel
theorem d_B_draw_31 : decode b_B_draw 31 = .ok (.getfield 47, 3) := by decide +kernel
theorem d_B_draw_34 : decode b_B_draw 34 = .ok (.invokevirtual 134, 3) := by decide +kernel
theorem d_B_draw_37 : decode b_B_draw 37 = .ok (.aload_n 0, 1) := by decide +kernel
theorem d_B_draw_38 : decode b_B_draw 38 = .ok (.getfield 47, 3) := by decide +kernel
theorem d_B_draw_41 : decode b_B_draw 41 = .ok (.getfield 138, 3) := by decide +kernel
theorem d_B_draw_44 : decode b_B_draw 44 = .ok (.ireturn, 1) := by decide +kernel
theorem d_B_drawn_0 : decode b_B_drawn 0 = .ok (.aload_n 0, 1) := by decide +kernel
theorem d_B_drawn_1 : decode b_B_drawn 1 = .ok (.getfield 47, 3) := by decide +kernel
theorem d_B_drawn_4 : decode b_B_drawn 4 = .ok (.iload_n 1, 1) := by decide +kernel
theorem d_B_drawn_5 : decode b_B_drawn 5 = .ok (.invokevirtual 139, 3) := by decide +kernel
theorem d_B_drawn_8 : decode b_B_drawn 8 = .ok (.ireturn, 1) := by decide +kernel
theorem d_B_same_0 : decode b_B_same 0 = .ok (.aload_n 0, 1) := by decide +kernel
theorem d_B_same_1 : decode b_B_same 1 = .ok (.getfield 40, 3) := by decide +kernel
theorem d_B_same_4 : decode b_B_same 4 = .ok (.aload_n 0, 1) := by decide +kernel
theorem d_B_same_5 : decode b_B_same 5 = .ok (.getfield 16, 3) := by decide +kernel
theorem d_B_same_8 : decode b_B_same 8 = .ok (.lload_n 1, 1) := by decide +kernel
theorem d_B_same_9 : decode b_B_same 9 = .ok (.aload_n 0, 1) := by decide +kernel
theorem d_B_same_10 : decode b_B_same 10 = .ok (.getfield 47, 3) := by decide +kernel
theorem d_B_same_13 : decode b_B_same 13 = .ok (.getfield 142, 3) := by decide +kernel
theorem d_B_same_16 : decode b_B_same 16 = .ok (.aload_n 0, 1) := by decide +kernel
theorem d_B_same_17 : decode b_B_same 17 = .ok (.getfield 51, 3) := by decide +kernel
theorem d_B_same_20 : decode b_B_same 20 = .ok (.invokevirtual 134, 3) := by decide +kernel
theorem d_B_same_23 : decode b_B_same 23 = .ok (.aload_n 0, 1) := by decide +kernel
theorem d_B_same_24 : decode b_B_same 24 = .ok (.getfield 47, 3) := by decide +kernel
theorem d_B_same_27 : decode b_B_same 27 = .ok (.aload_n 0, 1) := by decide +kernel
theorem d_B_same_28 : decode b_B_same 28 = .ok (.getfield 51, 3) := by decide +kernel
theorem d_B_same_31 : decode b_B_same 31 = .ok (.invokevirtual 145, 3) := by decide +kernel
theorem d_B_same_34 : decode b_B_same 34 = .ok (.ireturn, 1) := by decide +kernel
theorem d_B_missed_0 : decode b_B_missed 0 = .ok (.aload_n 0, 1) := by decide +kernel
theorem d_B_missed_1 : decode b_B_missed 1 = .ok (.getfield 16, 3) := by decide +kernel
theorem d_B_missed_4 : decode b_B_missed 4 = .ok (.getfield 130, 3) := by decide +kernel
theorem d_B_missed_7 : decode b_B_missed 7 = .ok (.istore 4, 2) := by decide +kernel
theorem d_B_missed_9 : decode b_B_missed 9 = .ok (.iload_n 1, 1) := by decide +kernel
theorem d_B_missed_10 : decode b_B_missed 10 = .ok (.ifCond .lt 28, 3) := by decide +kernel
theorem d_B_missed_13 : decode b_B_missed 13 = .ok (.iload_n 1, 1) := by decide +kernel
theorem d_B_missed_14 : decode b_B_missed 14 = .ok (.iload 4, 2) := by decide +kernel
theorem d_B_missed_16 : decode b_B_missed 16 = .ok (.if_icmp .gt 22, 3) := by decide +kernel
theorem d_B_missed_19 : decode b_B_missed 19 = .ok (.iload_n 2, 1) := by decide +kernel
theorem d_B_missed_20 : decode b_B_missed 20 = .ok (.ifCond .lt 18, 3) := by decide +kernel
theorem d_B_missed_23 : decode b_B_missed 23 = .ok (.iload_n 2, 1) := by decide +kernel
theorem d_B_missed_24 : decode b_B_missed 24 = .ok (.iload 4, 2) := by decide +kernel
theorem d_B_missed_26 : decode b_B_missed 26 = .ok (.if_icmp .gt 12, 3) := by decide +kernel
theorem d_B_missed_29 : decode b_B_missed 29 = .ok (.iload_n 3, 1) := by decide +kernel
theorem d_B_missed_30 : decode b_B_missed 30 = .ok (.ifCond .lt 8, 3) := by decide +kernel
theorem d_B_missed_33 : decode b_B_missed 33 = .ok (.iload_n 3, 1) := by decide +kernel
theorem d_B_missed_34 : decode b_B_missed 34 = .ok (.iconst 1, 1) := by decide +kernel
theorem d_B_missed_35 : decode b_B_missed 35 = .ok (.if_icmp .le 7, 3) := by decide +kernel
theorem d_B_missed_38 : decode b_B_missed 38 = .ok (.ldc2_w 117, 3) := by decide +kernel
theorem d_B_missed_41 : decode b_B_missed 41 = .ok (.lreturn, 1) := by decide +kernel
theorem d_B_missed_42 : decode b_B_missed 42 = .ok (.iload 4, 2) := by decide +kernel
theorem d_B_missed_44 : decode b_B_missed 44 = .ok (.iload_n 2, 1) := by decide +kernel
theorem d_B_missed_45 : decode b_B_missed 45 = .ok (.isub, 1) := by decide +kernel
theorem d_B_missed_46 : decode b_B_missed 46 = .ok (.iload_n 1, 1) := by decide +kernel
theorem d_B_missed_47 : decode b_B_missed 47 = .ok (.invokestatic 149, 3) := by decide +kernel
theorem d_B_missed_50 : decode b_B_missed 50 = .ok (.lstore 5, 2) := by decide +kernel
theorem d_B_missed_52 : decode b_B_missed 52 = .ok (.iload 4, 2) := by decide +kernel
theorem d_B_missed_54 : decode b_B_missed 54 = .ok (.iload_n 1, 1) := by decide +kernel
theorem d_B_missed_55 : decode b_B_missed 55 = .ok (.invokestatic 149, 3) := by decide +kernel
theorem d_B_missed_58 : decode b_B_missed 58 = .ok (.lstore 7, 2) := by decide +kernel
theorem d_B_missed_60 : decode b_B_missed 60 = .ok (.lload 5, 2) := by decide +kernel
theorem d_B_missed_62 : decode b_B_missed 62 = .ok (.lload 7, 2) := by decide +kernel
theorem d_B_missed_64 : decode b_B_missed 64 = .ok (.invokestatic 153, 3) := by decide +kernel
theorem d_B_missed_67 : decode b_B_missed 67 = .ok (.lstore 9, 2) := by decide +kernel
theorem d_B_missed_69 : decode b_B_missed 69 = .ok (.iload_n 3, 1) := by decide +kernel
theorem d_B_missed_70 : decode b_B_missed 70 = .ok (.ifCond .ne 8, 3) := by decide +kernel
theorem d_B_missed_73 : decode b_B_missed 73 = .ok (.lload 5, 2) := by decide +kernel
theorem d_B_missed_75 : decode b_B_missed 75 = .ok (.goto 5, 3) := by decide +kernel
theorem d_B_missed_78 : decode b_B_missed 78 = .ok (.lload 7, 2) := by decide +kernel
theorem d_B_missed_80 : decode b_B_missed 80 = .ok (.lstore 11, 2) := by decide +kernel
theorem d_B_missed_82 : decode b_B_missed 82 = .ok (.lload 9, 2) := by decide +kernel
theorem d_B_missed_84 : decode b_B_missed 84 = .ok (.lconst 0, 1) := by decide +kernel
theorem d_B_missed_85 : decode b_B_missed 85 = .ok (.lcmp, 1) := by decide +kernel
theorem d_B_missed_86 : decode b_B_missed 86 = .ok (.ifCond .le 11, 3) := by decide +kernel
theorem d_B_missed_89 : decode b_B_missed 89 = .ok (.lload 11, 2) := by decide +kernel
theorem d_B_missed_91 : decode b_B_missed 91 = .ok (.lload 9, 2) := by decide +kernel
theorem d_B_missed_93 : decode b_B_missed 93 = .ok (.ldiv, 1) := by decide +kernel
theorem d_B_missed_94 : decode b_B_missed 94 = .ok (.goto 5, 3) := by decide +kernel
theorem d_B_missed_97 : decode b_B_missed 97 = .ok (.lload 11, 2) := by decide +kernel
theorem d_B_missed_99 : decode b_B_missed 99 = .ok (.lreturn, 1) := by decide +kernel
theorem d_B_camera_0 : decode b_B_camera 0 = .ok (.aload_n 0, 1) := by decide +kernel
theorem d_B_camera_1 : decode b_B_camera 1 = .ok (.getfield 57, 3) := by decide +kernel
theorem d_B_camera_4 : decode b_B_camera 4 = .ok (.aload_n 0, 1) := by decide +kernel
theorem d_B_camera_5 : decode b_B_camera 5 = .ok (.getfield 16, 3) := by decide +kernel
theorem d_B_camera_8 : decode b_B_camera 8 = .ok (.iload_n 1, 1) := by decide +kernel
theorem d_B_camera_9 : decode b_B_camera 9 = .ok (.iload_n 2, 1) := by decide +kernel
theorem d_B_camera_10 : decode b_B_camera 10 = .ok (.invokevirtual 157, 3) := by decide +kernel
theorem d_B_camera_13 : decode b_B_camera 13 = .ok (.ireturn, 1) := by decide +kernel
theorem d_B_act_0 : decode b_B_act 0 = .ok (.aload_n 0, 1) := by decide +kernel
theorem d_B_act_1 : decode b_B_act 1 = .ok (.getfield 64, 3) := by decide +kernel
theorem d_B_act_4 : decode b_B_act 4 = .ok (.iload_n 1, 1) := by decide +kernel
theorem d_B_act_5 : decode b_B_act 5 = .ok (.iload_n 2, 1) := by decide +kernel
theorem d_B_act_6 : decode b_B_act 6 = .ok (.iload_n 3, 1) := by decide +kernel
theorem d_B_act_7 : decode b_B_act 7 = .ok (.invokevirtual 160, 3) := by decide +kernel
theorem d_B_act_10 : decode b_B_act 10 = .ok (.ireturn, 1) := by decide +kernel
theorem d_B_state_0 : decode b_B_state 0 = .ok (.iload_n 1, 1) := by decide +kernel
theorem d_B_state_1 : decode b_B_state 1 = .ok (.invokestatic 164, 3) := by decide +kernel
theorem d_B_state_4 : decode b_B_state 4 = .ok (.ifCond .eq 15, 3) := by decide +kernel
theorem d_B_state_7 : decode b_B_state 7 = .ok (.aload_n 0, 1) := by decide +kernel
theorem d_B_state_8 : decode b_B_state 8 = .ok (.getfield 64, 3) := by decide +kernel
theorem d_B_state_11 : decode b_B_state 11 = .ok (.getfield 167, 3) := by decide +kernel
theorem d_B_state_14 : decode b_B_state 14 = .ok (.iload_n 1, 1) := by decide +kernel
theorem d_B_state_15 : decode b_B_state 15 = .ok (.iaload, 1) := by decide +kernel
theorem d_B_state_16 : decode b_B_state 16 = .ok (.goto 4, 3) := by decide +kernel
theorem d_B_state_19 : decode b_B_state 19 = .ok (.iconst (-1), 1) := by decide +kernel
theorem d_B_state_20 : decode b_B_state 20 = .ok (.ireturn, 1) := by decide +kernel
theorem d_B_repeated_0 : decode b_B_repeated 0 = .ok (.iload_n 1, 1) := by decide +kernel
theorem d_B_repeated_1 : decode b_B_repeated 1 = .ok (.invokestatic 164, 3) := by decide +kernel
theorem d_B_repeated_4 : decode b_B_repeated 4 = .ok (.ifCond .eq 15, 3) := by decide +kernel
theorem d_B_repeated_7 : decode b_B_repeated 7 = .ok (.aload_n 0, 1) := by decide +kernel
theorem d_B_repeated_8 : decode b_B_repeated 8 = .ok (.getfield 64, 3) := by decide +kernel
theorem d_B_repeated_11 : decode b_B_repeated 11 = .ok (.getfield 171, 3) := by decide +kernel
theorem d_B_repeated_14 : decode b_B_repeated 14 = .ok (.iload_n 1, 1) := by decide +kernel
theorem d_B_repeated_15 : decode b_B_repeated 15 = .ok (.iaload, 1) := by decide +kernel
theorem d_B_repeated_16 : decode b_B_repeated 16 = .ok (.goto 4, 3) := by decide +kernel
theorem d_B_repeated_19 : decode b_B_repeated 19 = .ok (.iconst (-1), 1) := by decide +kernel
theorem d_B_repeated_20 : decode b_B_repeated 20 = .ok (.ireturn, 1) := by decide +kernel
theorem d_B_isShip_0 : decode b_B_isShip 0 = .ok (.iload_n 0, 1) := by decide +kernel
theorem d_B_isShip_1 : decode b_B_isShip 1 = .ok (.ifCond .lt 13, 3) := by decide +kernel
theorem d_B_isShip_4 : decode b_B_isShip 4 = .ok (.iload_n 0, 1) := by decide +kernel
theorem d_B_isShip_5 : decode b_B_isShip 5 = .ok (.bipush 10, 2) := by decide +kernel
theorem d_B_isShip_7 : decode b_B_isShip 7 = .ok (.if_icmp .ge 7, 3) := by decide +kernel
theorem d_B_isShip_10 : decode b_B_isShip 10 = .ok (.iconst 1, 1) := by decide +kernel
theorem d_B_isShip_11 : decode b_B_isShip 11 = .ok (.goto 4, 3) := by decide +kernel
theorem d_B_isShip_14 : decode b_B_isShip 14 = .ok (.iconst 0, 1) := by decide +kernel
theorem d_B_isShip_15 : decode b_B_isShip 15 = .ok (.ireturn, 1) := by decide +kernel
theorem d_B_isKind_0 : decode b_B_isKind 0 = .ok (.iload_n 0, 1) := by decide +kernel
theorem d_B_isKind_1 : decode b_B_isKind 1 = .ok (.ifCond .lt 13, 3) := by decide +kernel
theorem d_B_isKind_4 : decode b_B_isKind 4 = .ok (.iload_n 0, 1) := by decide +kernel
theorem d_B_isKind_5 : decode b_B_isKind 5 = .ok (.bipush 10, 2) := by decide +kernel
theorem d_B_isKind_7 : decode b_B_isKind 7 = .ok (.if_icmp .ge 7, 3) := by decide +kernel
theorem d_B_isKind_10 : decode b_B_isKind 10 = .ok (.iconst 1, 1) := by decide +kernel
theorem d_B_isKind_11 : decode b_B_isKind 11 = .ok (.goto 4, 3) := by decide +kernel
theorem d_B_isKind_14 : decode b_B_isKind 14 = .ok (.iconst 0, 1) := by decide +kernel
theorem d_B_isKind_15 : decode b_B_isKind 15 = .ok (.ireturn, 1) := by decide +kernel
theorem d_B_isDay_0 : decode b_B_isDay 0 = .ok (.iload_n 0, 1) := by decide +kernel
theorem d_B_isDay_1 : decode b_B_isDay 1 = .ok (.ifCond .lt 13, 3) := by decide +kernel
theorem d_B_isDay_4 : decode b_B_isDay 4 = .ok (.iload_n 0, 1) := by decide +kernel
theorem d_B_isDay_5 : decode b_B_isDay 5 = .ok (.ldc 174, 2) := by decide +kernel
theorem d_B_isDay_7 : decode b_B_isDay 7 = .ok (.if_icmp .gt 7, 3) := by decide +kernel
theorem d_B_isDay_10 : decode b_B_isDay 10 = .ok (.iconst 1, 1) := by decide +kernel
theorem d_B_isDay_11 : decode b_B_isDay 11 = .ok (.goto 4, 3) := by decide +kernel
theorem d_B_isDay_14 : decode b_B_isDay 14 = .ok (.iconst 0, 1) := by decide +kernel
theorem d_B_isDay_15 : decode b_B_isDay 15 = .ok (.ireturn, 1) := by decide +kernel
theorem d_B_isWeighed_0 : decode b_B_isWeighed 0 = .ok (.lload_n 0, 1) := by decide +kernel
theorem d_B_isWeighed_1 : decode b_B_isWeighed 1 = .ok (.lconst 1, 1) := by decide +kernel
theorem d_B_isWeighed_2 : decode b_B_isWeighed 2 = .ok (.lcmp, 1) := by decide +kernel
theorem d_B_isWeighed_3 : decode b_B_isWeighed 3 = .ok (.ifCond .lt 15, 3) := by decide +kernel
theorem d_B_isWeighed_6 : decode b_B_isWeighed 6 = .ok (.lload_n 0, 1) := by decide +kernel
theorem d_B_isWeighed_7 : decode b_B_isWeighed 7 = .ok (.ldc2_w 175, 3) := by decide +kernel
theorem d_B_isWeighed_10 : decode b_B_isWeighed 10 = .ok (.lcmp, 1) := by decide +kernel
theorem d_B_isWeighed_11 : decode b_B_isWeighed 11 = .ok (.ifCond .gt 7, 3) := by decide +kernel
theorem d_B_isWeighed_14 : decode b_B_isWeighed 14 = .ok (.iconst 1, 1) := by decide +kernel
theorem d_B_isWeighed_15 : decode b_B_isWeighed 15 = .ok (.goto 4, 3) := by decide +kernel
theorem d_B_isWeighed_18 : decode b_B_isWeighed 18 = .ok (.iconst 0, 1) := by decide +kernel
theorem d_B_isWeighed_19 : decode b_B_isWeighed 19 = .ok (.ireturn, 1) := by decide +kernel
theorem d_B_bitAt_0 : decode b_B_bitAt 0 = .ok (.iconst 0, 1) := by decide +kernel
theorem d_B_bitAt_1 : decode b_B_bitAt 1 = .ok (.istore_n 2, 1) := by decide +kernel
theorem d_B_bitAt_2 : decode b_B_bitAt 2 = .ok (.iconst 0, 1) := by decide +kernel
theorem d_B_bitAt_3 : decode b_B_bitAt 3 = .ok (.istore_n 3, 1) := by decide +kernel
theorem d_B_bitAt_4 : decode b_B_bitAt 4 = .ok (.iload_n 3, 1) := by decide +kernel
theorem d_B_bitAt_5 : decode b_B_bitAt 5 = .ok (.bipush 8, 2) := by decide +kernel
theorem d_B_bitAt_7 : decode b_B_bitAt 7 = .ok (.if_icmp .ge 27, 3) := by decide +kernel
theorem d_B_bitAt_10 : decode b_B_bitAt 10 = .ok (.iload_n 0, 1) := by decide +kernel
theorem d_B_bitAt_11 : decode b_B_bitAt 11 = .ok (.iconst 1, 1) := by decide +kernel
theorem d_B_bitAt_12 : decode b_B_bitAt 12 = .ok (.iload_n 3, 1) := by decide +kernel
theorem d_B_bitAt_13 : decode b_B_bitAt 13 = .ok (.ishl, 1) := by decide +kernel
theorem d_B_bitAt_14 : decode b_B_bitAt 14 = .ok (.iand, 1) := by decide +kernel
theorem d_B_bitAt_15 : decode b_B_bitAt 15 = .ok (.ifCond .eq 13, 3) := by decide +kernel
theorem d_B_bitAt_18 : decode b_B_bitAt 18 = .ok (.iload_n 2, 1) := by decide +kernel
theorem d_B_bitAt_19 : decode b_B_bitAt 19 = .ok (.iload_n 1, 1) := by decide +kernel
theorem d_B_bitAt_20 : decode b_B_bitAt 20 = .ok (.if_icmp .ne 5, 3) := by decide +kernel
theorem d_B_bitAt_23 : decode b_B_bitAt 23 = .ok (.iload_n 3, 1) := by decide +kernel
theorem d_B_bitAt_24 : decode b_B_bitAt 24 = .ok (.ireturn, 1) := by decide +kernel
theorem d_B_bitAt_25 : decode b_B_bitAt 25 = .ok (.iinc 2 1, 3) := by decide +kernel
theorem d_B_bitAt_28 : decode b_B_bitAt 28 = .ok (.iinc 3 1, 3) := by decide +kernel
theorem d_B_bitAt_31 : decode b_B_bitAt 31 = .ok (.goto (-27), 3) := by decide +kernel
theorem d_B_bitAt_34 : decode b_B_bitAt 34 = .ok (.iconst (-1), 1) := by decide +kernel
theorem d_B_bitAt_35 : decode b_B_bitAt 35 = .ok (.ireturn, 1) := by decide +kernel
theorem d_B_choose_0 : decode b_B_choose 0 = .ok (.iload_n 1, 1) := by decide +kernel
theorem d_B_choose_1 : decode b_B_choose 1 = .ok (.iload_n 0, 1) := by decide +kernel
theorem d_B_choose_2 : decode b_B_choose 2 = .ok (.if_icmp .le 5, 3) := by decide +kernel
theorem d_B_choose_5 : decode b_B_choose 5 = .ok (.lconst 0, 1) := by decide +kernel
theorem d_B_choose_6 : decode b_B_choose 6 = .ok (.lreturn, 1) := by decide +kernel
theorem d_B_choose_7 : decode b_B_choose 7 = .ok (.lconst 1, 1) := by decide +kernel
theorem d_B_choose_8 : decode b_B_choose 8 = .ok (.lstore_n 2, 1) := by decide +kernel
theorem d_B_choose_9 : decode b_B_choose 9 = .ok (.iconst 1, 1) := by decide +kernel
theorem d_B_choose_10 : decode b_B_choose 10 = .ok (.istore 4, 2) := by decide +kernel
theorem d_B_choose_12 : decode b_B_choose 12 = .ok (.iload 4, 2) := by decide +kernel
theorem d_B_choose_14 : decode b_B_choose 14 = .ok (.iload_n 1, 1) := by decide +kernel
theorem d_B_choose_15 : decode b_B_choose 15 = .ok (.if_icmp .gt 23, 3) := by decide +kernel
theorem d_B_choose_18 : decode b_B_choose 18 = .ok (.lload_n 2, 1) := by decide +kernel
theorem d_B_choose_19 : decode b_B_choose 19 = .ok (.iload_n 0, 1) := by decide +kernel
theorem d_B_choose_20 : decode b_B_choose 20 = .ok (.iload_n 1, 1) := by decide +kernel
theorem d_B_choose_21 : decode b_B_choose 21 = .ok (.isub, 1) := by decide +kernel
theorem d_B_choose_22 : decode b_B_choose 22 = .ok (.iload 4, 2) := by decide +kernel
theorem d_B_choose_24 : decode b_B_choose 24 = .ok (.iadd, 1) := by decide +kernel
theorem d_B_choose_25 : decode b_B_choose 25 = .ok (.i2l, 1) := by decide +kernel
theorem d_B_choose_26 : decode b_B_choose 26 = .ok (.lmul, 1) := by decide +kernel
theorem d_B_choose_27 : decode b_B_choose 27 = .ok (.iload 4, 2) := by decide +kernel
theorem d_B_choose_29 : decode b_B_choose 29 = .ok (.i2l, 1) := by decide +kernel
theorem d_B_choose_30 : decode b_B_choose 30 = .ok (.ldiv, 1) := by decide +kernel
theorem d_B_choose_31 : decode b_B_choose 31 = .ok (.lstore_n 2, 1) := by decide +kernel
theorem d_B_choose_32 : decode b_B_choose 32 = .ok (.iinc 4 1, 3) := by decide +kernel
theorem d_B_choose_35 : decode b_B_choose 35 = .ok (.goto (-23), 3) := by decide +kernel
theorem d_B_choose_38 : decode b_B_choose 38 = .ok (.lload_n 2, 1) := by decide +kernel
theorem d_B_choose_39 : decode b_B_choose 39 = .ok (.lreturn, 1) := by decide +kernel
theorem d_B_commonDivisor_0 : decode b_B_commonDivisor 0 = .ok (.lload_n 0, 1) := by decide +kernel
theorem d_B_commonDivisor_1 : decode b_B_commonDivisor 1 = .ok (.lstore 4, 2) := by decide +kernel
theorem d_B_commonDivisor_3 : decode b_B_commonDivisor 3 = .ok (.lload_n 2, 1) := by decide +kernel
theorem d_B_commonDivisor_4 : decode b_B_commonDivisor 4 = .ok (.lstore 6, 2) := by decide +kernel
theorem d_B_commonDivisor_6 : decode b_B_commonDivisor 6 = .ok (.iconst 0, 1) := by decide +kernel
theorem d_B_commonDivisor_7 : decode b_B_commonDivisor 7 = .ok (.istore 8, 2) := by decide +kernel
theorem d_B_commonDivisor_9 : decode b_B_commonDivisor 9 = .ok (.iload 8, 2) := by decide +kernel
theorem d_B_commonDivisor_11 : decode b_B_commonDivisor 11 = .ok (.sipush 128, 3) := by decide +kernel
theorem d_B_commonDivisor_14 : decode b_B_commonDivisor 14 = .ok (.if_icmp .ge 31, 3) := by decide +kernel
theorem d_B_commonDivisor_17 : decode b_B_commonDivisor 17 = .ok (.lload 6, 2) := by decide +kernel
theorem d_B_commonDivisor_19 : decode b_B_commonDivisor 19 = .ok (.lconst 0, 1) := by decide +kernel
theorem d_B_commonDivisor_20 : decode b_B_commonDivisor 20 = .ok (.lcmp, 1) := by decide +kernel
theorem d_B_commonDivisor_21 : decode b_B_commonDivisor 21 = .ok (.ifCond .eq 24, 3) := by decide +kernel
theorem d_B_commonDivisor_24 : decode b_B_commonDivisor 24 = .ok (.lload 4, 2) := by decide +kernel
theorem d_B_commonDivisor_26 : decode b_B_commonDivisor 26 = .ok (.lload 6, 2) := by decide +kernel
theorem d_B_commonDivisor_28 : decode b_B_commonDivisor 28 = .ok (.lrem, 1) := by decide +kernel
theorem d_B_commonDivisor_29 : decode b_B_commonDivisor 29 = .ok (.lstore 9, 2) := by decide +kernel
theorem d_B_commonDivisor_31 : decode b_B_commonDivisor 31 = .ok (.lload 6, 2) := by decide +kernel
theorem d_B_commonDivisor_33 : decode b_B_commonDivisor 33 = .ok (.lstore 4, 2) := by decide +kernel
theorem d_B_commonDivisor_35 : decode b_B_commonDivisor 35 = .ok (.lload 9, 2) := by decide +kernel
theorem d_B_commonDivisor_37 : decode b_B_commonDivisor 37 = .ok (.lstore 6, 2) := by decide +kernel
theorem d_B_commonDivisor_39 : decode b_B_commonDivisor 39 = .ok (.iinc 8 1, 3) := by decide +kernel
theorem d_B_commonDivisor_42 : decode b_B_commonDivisor 42 = .ok (.goto (-33), 3) := by decide +kernel
theorem d_B_commonDivisor_45 : decode b_B_commonDivisor 45 = .ok (.lload 4, 2) := by decide +kernel
theorem d_B_commonDivisor_47 : decode b_B_commonDivisor 47 = .ok (.lreturn, 1) := by decide +kernel
theorem d_Ac_init_0 : decode b_Ac_init 0 = .ok (.aload_n 0, 1) := by decide +kernel
theorem d_Ac_init_1 : decode b_Ac_init 1 = .ok (.invokespecial 3, 3) := by decide +kernel
theorem d_Ac_init_4 : decode b_Ac_init 4 = .ok (.aload_n 0, 1) := by decide +kernel
theorem d_Ac_init_5 : decode b_Ac_init 5 = .ok (.bipush 10, 2) := by decide +kernel
theorem d_Ac_init_7 : decode b_Ac_init 7 = .ok (.newarray .int, 2) := by decide +kernel
theorem d_Ac_init_9 : decode b_Ac_init 9 = .ok (.putfield 9, 3) := by decide +kernel
theorem d_Ac_init_12 : decode b_Ac_init 12 = .ok (.aload_n 0, 1) := by decide +kernel
theorem d_Ac_init_13 : decode b_Ac_init 13 = .ok (.bipush 10, 2) := by decide +kernel
theorem d_Ac_init_15 : decode b_Ac_init 15 = .ok (.newarray .int, 2) := by decide +kernel
theorem d_Ac_init_17 : decode b_Ac_init 17 = .ok (.putfield 15, 3) := by decide +kernel
theorem d_Ac_init_20 : decode b_Ac_init 20 = .ok (.aload_n 0, 1) := by decide +kernel
theorem d_Ac_init_21 : decode b_Ac_init 21 = .ok (.bipush 10, 2) := by decide +kernel
theorem d_Ac_init_23 : decode b_Ac_init 23 = .ok (.newarray .int, 2) := by decide +kernel
theorem d_Ac_init_25 : decode b_Ac_init 25 = .ok (.putfield 18, 3) := by decide +kernel
theorem d_Ac_init_28 : decode b_Ac_init 28 = .ok (.iconst 0, 1) := by decide +kernel
theorem d_Ac_init_29 : decode b_Ac_init 29 = .ok (.istore_n 1, 1) := by decide +kernel
theorem d_Ac_init_30 : decode b_Ac_init 30 = .ok (.iload_n 1, 1) := by decide +kernel
theorem d_Ac_init_31 : decode b_Ac_init 31 = .ok (.bipush 10, 2) := by decide +kernel
theorem d_Ac_init_33 : decode b_Ac_init 33 = .ok (.if_icmp .ge 16, 3) := by decide +kernel
theorem d_Ac_init_36 : decode b_Ac_init 36 = .ok (.aload_n 0, 1) := by decide +kernel
theorem d_Ac_init_37 : decode b_Ac_init 37 = .ok (.getfield 18, 3) := by decide +kernel
theorem d_Ac_init_40 : decode b_Ac_init 40 = .ok (.iload_n 1, 1) := by decide +kernel
theorem d_Ac_init_41 : decode b_Ac_init 41 = .ok (.iconst (-1), 1) := by decide +kernel
theorem d_Ac_init_42 : decode b_Ac_init 42 = .ok (.iastore, 1) := by decide +kernel
theorem d_Ac_init_43 : decode b_Ac_init 43 = .ok (.iinc 1 1, 3) := by decide +kernel
theorem d_Ac_init_46 : decode b_Ac_init 46 = .ok (.goto (-16), 3) := by decide +kernel
theorem d_Ac_init_49 : decode b_Ac_init 49 = .ok (.return_, 1) := by decide +kernel
theorem d_Ac_tell_0 : decode b_Ac_tell 0 = .ok (.iload_n 1, 1) := by decide +kernel
theorem d_Ac_tell_1 : decode b_Ac_tell 1 = .ok (.invokestatic 21, 3) := by decide +kernel
theorem d_Ac_tell_4 : decode b_Ac_tell 4 = .ok (.ifCond .eq 23, 3) := by decide +kernel
theorem d_Ac_tell_7 : decode b_Ac_tell 7 = .ok (.iload_n 3, 1) := by decide +kernel
theorem d_Ac_tell_8 : decode b_Ac_tell 8 = .ok (.ifCond .lt 19, 3) := by decide +kernel
theorem d_Ac_tell_11 : decode b_Ac_tell 11 = .ok (.iload_n 3, 1) := by decide +kernel
theorem d_Ac_tell_12 : decode b_Ac_tell 12 = .ok (.bipush 100, 2) := by decide +kernel
theorem d_Ac_tell_14 : decode b_Ac_tell 14 = .ok (.if_icmp .ge 13, 3) := by decide +kernel
theorem d_Ac_tell_17 : decode b_Ac_tell 17 = .ok (.aload_n 0, 1) := by decide +kernel
theorem d_Ac_tell_18 : decode b_Ac_tell 18 = .ok (.getfield 18, 3) := by decide +kernel
theorem d_Ac_tell_21 : decode b_Ac_tell 21 = .ok (.iload_n 1, 1) := by decide +kernel
theorem d_Ac_tell_22 : decode b_Ac_tell 22 = .ok (.iaload, 1) := by decide +kernel
theorem d_Ac_tell_23 : decode b_Ac_tell 23 = .ok (.iload_n 3, 1) := by decide +kernel
theorem d_Ac_tell_24 : decode b_Ac_tell 24 = .ok (.if_icmp .ne 5, 3) := by decide +kernel
theorem d_Ac_tell_27 : decode b_Ac_tell 27 = .ok (.iconst (-1), 1) := by decide +kernel
theorem d_Ac_tell_28 : decode b_Ac_tell 28 = .ok (.ireturn, 1) := by decide +kernel
theorem d_Ac_tell_29 : decode b_Ac_tell 29 = .ok (.aload_n 0, 1) := by decide +kernel
theorem d_Ac_tell_30 : decode b_Ac_tell 30 = .ok (.getfield 9, 3) := by decide +kernel
theorem d_Ac_tell_33 : decode b_Ac_tell 33 = .ok (.iload_n 1, 1) := by decide +kernel
theorem d_Ac_tell_34 : decode b_Ac_tell 34 = .ok (.iaload, 1) := by decide +kernel
theorem d_Ac_tell_35 : decode b_Ac_tell 35 = .ok (.iload_n 2, 1) := by decide +kernel
theorem d_Ac_tell_36 : decode b_Ac_tell 36 = .ok (.invokestatic 25, 3) := by decide +kernel
theorem d_Ac_tell_39 : decode b_Ac_tell 39 = .ok (.istore 4, 2) := by decide +kernel
theorem d_Ac_tell_41 : decode b_Ac_tell 41 = .ok (.iload 4, 2) := by decide +kernel
theorem d_Ac_tell_43 : decode b_Ac_tell 43 = .ok (.iconst (-1), 1) := by decide +kernel
theorem d_Ac_tell_44 : decode b_Ac_tell 44 = .ok (.if_icmp .ne 5, 3) := by decide +kernel
theorem d_Ac_tell_47 : decode b_Ac_tell 47 = .ok (.iconst (-1), 1) := by decide +kernel
theorem d_Ac_tell_48 : decode b_Ac_tell 48 = .ok (.ireturn, 1) := by decide +kernel
theorem d_Ac_tell_49 : decode b_Ac_tell 49 = .ok (.aload_n 0, 1) := by decide +kernel
theorem d_Ac_tell_50 : decode b_Ac_tell 50 = .ok (.getfield 9, 3) := by decide +kernel
theorem d_Ac_tell_53 : decode b_Ac_tell 53 = .ok (.iload_n 1, 1) := by decide +kernel
theorem d_Ac_tell_54 : decode b_Ac_tell 54 = .ok (.iload 4, 2) := by decide +kernel
theorem d_Ac_tell_56 : decode b_Ac_tell 56 = .ok (.iastore, 1) := by decide +kernel
theorem d_Ac_tell_57 : decode b_Ac_tell 57 = .ok (.aload_n 0, 1) := by decide +kernel
theorem d_Ac_tell_58 : decode b_Ac_tell 58 = .ok (.getfield 18, 3) := by decide +kernel
theorem d_Ac_tell_61 : decode b_Ac_tell 61 = .ok (.iload_n 1, 1) := by decide +kernel
theorem d_Ac_tell_62 : decode b_Ac_tell 62 = .ok (.iload_n 3, 1) := by decide +kernel
theorem d_Ac_tell_63 : decode b_Ac_tell 63 = .ok (.iastore, 1) := by decide +kernel
theorem d_Ac_tell_64 : decode b_Ac_tell 64 = .ok (.iload_n 2, 1) := by decide +kernel
theorem d_Ac_tell_65 : decode b_Ac_tell 65 = .ok (.ifCond .ne 13, 3) := by decide +kernel
theorem d_Ac_tell_68 : decode b_Ac_tell 68 = .ok (.aload_n 0, 1) := by decide +kernel
theorem d_Ac_tell_69 : decode b_Ac_tell 69 = .ok (.getfield 15, 3) := by decide +kernel
theorem d_Ac_tell_72 : decode b_Ac_tell 72 = .ok (.iload_n 1, 1) := by decide +kernel
theorem d_Ac_tell_73 : decode b_Ac_tell 73 = .ok (.dup2, 1) := by decide +kernel
theorem d_Ac_tell_74 : decode b_Ac_tell 74 = .ok (.iaload, 1) := by decide +kernel
theorem d_Ac_tell_75 : decode b_Ac_tell 75 = .ok (.iconst 1, 1) := by decide +kernel
theorem d_Ac_tell_76 : decode b_Ac_tell 76 = .ok (.iadd, 1) := by decide +kernel
theorem d_Ac_tell_77 : decode b_Ac_tell 77 = .ok (.iastore, 1) := by decide +kernel
theorem d_Ac_tell_78 : decode b_Ac_tell 78 = .ok (.iload 4, 2) := by decide +kernel
theorem d_Ac_tell_80 : decode b_Ac_tell 80 = .ok (.ireturn, 1) := by decide +kernel
theorem d_Ac_after_0 : decode b_Ac_after 0 = .ok (.iload_n 1, 1) := by decide +kernel
theorem d_Ac_after_1 : decode b_Ac_after 1 = .ok (.tableswitch 77 0 3 #[31, 44, 55, 66], 31) := by decide +kernel
theorem d_Ac_after_32 : decode b_Ac_after 32 = .ok (.iload_n 0, 1) := by decide +kernel
theorem d_Ac_after_33 : decode b_Ac_after 33 = .ok (.iconst 3, 1) := by decide +kernel
theorem d_Ac_after_34 : decode b_Ac_after 34 = .ok (.if_icmp .ge 9, 3) := by decide +kernel
theorem d_Ac_after_37 : decode b_Ac_after 37 = .ok (.iload_n 0, 1) := by decide +kernel
theorem d_Ac_after_38 : decode b_Ac_after 38 = .ok (.iconst 1, 1) := by decide +kernel
theorem d_Ac_after_39 : decode b_Ac_after 39 = .ok (.iadd, 1) := by decide +kernel
theorem d_Ac_after_40 : decode b_Ac_after 40 = .ok (.goto 4, 3) := by decide +kernel
theorem d_Ac_after_43 : decode b_Ac_after 43 = .ok (.iconst (-1), 1) := by decide +kernel
theorem d_Ac_after_44 : decode b_Ac_after 44 = .ok (.ireturn, 1) := by decide +kernel
theorem d_Ac_after_45 : decode b_Ac_after 45 = .ok (.iload_n 0, 1) := by decide +kernel
theorem d_Ac_after_46 : decode b_Ac_after 46 = .ok (.iconst 2, 1) := by decide +kernel
theorem d_Ac_after_47 : decode b_Ac_after 47 = .ok (.if_icmp .ne 7, 3) := by decide +kernel
theorem d_Ac_after_50 : decode b_Ac_after 50 = .ok (.iconst 1, 1) := by decide +kernel
theorem d_Ac_after_51 : decode b_Ac_after 51 = .ok (.goto 4, 3) := by decide +kernel
theorem d_Ac_after_54 : decode b_Ac_after 54 = .ok (.iconst (-1), 1) := by decide +kernel
theorem d_Ac_after_55 : decode b_Ac_after 55 = .ok (.ireturn, 1) := by decide +kernel
theorem d_Ac_after_56 : decode b_Ac_after 56 = .ok (.iload_n 0, 1) := by decide +kernel
theorem d_Ac_after_57 : decode b_Ac_after 57 = .ok (.iconst 3, 1) := by decide +kernel
theorem d_Ac_after_58 : decode b_Ac_after 58 = .ok (.if_icmp .ne 7, 3) := by decide +kernel
theorem d_Ac_after_61 : decode b_Ac_after 61 = .ok (.iconst 2, 1) := by decide +kernel
theorem d_Ac_after_62 : decode b_Ac_after 62 = .ok (.goto 4, 3) := by decide +kernel
theorem d_Ac_after_65 : decode b_Ac_after 65 = .ok (.iconst (-1), 1) := by decide +kernel
theorem d_Ac_after_66 : decode b_Ac_after 66 = .ok (.ireturn, 1) := by decide +kernel
theorem d_Ac_after_67 : decode b_Ac_after 67 = .ok (.iload_n 0, 1) := by decide +kernel
theorem d_Ac_after_68 : decode b_Ac_after 68 = .ok (.iconst 1, 1) := by decide +kernel
theorem d_Ac_after_69 : decode b_Ac_after 69 = .ok (.if_icmp .ne 7, 3) := by decide +kernel
theorem d_Ac_after_72 : decode b_Ac_after 72 = .ok (.iconst 0, 1) := by decide +kernel
theorem d_Ac_after_73 : decode b_Ac_after 73 = .ok (.goto 4, 3) := by decide +kernel
theorem d_Ac_after_76 : decode b_Ac_after 76 = .ok (.iconst (-1), 1) := by decide +kernel
theorem d_Ac_after_77 : decode b_Ac_after 77 = .ok (.ireturn, 1) := by decide +kernel
theorem d_Ac_after_78 : decode b_Ac_after 78 = .ok (.iconst (-1), 1) := by decide +kernel
theorem d_Ac_after_79 : decode b_Ac_after 79 = .ok (.ireturn, 1) := by decide +kernel
theorem d_Bk_init_0 : decode b_Bk_init 0 = .ok (.aload_n 0, 1) := by decide +kernel
theorem d_Bk_init_1 : decode b_Bk_init 1 = .ok (.invokespecial 3, 3) := by decide +kernel
theorem d_Bk_init_4 : decode b_Bk_init 4 = .ok (.aload_n 0, 1) := by decide +kernel
theorem d_Bk_init_5 : decode b_Bk_init 5 = .ok (.bipush 30, 2) := by decide +kernel
theorem d_Bk_init_7 : decode b_Bk_init 7 = .ok (.newarray .int, 2) := by decide +kernel
theorem d_Bk_init_9 : decode b_Bk_init 9 = .ok (.putfield 9, 3) := by decide +kernel
theorem d_Bk_init_12 : decode b_Bk_init 12 = .ok (.aload_n 0, 1) := by decide +kernel
theorem d_Bk_init_13 : decode b_Bk_init 13 = .ok (.bipush 30, 2) := by decide +kernel
theorem d_Bk_init_15 : decode b_Bk_init 15 = .ok (.newarray .int, 2) := by decide +kernel
theorem d_Bk_init_17 : decode b_Bk_init 17 = .ok (.putfield 15, 3) := by decide +kernel
theorem d_Bk_init_20 : decode b_Bk_init 20 = .ok (.aload_n 0, 1) := by decide +kernel
theorem d_Bk_init_21 : decode b_Bk_init 21 = .ok (.bipush 30, 2) := by decide +kernel
theorem d_Bk_init_23 : decode b_Bk_init 23 = .ok (.newarray .int, 2) := by decide +kernel
theorem d_Bk_init_25 : decode b_Bk_init 25 = .ok (.putfield 18, 3) := by decide +kernel
theorem d_Bk_init_28 : decode b_Bk_init 28 = .ok (.aload_n 0, 1) := by decide +kernel
theorem d_Bk_init_29 : decode b_Bk_init 29 = .ok (.bipush 30, 2) := by decide +kernel
theorem d_Bk_init_31 : decode b_Bk_init 31 = .ok (.newarray .long, 2) := by decide +kernel
theorem d_Bk_init_33 : decode b_Bk_init 33 = .ok (.putfield 21, 3) := by decide +kernel
theorem d_Bk_init_36 : decode b_Bk_init 36 = .ok (.aload_n 0, 1) := by decide +kernel
theorem d_Bk_init_37 : decode b_Bk_init 37 = .ok (.iconst 0, 1) := by decide +kernel
theorem d_Bk_init_38 : decode b_Bk_init 38 = .ok (.putfield 25, 3) := by decide +kernel
theorem d_Bk_init_41 : decode b_Bk_init 41 = .ok (.return_, 1) := by decide +kernel
theorem d_Bk_add_0 : decode b_Bk_add 0 = .ok (.aload_n 0, 1) := by decide +kernel
theorem d_Bk_add_1 : decode b_Bk_add 1 = .ok (.getfield 25, 3) := by decide +kernel
theorem d_Bk_add_4 : decode b_Bk_add 4 = .ok (.bipush 30, 2) := by decide +kernel
theorem d_Bk_add_6 : decode b_Bk_add 6 = .ok (.if_icmp .ge 32, 3) := by decide +kernel
theorem d_Bk_add_9 : decode b_Bk_add 9 = .ok (.iload_n 1, 1) := by decide +kernel
theorem d_Bk_add_10 : decode b_Bk_add 10 = .ok (.invokestatic 29, 3) := by decide +kernel
theorem d_Bk_add_13 : decode b_Bk_add 13 = .ok (.ifCond .eq 25, 3) := by decide +kernel
theorem d_Bk_add_16 : decode b_Bk_add 16 = .ok (.iload_n 2, 1) := by decide +kernel
theorem d_Bk_add_17 : decode b_Bk_add 17 = .ok (.invokestatic 33, 3) := by decide +kernel
theorem d_Bk_add_20 : decode b_Bk_add 20 = .ok (.ifCond .eq 18, 3) := by decide +kernel
theorem d_Bk_add_23 : decode b_Bk_add 23 = .ok (.iload_n 3, 1) := by decide +kernel
theorem d_Bk_add_24 : decode b_Bk_add 24 = .ok (.invokestatic 36, 3) := by decide +kernel
theorem d_Bk_add_27 : decode b_Bk_add 27 = .ok (.ifCond .eq 11, 3) := by decide +kernel
theorem d_Bk_add_30 : decode b_Bk_add 30 = .ok (.lload 4, 2) := by decide +kernel
theorem d_Bk_add_32 : decode b_Bk_add 32 = .ok (.invokestatic 39, 3) := by decide +kernel
theorem d_Bk_add_35 : decode b_Bk_add 35 = .ok (.ifCond .ne 5, 3) := by decide +kernel
theorem d_Bk_add_38 : decode b_Bk_add 38 = .ok (.iconst (-1), 1) := by decide +kernel
theorem d_Bk_add_39 : decode b_Bk_add 39 = .ok (.ireturn, 1) := by decide +kernel
theorem d_Bk_add_40 : decode b_Bk_add 40 = .ok (.aload_n 0, 1) := by decide +kernel
theorem d_Bk_add_41 : decode b_Bk_add 41 = .ok (.getfield 25, 3) := by decide +kernel
theorem d_Bk_add_44 : decode b_Bk_add 44 = .ok (.istore 6, 2) := by decide +kernel
theorem d_Bk_add_46 : decode b_Bk_add 46 = .ok (.aload_n 0, 1) := by decide +kernel
theorem d_Bk_add_47 : decode b_Bk_add 47 = .ok (.getfield 9, 3) := by decide +kernel
theorem d_Bk_add_50 : decode b_Bk_add 50 = .ok (.iload 6, 2) := by decide +kernel
theorem d_Bk_add_52 : decode b_Bk_add 52 = .ok (.iload_n 1, 1) := by decide +kernel
theorem d_Bk_add_53 : decode b_Bk_add 53 = .ok (.iastore, 1) := by decide +kernel
theorem d_Bk_add_54 : decode b_Bk_add 54 = .ok (.aload_n 0, 1) := by decide +kernel
theorem d_Bk_add_55 : decode b_Bk_add 55 = .ok (.getfield 15, 3) := by decide +kernel
theorem d_Bk_add_58 : decode b_Bk_add 58 = .ok (.iload 6, 2) := by decide +kernel
theorem d_Bk_add_60 : decode b_Bk_add 60 = .ok (.iload_n 2, 1) := by decide +kernel
theorem d_Bk_add_61 : decode b_Bk_add 61 = .ok (.iastore, 1) := by decide +kernel
theorem d_Bk_add_62 : decode b_Bk_add 62 = .ok (.aload_n 0, 1) := by decide +kernel
theorem d_Bk_add_63 : decode b_Bk_add 63 = .ok (.getfield 18, 3) := by decide +kernel
theorem d_Bk_add_66 : decode b_Bk_add 66 = .ok (.iload 6, 2) := by decide +kernel
theorem d_Bk_add_68 : decode b_Bk_add 68 = .ok (.iload_n 3, 1) := by decide +kernel
theorem d_Bk_add_69 : decode b_Bk_add 69 = .ok (.iastore, 1) := by decide +kernel
theorem d_Bk_add_70 : decode b_Bk_add 70 = .ok (.aload_n 0, 1) := by decide +kernel
theorem d_Bk_add_71 : decode b_Bk_add 71 = .ok (.getfield 21, 3) := by decide +kernel
theorem d_Bk_add_74 : decode b_Bk_add 74 = .ok (.iload 6, 2) := by decide +kernel
theorem d_Bk_add_76 : decode b_Bk_add 76 = .ok (.lload 4, 2) := by decide +kernel
theorem d_Bk_add_78 : decode b_Bk_add 78 = .ok (.lastore, 1) := by decide +kernel
theorem d_Bk_add_79 : decode b_Bk_add 79 = .ok (.aload_n 0, 1) := by decide +kernel
theorem d_Bk_add_80 : decode b_Bk_add 80 = .ok (.iload 6, 2) := by decide +kernel
theorem d_Bk_add_82 : decode b_Bk_add 82 = .ok (.iconst 1, 1) := by decide +kernel
theorem d_Bk_add_83 : decode b_Bk_add 83 = .ok (.iadd, 1) := by decide +kernel
theorem d_Bk_add_84 : decode b_Bk_add 84 = .ok (.putfield 25, 3) := by decide +kernel
theorem d_Bk_add_87 : decode b_Bk_add 87 = .ok (.iload 6, 2) := by decide +kernel
theorem d_Bk_add_89 : decode b_Bk_add 89 = .ok (.ireturn, 1) := by decide +kernel
theorem d_Bk_has_0 : decode b_Bk_has 0 = .ok (.iload_n 1, 1) := by decide +kernel
theorem d_Bk_has_1 : decode b_Bk_has 1 = .ok (.ifCond .lt 15, 3) := by decide +kernel
theorem d_Bk_has_4 : decode b_Bk_has 4 = .ok (.iload_n 1, 1) := by decide +kernel
theorem d_Bk_has_5 : decode b_Bk_has 5 = .ok (.aload_n 0, 1) := by decide +kernel
theorem d_Bk_has_6 : decode b_Bk_has 6 = .ok (.getfield 25, 3) := by decide +kernel
theorem d_Bk_has_9 : decode b_Bk_has 9 = .ok (.if_icmp .ge 7, 3) := by decide +kernel
theorem d_Bk_has_12 : decode b_Bk_has 12 = .ok (.iconst 1, 1) := by decide +kernel
theorem d_Bk_has_13 : decode b_Bk_has 13 = .ok (.goto 4, 3) := by decide +kernel
theorem d_Bk_has_16 : decode b_Bk_has 16 = .ok (.iconst 0, 1) := by decide +kernel
theorem d_Bk_has_17 : decode b_Bk_has 17 = .ok (.ireturn, 1) := by decide +kernel
theorem d_Bk_gramsOf_0 : decode b_Bk_gramsOf 0 = .ok (.aload_n 0, 1) := by decide +kernel
theorem d_Bk_gramsOf_1 : decode b_Bk_gramsOf 1 = .ok (.iload_n 1, 1) := by decide +kernel
theorem d_Bk_gramsOf_2 : decode b_Bk_gramsOf 2 = .ok (.invokevirtual 43, 3) := by decide +kernel
theorem d_Bk_gramsOf_5 : decode b_Bk_gramsOf 5 = .ok (.ifCond .eq 12, 3) := by decide +kernel
theorem d_Bk_gramsOf_8 : decode b_Bk_gramsOf 8 = .ok (.aload_n 0, 1) := by decide +kernel
theorem d_Bk_gramsOf_9 : decode b_Bk_gramsOf 9 = .ok (.getfield 21, 3) := by decide +kernel
theorem d_Bk_gramsOf_12 : decode b_Bk_gramsOf 12 = .ok (.iload_n 1, 1) := by decide +kernel
theorem d_Bk_gramsOf_13 : decode b_Bk_gramsOf 13 = .ok (.laload, 1) := by decide +kernel
theorem d_Bk_gramsOf_14 : decode b_Bk_gramsOf 14 = .ok (.goto 4, 3) := by decide +kernel
theorem d_Bk_gramsOf_17 : decode b_Bk_gramsOf 17 = .ok (.lconst 0, 1) := by decide +kernel
theorem d_Bk_gramsOf_18 : decode b_Bk_gramsOf 18 = .ok (.lreturn, 1) := by decide +kernel
theorem d_Bk_gramsOfKind_0 : decode b_Bk_gramsOfKind 0 = .ok (.lconst 0, 1) := by decide +kernel
theorem d_Bk_gramsOfKind_1 : decode b_Bk_gramsOfKind 1 = .ok (.lstore_n 2, 1) := by decide +kernel
theorem d_Bk_gramsOfKind_2 : decode b_Bk_gramsOfKind 2 = .ok (.iconst 0, 1) := by decide +kernel
theorem d_Bk_gramsOfKind_3 : decode b_Bk_gramsOfKind 3 = .ok (.istore 4, 2) := by decide +kernel
theorem d_Bk_gramsOfKind_5 : decode b_Bk_gramsOfKind 5 = .ok (.iload 4, 2) := by decide +kernel
theorem d_Bk_gramsOfKind_7 : decode b_Bk_gramsOfKind 7 = .ok (.aload_n 0, 1) := by decide +kernel
theorem d_Bk_gramsOfKind_8 : decode b_Bk_gramsOfKind 8 = .ok (.getfield 25, 3) := by decide +kernel
theorem d_Bk_gramsOfKind_11 : decode b_Bk_gramsOfKind 11 = .ok (.if_icmp .ge 30, 3) := by decide +kernel
theorem d_Bk_gramsOfKind_14 : decode b_Bk_gramsOfKind 14 = .ok (.aload_n 0, 1) := by decide +kernel
theorem d_Bk_gramsOfKind_15 : decode b_Bk_gramsOfKind 15 = .ok (.getfield 18, 3) := by decide +kernel
theorem d_Bk_gramsOfKind_18 : decode b_Bk_gramsOfKind 18 = .ok (.iload 4, 2) := by decide +kernel
theorem d_Bk_gramsOfKind_20 : decode b_Bk_gramsOfKind 20 = .ok (.iaload, 1) := by decide +kernel
theorem d_Bk_gramsOfKind_21 : decode b_Bk_gramsOfKind 21 = .ok (.iload_n 1, 1) := by decide +kernel
theorem d_Bk_gramsOfKind_22 : decode b_Bk_gramsOfKind 22 = .ok (.if_icmp .ne 13, 3) := by decide +kernel
theorem d_Bk_gramsOfKind_25 : decode b_Bk_gramsOfKind 25 = .ok (.lload_n 2, 1) := by decide +kernel
theorem d_Bk_gramsOfKind_26 : decode b_Bk_gramsOfKind 26 = .ok (.aload_n 0, 1) := by decide +kernel
theorem d_Bk_gramsOfKind_27 : decode b_Bk_gramsOfKind 27 = .ok (.getfield 21, 3) := by decide +kernel
theorem d_Bk_gramsOfKind_30 : decode b_Bk_gramsOfKind 30 = .ok (.iload 4, 2) := by decide +kernel
theorem d_Bk_gramsOfKind_32 : decode b_Bk_gramsOfKind 32 = .ok (.laload, 1) := by decide +kernel
theorem d_Bk_gramsOfKind_33 : decode b_Bk_gramsOfKind 33 = .ok (.ladd, 1) := by decide +kernel
theorem d_Bk_gramsOfKind_34 : decode b_Bk_gramsOfKind 34 = .ok (.lstore_n 2, 1) := by decide +kernel
theorem d_Bk_gramsOfKind_35 : decode b_Bk_gramsOfKind 35 = .ok (.iinc 4 1, 3) := by decide +kernel
theorem d_Bk_gramsOfKind_38 : decode b_Bk_gramsOfKind 38 = .ok (.goto (-33), 3) := by decide +kernel
theorem d_Bk_gramsOfKind_41 : decode b_Bk_gramsOfKind 41 = .ok (.lload_n 2, 1) := by decide +kernel
theorem d_Bk_gramsOfKind_42 : decode b_Bk_gramsOfKind 42 = .ok (.lreturn, 1) := by decide +kernel
theorem d_Bk_fitWith_0 : decode b_Bk_fitWith 0 = .ok (.aload_n 0, 1) := by decide +kernel
theorem d_Bk_fitWith_1 : decode b_Bk_fitWith 1 = .ok (.iload_n 1, 1) := by decide +kernel
theorem d_Bk_fitWith_2 : decode b_Bk_fitWith 2 = .ok (.invokevirtual 43, 3) := by decide +kernel
theorem d_Bk_fitWith_5 : decode b_Bk_fitWith 5 = .ok (.ifCond .eq 11, 3) := by decide +kernel
theorem d_Bk_fitWith_8 : decode b_Bk_fitWith 8 = .ok (.aload_n 2, 1) := by decide +kernel
theorem d_Bk_fitWith_9 : decode b_Bk_fitWith 9 = .ok (.iload_n 3, 1) := by decide +kernel
theorem d_Bk_fitWith_10 : decode b_Bk_fitWith 10 = .ok (.invokevirtual 43, 3) := by decide +kernel
theorem d_Bk_fitWith_13 : decode b_Bk_fitWith 13 = .ok (.ifCond .ne 5, 3) := by decide +kernel
theorem d_Bk_fitWith_16 : decode b_Bk_fitWith 16 = .ok (.iconst 0, 1) := by decide +kernel
theorem d_Bk_fitWith_17 : decode b_Bk_fitWith 17 = .ok (.ireturn, 1) := by decide +kernel
theorem d_Bk_fitWith_18 : decode b_Bk_fitWith 18 = .ok (.aload_n 2, 1) := by decide +kernel
theorem d_Bk_fitWith_19 : decode b_Bk_fitWith 19 = .ok (.getfield 15, 3) := by decide +kernel
theorem d_Bk_fitWith_22 : decode b_Bk_fitWith 22 = .ok (.iload_n 3, 1) := by decide +kernel
theorem d_Bk_fitWith_23 : decode b_Bk_fitWith 23 = .ok (.iaload, 1) := by decide +kernel
theorem d_Bk_fitWith_24 : decode b_Bk_fitWith 24 = .ok (.aload_n 0, 1) := by decide +kernel
theorem d_Bk_fitWith_25 : decode b_Bk_fitWith 25 = .ok (.getfield 15, 3) := by decide +kernel
theorem d_Bk_fitWith_28 : decode b_Bk_fitWith 28 = .ok (.iload_n 1, 1) := by decide +kernel
theorem d_Bk_fitWith_29 : decode b_Bk_fitWith 29 = .ok (.iaload, 1) := by decide +kernel
theorem d_Bk_fitWith_30 : decode b_Bk_fitWith 30 = .ok (.isub, 1) := by decide +kernel
theorem d_Bk_fitWith_31 : decode b_Bk_fitWith 31 = .ok (.istore 4, 2) := by decide +kernel
theorem d_Bk_fitWith_33 : decode b_Bk_fitWith 33 = .ok (.aload_n 0, 1) := by decide +kernel
theorem d_Bk_fitWith_34 : decode b_Bk_fitWith 34 = .ok (.getfield 9, 3) := by decide +kernel
theorem d_Bk_fitWith_37 : decode b_Bk_fitWith 37 = .ok (.iload_n 1, 1) := by decide +kernel
theorem d_Bk_fitWith_38 : decode b_Bk_fitWith 38 = .ok (.iaload, 1) := by decide +kernel
theorem d_Bk_fitWith_39 : decode b_Bk_fitWith 39 = .ok (.aload_n 2, 1) := by decide +kernel
theorem d_Bk_fitWith_40 : decode b_Bk_fitWith 40 = .ok (.getfield 9, 3) := by decide +kernel
theorem d_Bk_fitWith_43 : decode b_Bk_fitWith 43 = .ok (.iload_n 3, 1) := by decide +kernel
theorem d_Bk_fitWith_44 : decode b_Bk_fitWith 44 = .ok (.iaload, 1) := by decide +kernel
theorem d_Bk_fitWith_45 : decode b_Bk_fitWith 45 = .ok (.if_icmp .ne 22, 3) := by decide +kernel
theorem d_Bk_fitWith_48 : decode b_Bk_fitWith 48 = .ok (.aload_n 0, 1) := by decide +kernel
theorem d_Bk_fitWith_49 : decode b_Bk_fitWith 49 = .ok (.getfield 18, 3) := by decide +kernel
theorem d_Bk_fitWith_52 : decode b_Bk_fitWith 52 = .ok (.iload_n 1, 1) := by decide +kernel
theorem d_Bk_fitWith_53 : decode b_Bk_fitWith 53 = .ok (.iaload, 1) := by decide +kernel
theorem d_Bk_fitWith_54 : decode b_Bk_fitWith 54 = .ok (.aload_n 2, 1) := by decide +kernel
theorem d_Bk_fitWith_55 : decode b_Bk_fitWith 55 = .ok (.getfield 18, 3) := by decide +kernel
theorem d_Bk_fitWith_58 : decode b_Bk_fitWith 58 = .ok (.iload_n 3, 1) := by decide +kernel
theorem d_Bk_fitWith_59 : decode b_Bk_fitWith 59 = .ok (.iaload, 1) := by decide +kernel
theorem d_Bk_fitWith_60 : decode b_Bk_fitWith 60 = .ok (.if_icmp .ne 7, 3) := by decide +kernel
theorem d_Bk_fitWith_63 : decode b_Bk_fitWith 63 = .ok (.iconst 1, 1) := by decide +kernel
theorem d_Bk_fitWith_64 : decode b_Bk_fitWith 64 = .ok (.goto 4, 3) := by decide +kernel
theorem d_Bk_fitWith_67 : decode b_Bk_fitWith 67 = .ok (.iconst 0, 1) := by decide +kernel
theorem d_Bk_fitWith_68 : decode b_Bk_fitWith 68 = .ok (.istore 5, 2) := by decide +kernel
theorem d_Bk_fitWith_70 : decode b_Bk_fitWith 70 = .ok (.iload 5, 2) := by decide +kernel
theorem d_Bk_fitWith_72 : decode b_Bk_fitWith 72 = .ok (.ifCond .eq 14, 3) := by decide +kernel
theorem d_Bk_fitWith_75 : decode b_Bk_fitWith 75 = .ok (.iload 4, 2) := by decide +kernel
theorem d_Bk_fitWith_77 : decode b_Bk_fitWith 77 = .ok (.ifCond .lt 9, 3) := by decide +kernel
theorem d_Bk_fitWith_80 : decode b_Bk_fitWith 80 = .ok (.iload 4, 2) := by decide +kernel
theorem d_Bk_fitWith_82 : decode b_Bk_fitWith 82 = .ok (.iconst 5, 1) := by decide +kernel
theorem d_Bk_fitWith_83 : decode b_Bk_fitWith 83 = .ok (.if_icmp .le 5, 3) := by decide +kernel
theorem d_Bk_fitWith_86 : decode b_Bk_fitWith 86 = .ok (.iconst 0, 1) := by decide +kernel
theorem d_Bk_fitWith_87 : decode b_Bk_fitWith 87 = .ok (.ireturn, 1) := by decide +kernel
theorem d_Bk_fitWith_88 : decode b_Bk_fitWith 88 = .ok (.iconst 0, 1) := by decide +kernel
theorem d_Bk_fitWith_89 : decode b_Bk_fitWith 89 = .ok (.sipush 1000, 3) := by decide +kernel
theorem d_Bk_fitWith_92 : decode b_Bk_fitWith 92 = .ok (.bipush 100, 2) := by decide +kernel
theorem d_Bk_fitWith_94 : decode b_Bk_fitWith 94 = .ok (.iload 4, 2) := by decide +kernel
theorem d_Bk_fitWith_96 : decode b_Bk_fitWith 96 = .ok (.imul, 1) := by decide +kernel
theorem d_Bk_fitWith_97 : decode b_Bk_fitWith 97 = .ok (.isub, 1) := by decide +kernel
theorem d_Bk_fitWith_98 : decode b_Bk_fitWith 98 = .ok (.aload_n 0, 1) := by decide +kernel
theorem d_Bk_fitWith_99 : decode b_Bk_fitWith 99 = .ok (.getfield 21, 3) := by decide +kernel
theorem d_Bk_fitWith_102 : decode b_Bk_fitWith 102 = .ok (.iload_n 1, 1) := by decide +kernel
theorem d_Bk_fitWith_103 : decode b_Bk_fitWith 103 = .ok (.laload, 1) := by decide +kernel
theorem d_Bk_fitWith_104 : decode b_Bk_fitWith 104 = .ok (.aload_n 2, 1) := by decide +kernel
theorem d_Bk_fitWith_105 : decode b_Bk_fitWith 105 = .ok (.getfield 21, 3) := by decide +kernel
theorem d_Bk_fitWith_108 : decode b_Bk_fitWith 108 = .ok (.iload_n 3, 1) := by decide +kernel
theorem d_Bk_fitWith_109 : decode b_Bk_fitWith 109 = .ok (.laload, 1) := by decide +kernel
theorem d_Bk_fitWith_110 : decode b_Bk_fitWith 110 = .ok (.invokestatic 46, 3) := by decide +kernel
theorem d_Bk_fitWith_113 : decode b_Bk_fitWith 113 = .ok (.isub, 1) := by decide +kernel
theorem d_Bk_fitWith_114 : decode b_Bk_fitWith 114 = .ok (.invokestatic 50, 3) := by decide +kernel
theorem d_Bk_fitWith_117 : decode b_Bk_fitWith 117 = .ok (.ireturn, 1) := by decide +kernel
theorem d_Bk_lostByGrams_0 : decode b_Bk_lostByGrams 0 = .ok (.lload_n 0, 1) := by decide +kernel
theorem d_Bk_lostByGrams_1 : decode b_Bk_lostByGrams 1 = .ok (.lload_n 2, 1) := by decide +kernel
theorem d_Bk_lostByGrams_2 : decode b_Bk_lostByGrams 2 = .ok (.invokestatic 56, 3) := by decide +kernel
theorem d_Bk_lostByGrams_5 : decode b_Bk_lostByGrams 5 = .ok (.lstore 4, 2) := by decide +kernel
theorem d_Bk_lostByGrams_7 : decode b_Bk_lostByGrams 7 = .ok (.lload 4, 2) := by decide +kernel
theorem d_Bk_lostByGrams_9 : decode b_Bk_lostByGrams 9 = .ok (.lconst 0, 1) := by decide +kernel
theorem d_Bk_lostByGrams_10 : decode b_Bk_lostByGrams 10 = .ok (.lcmp, 1) := by decide +kernel
theorem d_Bk_lostByGrams_11 : decode b_Bk_lostByGrams 11 = .ok (.ifCond .le 20, 3) := by decide +kernel
theorem d_Bk_lostByGrams_14 : decode b_Bk_lostByGrams 14 = .ok (.ldc2_w 59, 3) := by decide +kernel
theorem d_Bk_lostByGrams_17 : decode b_Bk_lostByGrams 17 = .ok (.lload_n 0, 1) := by decide +kernel
theorem d_Bk_lostByGrams_18 : decode b_Bk_lostByGrams 18 = .ok (.lload_n 2, 1) := by decide +kernel
theorem d_Bk_lostByGrams_19 : decode b_Bk_lostByGrams 19 = .ok (.lsub, 1) := by decide +kernel
theorem d_Bk_lostByGrams_20 : decode b_Bk_lostByGrams 20 = .ok (.invokestatic 61, 3) := by decide +kernel
theorem d_Bk_lostByGrams_23 : decode b_Bk_lostByGrams 23 = .ok (.lmul, 1) := by decide +kernel
theorem d_Bk_lostByGrams_24 : decode b_Bk_lostByGrams 24 = .ok (.lload 4, 2) := by decide +kernel
theorem d_Bk_lostByGrams_26 : decode b_Bk_lostByGrams 26 = .ok (.ldiv, 1) := by decide +kernel
theorem d_Bk_lostByGrams_27 : decode b_Bk_lostByGrams 27 = .ok (.l2i, 1) := by decide +kernel
theorem d_Bk_lostByGrams_28 : decode b_Bk_lostByGrams 28 = .ok (.goto 4, 3) := by decide +kernel
theorem d_Bk_lostByGrams_31 : decode b_Bk_lostByGrams 31 = .ok (.iconst 0, 1) := by decide +kernel
theorem d_Bk_lostByGrams_32 : decode b_Bk_lostByGrams 32 = .ok (.ireturn, 1) := by decide +kernel
theorem d_Jo_init_0 : decode b_Jo_init 0 = .ok (.aload_n 0, 1) := by decide +kernel
theorem d_Jo_init_1 : decode b_Jo_init 1 = .ok (.invokespecial 3, 3) := by decide +kernel
theorem d_Jo_init_4 : decode b_Jo_init 4 = .ok (.aload_n 0, 1) := by decide +kernel
theorem d_Jo_init_5 : decode b_Jo_init 5 = .ok (.bipush 30, 2) := by decide +kernel
theorem d_Jo_init_7 : decode b_Jo_init 7 = .ok (.newarray .int, 2) := by decide +kernel
theorem d_Jo_init_9 : decode b_Jo_init 9 = .ok (.putfield 9, 3) := by decide +kernel
theorem d_Jo_init_12 : decode b_Jo_init 12 = .ok (.aload_n 0, 1) := by decide +kernel
theorem d_Jo_init_13 : decode b_Jo_init 13 = .ok (.bipush 30, 2) := by decide +kernel
theorem d_Jo_init_15 : decode b_Jo_init 15 = .ok (.newarray .int, 2) := by decide +kernel
theorem d_Jo_init_17 : decode b_Jo_init 17 = .ok (.putfield 15, 3) := by decide +kernel
theorem d_Jo_init_20 : decode b_Jo_init 20 = .ok (.aload_n 0, 1) := by decide +kernel
theorem d_Jo_init_21 : decode b_Jo_init 21 = .ok (.invokevirtual 18, 3) := by decide +kernel
theorem d_Jo_init_24 : decode b_Jo_init 24 = .ok (.return_, 1) := by decide +kernel
theorem d_Jo_partAll_0 : decode b_Jo_partAll 0 = .ok (.iconst 0, 1) := by decide +kernel
theorem d_Jo_partAll_1 : decode b_Jo_partAll 1 = .ok (.istore_n 1, 1) := by decide +kernel
theorem d_Jo_partAll_2 : decode b_Jo_partAll 2 = .ok (.iload_n 1, 1) := by decide +kernel
theorem d_Jo_partAll_3 : decode b_Jo_partAll 3 = .ok (.bipush 30, 2) := by decide +kernel
theorem d_Jo_partAll_5 : decode b_Jo_partAll 5 = .ok (.if_icmp .ge 23, 3) := by decide +kernel
theorem d_Jo_partAll_8 : decode b_Jo_partAll 8 = .ok (.aload_n 0, 1) := by decide +kernel
theorem d_Jo_partAll_9 : decode b_Jo_partAll 9 = .ok (.getfield 9, 3) := by decide +kernel
theorem d_Jo_partAll_12 : decode b_Jo_partAll 12 = .ok (.iload_n 1, 1) := by decide +kernel
theorem d_Jo_partAll_13 : decode b_Jo_partAll 13 = .ok (.iconst (-1), 1) := by decide +kernel
theorem d_Jo_partAll_14 : decode b_Jo_partAll 14 = .ok (.iastore, 1) := by decide +kernel
theorem d_Jo_partAll_15 : decode b_Jo_partAll 15 = .ok (.aload_n 0, 1) := by decide +kernel
theorem d_Jo_partAll_16 : decode b_Jo_partAll 16 = .ok (.getfield 15, 3) := by decide +kernel
theorem d_Jo_partAll_19 : decode b_Jo_partAll 19 = .ok (.iload_n 1, 1) := by decide +kernel
theorem d_Jo_partAll_20 : decode b_Jo_partAll 20 = .ok (.iconst (-1), 1) := by decide +kernel
theorem d_Jo_partAll_21 : decode b_Jo_partAll 21 = .ok (.iastore, 1) := by decide +kernel
theorem d_Jo_partAll_22 : decode b_Jo_partAll 22 = .ok (.iinc 1 1, 3) := by decide +kernel
theorem d_Jo_partAll_25 : decode b_Jo_partAll 25 = .ok (.goto (-23), 3) := by decide +kernel
theorem d_Jo_partAll_28 : decode b_Jo_partAll 28 = .ok (.return_, 1) := by decide +kernel
theorem d_Jo_joinAnew_0 : decode b_Jo_joinAnew 0 = .ok (.aload_n 0, 1) := by decide +kernel
theorem d_Jo_joinAnew_1 : decode b_Jo_joinAnew 1 = .ok (.invokevirtual 18, 3) := by decide +kernel
theorem d_Jo_joinAnew_4 : decode b_Jo_joinAnew 4 = .ok (.iconst 0, 1) := by decide +kernel
theorem d_Jo_joinAnew_5 : decode b_Jo_joinAnew 5 = .ok (.istore_n 3, 1) := by decide +kernel
theorem d_Jo_joinAnew_6 : decode b_Jo_joinAnew 6 = .ok (.iconst 0, 1) := by decide +kernel
theorem d_Jo_joinAnew_7 : decode b_Jo_joinAnew 7 = .ok (.istore 4, 2) := by decide +kernel
theorem d_Jo_joinAnew_9 : decode b_Jo_joinAnew 9 = .ok (.iload 4, 2) := by decide +kernel
theorem d_Jo_joinAnew_11 : decode b_Jo_joinAnew 11 = .ok (.bipush 30, 2) := by decide +kernel
theorem d_Jo_joinAnew_13 : decode b_Jo_joinAnew 13 = .ok (.if_icmp .ge 21, 3) := by decide +kernel
theorem d_Jo_joinAnew_16 : decode b_Jo_joinAnew 16 = .ok (.aload_n 0, 1) := by decide +kernel
theorem d_Jo_joinAnew_17 : decode b_Jo_joinAnew 17 = .ok (.aload_n 1, 1) := by decide +kernel
theorem d_Jo_joinAnew_18 : decode b_Jo_joinAnew 18 = .ok (.aload_n 2, 1) := by decide +kernel
theorem d_Jo_joinAnew_19 : decode b_Jo_joinAnew 19 = .ok (.invokevirtual 21, 3) := by decide +kernel
theorem d_Jo_joinAnew_22 : decode b_Jo_joinAnew 22 = .ok (.ifCond .eq 12, 3) := by decide +kernel
theorem d_Jo_joinAnew_25 : decode b_Jo_joinAnew 25 = .ok (.iinc 3 1, 3) := by decide +kernel
theorem d_Jo_joinAnew_28 : decode b_Jo_joinAnew 28 = .ok (.iinc 4 1, 3) := by decide +kernel
theorem d_Jo_joinAnew_31 : decode b_Jo_joinAnew 31 = .ok (.goto (-22), 3) := by decide +kernel
theorem d_Jo_joinAnew_34 : decode b_Jo_joinAnew 34 = .ok (.iload_n 3, 1) := by decide +kernel
theorem d_Jo_joinAnew_35 : decode b_Jo_joinAnew 35 = .ok (.ireturn, 1) := by decide +kernel
theorem d_Jo_joinBest_0 : decode b_Jo_joinBest 0 = .ok (.iconst 0, 1) := by decide +kernel
theorem d_Jo_joinBest_1 : decode b_Jo_joinBest 1 = .ok (.istore_n 3, 1) := by decide +kernel
theorem d_Jo_joinBest_2 : decode b_Jo_joinBest 2 = .ok (.iconst (-1), 1) := by decide +kernel
theorem d_Jo_joinBest_3 : decode b_Jo_joinBest 3 = .ok (.istore 4, 2) := by decide +kernel
theorem d_Jo_joinBest_5 : decode b_Jo_joinBest 5 = .ok (.iconst (-1), 1) := by decide +kernel
theorem d_Jo_joinBest_6 : decode b_Jo_joinBest 6 = .ok (.istore 5, 2) := by decide +kernel
theorem d_Jo_joinBest_8 : decode b_Jo_joinBest 8 = .ok (.iconst 0, 1) := by decide +kernel
theorem d_Jo_joinBest_9 : decode b_Jo_joinBest 9 = .ok (.istore 6, 2) := by decide +kernel
theorem d_Jo_joinBest_11 : decode b_Jo_joinBest 11 = .ok (.iload 6, 2) := by decide +kernel
theorem d_Jo_joinBest_13 : decode b_Jo_joinBest 13 = .ok (.aload_n 1, 1) := by decide +kernel
theorem d_Jo_joinBest_14 : decode b_Jo_joinBest 14 = .ok (.getfield 25, 3) := by decide +kernel
theorem d_Jo_joinBest_17 : decode b_Jo_joinBest 17 = .ok (.if_icmp .ge 84, 3) := by decide +kernel
theorem d_Jo_joinBest_20 : decode b_Jo_joinBest 20 = .ok (.aload_n 0, 1) := by decide +kernel
theorem d_Jo_joinBest_21 : decode b_Jo_joinBest 21 = .ok (.getfield 9, 3) := by decide +kernel
theorem d_Jo_joinBest_24 : decode b_Jo_joinBest 24 = .ok (.iload 6, 2) := by decide +kernel
theorem d_Jo_joinBest_26 : decode b_Jo_joinBest 26 = .ok (.iaload, 1) := by decide +kernel
theorem d_Jo_joinBest_27 : decode b_Jo_joinBest 27 = .ok (.iconst (-1), 1) := by decide +kernel
theorem d_Jo_joinBest_28 : decode b_Jo_joinBest 28 = .ok (.if_icmp .eq 6, 3) := by decide +kernel
theorem d_Jo_joinBest_31 : decode b_Jo_joinBest 31 = .ok (.goto 64, 3) := by decide +kernel
theorem d_Jo_joinBest_34 : decode b_Jo_joinBest 34 = .ok (.iconst 0, 1) := by decide +kernel
theorem d_Jo_joinBest_35 : decode b_Jo_joinBest 35 = .ok (.istore 7, 2) := by decide +kernel
theorem d_Jo_joinBest_37 : decode b_Jo_joinBest 37 = .ok (.iload 7, 2) := by decide +kernel
theorem d_Jo_joinBest_39 : decode b_Jo_joinBest 39 = .ok (.aload_n 2, 1) := by decide +kernel
theorem d_Jo_joinBest_40 : decode b_Jo_joinBest 40 = .ok (.getfield 25, 3) := by decide +kernel
theorem d_Jo_joinBest_43 : decode b_Jo_joinBest 43 = .ok (.if_icmp .ge 52, 3) := by decide +kernel
theorem d_Jo_joinBest_46 : decode b_Jo_joinBest 46 = .ok (.aload_n 0, 1) := by decide +kernel
theorem d_Jo_joinBest_47 : decode b_Jo_joinBest 47 = .ok (.getfield 15, 3) := by decide +kernel
theorem d_Jo_joinBest_50 : decode b_Jo_joinBest 50 = .ok (.iload 7, 2) := by decide +kernel
theorem d_Jo_joinBest_52 : decode b_Jo_joinBest 52 = .ok (.iaload, 1) := by decide +kernel
theorem d_Jo_joinBest_53 : decode b_Jo_joinBest 53 = .ok (.iconst (-1), 1) := by decide +kernel
theorem d_Jo_joinBest_54 : decode b_Jo_joinBest 54 = .ok (.if_icmp .ne 15, 3) := by decide +kernel
theorem d_Jo_joinBest_57 : decode b_Jo_joinBest 57 = .ok (.aload_n 1, 1) := by decide +kernel
theorem d_Jo_joinBest_58 : decode b_Jo_joinBest 58 = .ok (.iload 6, 2) := by decide +kernel
theorem d_Jo_joinBest_60 : decode b_Jo_joinBest 60 = .ok (.aload_n 2, 1) := by decide +kernel
theorem d_Jo_joinBest_61 : decode b_Jo_joinBest 61 = .ok (.iload 7, 2) := by decide +kernel
theorem d_Jo_joinBest_63 : decode b_Jo_joinBest 63 = .ok (.invokevirtual 31, 3) := by decide +kernel
theorem d_Jo_joinBest_66 : decode b_Jo_joinBest 66 = .ok (.goto 4, 3) := by decide +kernel
theorem d_Jo_joinBest_69 : decode b_Jo_joinBest 69 = .ok (.iconst 0, 1) := by decide +kernel
theorem d_Jo_joinBest_70 : decode b_Jo_joinBest 70 = .ok (.istore 8, 2) := by decide +kernel
theorem d_Jo_joinBest_72 : decode b_Jo_joinBest 72 = .ok (.iload 8, 2) := by decide +kernel
theorem d_Jo_joinBest_74 : decode b_Jo_joinBest 74 = .ok (.iload_n 3, 1) := by decide +kernel
theorem d_Jo_joinBest_75 : decode b_Jo_joinBest 75 = .ok (.if_icmp .le 14, 3) := by decide +kernel
theorem d_Jo_joinBest_78 : decode b_Jo_joinBest 78 = .ok (.iload 8, 2) := by decide +kernel
theorem d_Jo_joinBest_80 : decode b_Jo_joinBest 80 = .ok (.istore_n 3, 1) := by decide +kernel
theorem d_Jo_joinBest_81 : decode b_Jo_joinBest 81 = .ok (.iload 6, 2) := by decide +kernel
theorem d_Jo_joinBest_83 : decode b_Jo_joinBest 83 = .ok (.istore 4, 2) := by decide +kernel
theorem d_Jo_joinBest_85 : decode b_Jo_joinBest 85 = .ok (.iload 7, 2) := by decide +kernel
theorem d_Jo_joinBest_87 : decode b_Jo_joinBest 87 = .ok (.istore 5, 2) := by decide +kernel
theorem d_Jo_joinBest_89 : decode b_Jo_joinBest 89 = .ok (.iinc 7 1, 3) := by decide +kernel
theorem d_Jo_joinBest_92 : decode b_Jo_joinBest 92 = .ok (.goto (-55), 3) := by decide +kernel
theorem d_Jo_joinBest_95 : decode b_Jo_joinBest 95 = .ok (.iinc 6 1, 3) := by decide +kernel
theorem d_Jo_joinBest_98 : decode b_Jo_joinBest 98 = .ok (.goto (-87), 3) := by decide +kernel
theorem d_Jo_joinBest_101 : decode b_Jo_joinBest 101 = .ok (.iload 4, 2) := by decide +kernel
theorem d_Jo_joinBest_103 : decode b_Jo_joinBest 103 = .ok (.iconst (-1), 1) := by decide +kernel
theorem d_Jo_joinBest_104 : decode b_Jo_joinBest 104 = .ok (.if_icmp .eq 9, 3) := by decide +kernel
theorem d_Jo_joinBest_107 : decode b_Jo_joinBest 107 = .ok (.iload 5, 2) := by decide +kernel
theorem d_Jo_joinBest_109 : decode b_Jo_joinBest 109 = .ok (.iconst (-1), 1) := by decide +kernel
theorem d_Jo_joinBest_110 : decode b_Jo_joinBest 110 = .ok (.if_icmp .ne 5, 3) := by decide +kernel
theorem d_Jo_joinBest_113 : decode b_Jo_joinBest 113 = .ok (.iconst 0, 1) := by decide +kernel
theorem d_Jo_joinBest_114 : decode b_Jo_joinBest 114 = .ok (.ireturn, 1) := by decide +kernel
theorem d_Jo_joinBest_115 : decode b_Jo_joinBest 115 = .ok (.aload_n 0, 1) := by decide +kernel
theorem d_Jo_joinBest_116 : decode b_Jo_joinBest 116 = .ok (.getfield 9, 3) := by decide +kernel
theorem d_Jo_joinBest_119 : decode b_Jo_joinBest 119 = .ok (.iload 4, 2) := by decide +kernel
theorem d_Jo_joinBest_121 : decode b_Jo_joinBest 121 = .ok (.iload 5, 2) := by decide +kernel
theorem d_Jo_joinBest_123 : decode b_Jo_joinBest 123 = .ok (.iastore, 1) := by decide +kernel
theorem d_Jo_joinBest_124 : decode b_Jo_joinBest 124 = .ok (.aload_n 0, 1) := by decide +kernel
theorem d_Jo_joinBest_125 : decode b_Jo_joinBest 125 = .ok (.getfield 15, 3) := by decide +kernel
theorem d_Jo_joinBest_128 : decode b_Jo_joinBest 128 = .ok (.iload 5, 2) := by decide +kernel
theorem d_Jo_joinBest_130 : decode b_Jo_joinBest 130 = .ok (.iload 4, 2) := by decide +kernel
theorem d_Jo_joinBest_132 : decode b_Jo_joinBest 132 = .ok (.iastore, 1) := by decide +kernel
theorem d_Jo_joinBest_133 : decode b_Jo_joinBest 133 = .ok (.iconst 1, 1) := by decide +kernel
theorem d_Jo_joinBest_134 : decode b_Jo_joinBest 134 = .ok (.ireturn, 1) := by decide +kernel
theorem d_Jo_saleOf_0 : decode b_Jo_saleOf 0 = .ok (.iload_n 1, 1) := by decide +kernel
theorem d_Jo_saleOf_1 : decode b_Jo_saleOf 1 = .ok (.ifCond .lt 18, 3) := by decide +kernel
theorem d_Jo_saleOf_4 : decode b_Jo_saleOf 4 = .ok (.iload_n 1, 1) := by decide +kernel
theorem d_Jo_saleOf_5 : decode b_Jo_saleOf 5 = .ok (.bipush 30, 2) := by decide +kernel
theorem d_Jo_saleOf_7 : decode b_Jo_saleOf 7 = .ok (.if_icmp .ge 12, 3) := by decide +kernel
theorem d_Jo_saleOf_10 : decode b_Jo_saleOf 10 = .ok (.aload_n 0, 1) := by decide +kernel
theorem d_Jo_saleOf_11 : decode b_Jo_saleOf 11 = .ok (.getfield 9, 3) := by decide +kernel
theorem d_Jo_saleOf_14 : decode b_Jo_saleOf 14 = .ok (.iload_n 1, 1) := by decide +kernel
theorem d_Jo_saleOf_15 : decode b_Jo_saleOf 15 = .ok (.iaload, 1) := by decide +kernel
theorem d_Jo_saleOf_16 : decode b_Jo_saleOf 16 = .ok (.goto 4, 3) := by decide +kernel
theorem d_Jo_saleOf_19 : decode b_Jo_saleOf 19 = .ok (.iconst (-1), 1) := by decide +kernel
theorem d_Jo_saleOf_20 : decode b_Jo_saleOf 20 = .ok (.ireturn, 1) := by decide +kernel
theorem d_Jo_waiting_0 : decode b_Jo_waiting 0 = .ok (.iconst 0, 1) := by decide +kernel
theorem d_Jo_waiting_1 : decode b_Jo_waiting 1 = .ok (.istore 4, 2) := by decide +kernel
theorem d_Jo_waiting_3 : decode b_Jo_waiting 3 = .ok (.iconst 0, 1) := by decide +kernel
theorem d_Jo_waiting_4 : decode b_Jo_waiting 4 = .ok (.istore 5, 2) := by decide +kernel
theorem d_Jo_waiting_6 : decode b_Jo_waiting 6 = .ok (.iload 5, 2) := by decide +kernel
theorem d_Jo_waiting_8 : decode b_Jo_waiting 8 = .ok (.aload_n 1, 1) := by decide +kernel
theorem d_Jo_waiting_9 : decode b_Jo_waiting 9 = .ok (.getfield 25, 3) := by decide +kernel
theorem d_Jo_waiting_12 : decode b_Jo_waiting 12 = .ok (.if_icmp .ge 61, 3) := by decide +kernel
theorem d_Jo_waiting_15 : decode b_Jo_waiting 15 = .ok (.iload_n 2, 1) := by decide +kernel
theorem d_Jo_waiting_16 : decode b_Jo_waiting 16 = .ok (.i2l, 1) := by decide +kernel
theorem d_Jo_waiting_17 : decode b_Jo_waiting 17 = .ok (.aload_n 1, 1) := by decide +kernel
theorem d_Jo_waiting_18 : decode b_Jo_waiting 18 = .ok (.getfield 35, 3) := by decide +kernel
theorem d_Jo_waiting_21 : decode b_Jo_waiting 21 = .ok (.iload 5, 2) := by decide +kernel
theorem d_Jo_waiting_23 : decode b_Jo_waiting 23 = .ok (.iaload, 1) := by decide +kernel
theorem d_Jo_waiting_24 : decode b_Jo_waiting 24 = .ok (.i2l, 1) := by decide +kernel
theorem d_Jo_waiting_25 : decode b_Jo_waiting 25 = .ok (.lsub, 1) := by decide +kernel
theorem d_Jo_waiting_26 : decode b_Jo_waiting 26 = .ok (.lstore 6, 2) := by decide +kernel
theorem d_Jo_waiting_28 : decode b_Jo_waiting 28 = .ok (.aload_n 0, 1) := by decide +kernel
theorem d_Jo_waiting_29 : decode b_Jo_waiting 29 = .ok (.getfield 9, 3) := by decide +kernel
theorem d_Jo_waiting_32 : decode b_Jo_waiting 32 = .ok (.iload 5, 2) := by decide +kernel
theorem d_Jo_waiting_34 : decode b_Jo_waiting 34 = .ok (.iaload, 1) := by decide +kernel
theorem d_Jo_waiting_35 : decode b_Jo_waiting 35 = .ok (.iconst (-1), 1) := by decide +kernel
theorem d_Jo_waiting_36 : decode b_Jo_waiting 36 = .ok (.if_icmp .ne 31, 3) := by decide +kernel
theorem d_Jo_waiting_39 : decode b_Jo_waiting 39 = .ok (.lload 6, 2) := by decide +kernel
theorem d_Jo_waiting_41 : decode b_Jo_waiting 41 = .ok (.lconst 0, 1) := by decide +kernel
theorem d_Jo_waiting_42 : decode b_Jo_waiting 42 = .ok (.lcmp, 1) := by decide +kernel
theorem d_Jo_waiting_43 : decode b_Jo_waiting 43 = .ok (.ifCond .lt 24, 3) := by decide +kernel
theorem d_Jo_waiting_46 : decode b_Jo_waiting 46 = .ok (.lload 6, 2) := by decide +kernel
theorem d_Jo_waiting_48 : decode b_Jo_waiting 48 = .ok (.ldc2_w 38, 3) := by decide +kernel
theorem d_Jo_waiting_51 : decode b_Jo_waiting 51 = .ok (.lcmp, 1) := by decide +kernel
theorem d_Jo_waiting_52 : decode b_Jo_waiting 52 = .ok (.ifCond .gt 15, 3) := by decide +kernel
theorem d_Jo_waiting_55 : decode b_Jo_waiting 55 = .ok (.iload 4, 2) := by decide +kernel
theorem d_Jo_waiting_57 : decode b_Jo_waiting 57 = .ok (.iload_n 3, 1) := by decide +kernel
theorem d_Jo_waiting_58 : decode b_Jo_waiting 58 = .ok (.if_icmp .ne 6, 3) := by decide +kernel
theorem d_Jo_waiting_61 : decode b_Jo_waiting 61 = .ok (.iload 5, 2) := by decide +kernel
theorem d_Jo_waiting_63 : decode b_Jo_waiting 63 = .ok (.ireturn, 1) := by decide +kernel
theorem d_Jo_waiting_64 : decode b_Jo_waiting 64 = .ok (.iinc 4 1, 3) := by decide +kernel
theorem d_Jo_waiting_67 : decode b_Jo_waiting 67 = .ok (.iinc 5 1, 3) := by decide +kernel
theorem d_Jo_waiting_70 : decode b_Jo_waiting 70 = .ok (.goto (-64), 3) := by decide +kernel
theorem d_Jo_waiting_73 : decode b_Jo_waiting 73 = .ok (.iconst (-1), 1) := by decide +kernel
theorem d_Jo_waiting_74 : decode b_Jo_waiting 74 = .ok (.ireturn, 1) := by decide +kernel
theorem d_Pl_init_0 : decode b_Pl_init 0 = .ok (.aload_n 0, 1) := by decide +kernel
theorem d_Pl_init_1 : decode b_Pl_init 1 = .ok (.invokespecial 3, 3) := by decide +kernel
theorem d_Pl_init_4 : decode b_Pl_init 4 = .ok (.aload_n 0, 1) := by decide +kernel
theorem d_Pl_init_5 : decode b_Pl_init 5 = .ok (.bipush 8, 2) := by decide +kernel
theorem d_Pl_init_7 : decode b_Pl_init 7 = .ok (.newarray .long, 2) := by decide +kernel
theorem d_Pl_init_9 : decode b_Pl_init 9 = .ok (.putfield 9, 3) := by decide +kernel
theorem d_Pl_init_12 : decode b_Pl_init 12 = .ok (.aload_n 0, 1) := by decide +kernel
theorem d_Pl_init_13 : decode b_Pl_init 13 = .ok (.bipush 8, 2) := by decide +kernel
theorem d_Pl_init_15 : decode b_Pl_init 15 = .ok (.newarray .int, 2) := by decide +kernel
theorem d_Pl_init_17 : decode b_Pl_init 17 = .ok (.putfield 15, 3) := by decide +kernel
theorem d_Pl_init_20 : decode b_Pl_init 20 = .ok (.aload_n 0, 1) := by decide +kernel
theorem d_Pl_init_21 : decode b_Pl_init 21 = .ok (.bipush 8, 2) := by decide +kernel
theorem d_Pl_init_23 : decode b_Pl_init 23 = .ok (.newarray .int, 2) := by decide +kernel
theorem d_Pl_init_25 : decode b_Pl_init 25 = .ok (.putfield 19, 3) := by decide +kernel
theorem d_Pl_init_28 : decode b_Pl_init 28 = .ok (.aload_n 0, 1) := by decide +kernel
theorem d_Pl_init_29 : decode b_Pl_init 29 = .ok (.bipush 64, 2) := by decide +kernel
theorem d_Pl_init_31 : decode b_Pl_init 31 = .ok (.newarray .int, 2) := by decide +kernel
theorem d_Pl_init_33 : decode b_Pl_init 33 = .ok (.putfield 22, 3) := by decide +kernel
theorem d_Pl_init_36 : decode b_Pl_init 36 = .ok (.aload_n 0, 1) := by decide +kernel
theorem d_Pl_init_37 : decode b_Pl_init 37 = .ok (.bipush 64, 2) := by decide +kernel
theorem d_Pl_init_39 : decode b_Pl_init 39 = .ok (.newarray .long, 2) := by decide +kernel
theorem d_Pl_init_41 : decode b_Pl_init 41 = .ok (.putfield 25, 3) := by decide +kernel
theorem d_Pl_init_44 : decode b_Pl_init 44 = .ok (.aload_n 0, 1) := by decide +kernel
theorem d_Pl_init_45 : decode b_Pl_init 45 = .ok (.iconst 0, 1) := by decide +kernel
theorem d_Pl_init_46 : decode b_Pl_init 46 = .ok (.putfield 28, 3) := by decide +kernel
theorem d_Pl_init_49 : decode b_Pl_init 49 = .ok (.return_, 1) := by decide +kernel
theorem d_Pl_has_0 : decode b_Pl_has 0 = .ok (.iload_n 1, 1) := by decide +kernel
theorem d_Pl_has_1 : decode b_Pl_has 1 = .ok (.ifCond .lt 15, 3) := by decide +kernel
theorem d_Pl_has_4 : decode b_Pl_has 4 = .ok (.iload_n 1, 1) := by decide +kernel
theorem d_Pl_has_5 : decode b_Pl_has 5 = .ok (.aload_n 0, 1) := by decide +kernel
theorem d_Pl_has_6 : decode b_Pl_has 6 = .ok (.getfield 28, 3) := by decide +kernel
theorem d_Pl_has_9 : decode b_Pl_has 9 = .ok (.if_icmp .ge 7, 3) := by decide +kernel
theorem d_Pl_has_12 : decode b_Pl_has 12 = .ok (.iconst 1, 1) := by decide +kernel
theorem d_Pl_has_13 : decode b_Pl_has 13 = .ok (.goto 4, 3) := by decide +kernel
theorem d_Pl_has_16 : decode b_Pl_has 16 = .ok (.iconst 0, 1) := by decide +kernel
theorem d_Pl_has_17 : decode b_Pl_has 17 = .ok (.ireturn, 1) := by decide +kernel
theorem d_Pl_add_0 : decode b_Pl_add 0 = .ok (.aload_n 0, 1) := by decide +kernel
theorem d_Pl_add_1 : decode b_Pl_add 1 = .ok (.getfield 28, 3) := by decide +kernel
theorem d_Pl_add_4 : decode b_Pl_add 4 = .ok (.bipush 8, 2) := by decide +kernel
theorem d_Pl_add_6 : decode b_Pl_add 6 = .ok (.if_icmp .ge 24, 3) := by decide +kernel
theorem d_Pl_add_9 : decode b_Pl_add 9 = .ok (.lload_n 1, 1) := by decide +kernel
theorem d_Pl_add_10 : decode b_Pl_add 10 = .ok (.lconst 0, 1) := by decide +kernel
theorem d_Pl_add_11 : decode b_Pl_add 11 = .ok (.lcmp, 1) := by decide +kernel
theorem d_Pl_add_12 : decode b_Pl_add 12 = .ok (.ifCond .lt 18, 3) := by decide +kernel
theorem d_Pl_add_15 : decode b_Pl_add 15 = .ok (.lload_n 1, 1) := by decide +kernel
theorem d_Pl_add_16 : decode b_Pl_add 16 = .ok (.ldc2_w 32, 3) := by decide +kernel
theorem d_Pl_add_19 : decode b_Pl_add 19 = .ok (.lcmp, 1) := by decide +kernel
theorem d_Pl_add_20 : decode b_Pl_add 20 = .ok (.ifCond .gt 10, 3) := by decide +kernel
theorem d_Pl_add_23 : decode b_Pl_add 23 = .ok (.iload_n 3, 1) := by decide +kernel
theorem d_Pl_add_24 : decode b_Pl_add 24 = .ok (.invokestatic 34, 3) := by decide +kernel
theorem d_Pl_add_27 : decode b_Pl_add 27 = .ok (.ifCond .ne 5, 3) := by decide +kernel
theorem d_Pl_add_30 : decode b_Pl_add 30 = .ok (.iconst (-1), 1) := by decide +kernel
theorem d_Pl_add_31 : decode b_Pl_add 31 = .ok (.ireturn, 1) := by decide +kernel
theorem d_Pl_add_32 : decode b_Pl_add 32 = .ok (.aload_n 0, 1) := by decide +kernel
theorem d_Pl_add_33 : decode b_Pl_add 33 = .ok (.getfield 28, 3) := by decide +kernel
theorem d_Pl_add_36 : decode b_Pl_add 36 = .ok (.istore 4, 2) := by decide +kernel
theorem d_Pl_add_38 : decode b_Pl_add 38 = .ok (.aload_n 0, 1) := by decide +kernel
theorem d_Pl_add_39 : decode b_Pl_add 39 = .ok (.getfield 9, 3) := by decide +kernel
theorem d_Pl_add_42 : decode b_Pl_add 42 = .ok (.iload 4, 2) := by decide +kernel
theorem d_Pl_add_44 : decode b_Pl_add 44 = .ok (.lload_n 1, 1) := by decide +kernel
theorem d_Pl_add_45 : decode b_Pl_add 45 = .ok (.lastore, 1) := by decide +kernel
theorem d_Pl_add_46 : decode b_Pl_add 46 = .ok (.aload_n 0, 1) := by decide +kernel
theorem d_Pl_add_47 : decode b_Pl_add 47 = .ok (.getfield 15, 3) := by decide +kernel
theorem d_Pl_add_50 : decode b_Pl_add 50 = .ok (.iload 4, 2) := by decide +kernel
theorem d_Pl_add_52 : decode b_Pl_add 52 = .ok (.iload_n 3, 1) := by decide +kernel
theorem d_Pl_add_53 : decode b_Pl_add 53 = .ok (.iastore, 1) := by decide +kernel
theorem d_Pl_add_54 : decode b_Pl_add 54 = .ok (.aload_n 0, 1) := by decide +kernel
theorem d_Pl_add_55 : decode b_Pl_add 55 = .ok (.iload 4, 2) := by decide +kernel
theorem d_Pl_add_57 : decode b_Pl_add 57 = .ok (.iconst 1, 1) := by decide +kernel
theorem d_Pl_add_58 : decode b_Pl_add 58 = .ok (.iadd, 1) := by decide +kernel
theorem d_Pl_add_59 : decode b_Pl_add 59 = .ok (.putfield 28, 3) := by decide +kernel
theorem d_Pl_add_62 : decode b_Pl_add 62 = .ok (.iload 4, 2) := by decide +kernel
theorem d_Pl_add_64 : decode b_Pl_add 64 = .ok (.ireturn, 1) := by decide +kernel
theorem d_Pl_addOut_0 : decode b_Pl_addOut 0 = .ok (.aload_n 0, 1) := by decide +kernel
theorem d_Pl_addOut_1 : decode b_Pl_addOut 1 = .ok (.iload_n 1, 1) := by decide +kernel
theorem d_Pl_addOut_2 : decode b_Pl_addOut 2 = .ok (.invokevirtual 38, 3) := by decide +kernel
theorem d_Pl_addOut_5 : decode b_Pl_addOut 5 = .ok (.ifCond .eq 28, 3) := by decide +kernel
theorem d_Pl_addOut_8 : decode b_Pl_addOut 8 = .ok (.iload_n 2, 1) := by decide +kernel
theorem d_Pl_addOut_9 : decode b_Pl_addOut 9 = .ok (.invokestatic 34, 3) := by decide +kernel
theorem d_Pl_addOut_12 : decode b_Pl_addOut 12 = .ok (.ifCond .eq 21, 3) := by decide +kernel
theorem d_Pl_addOut_15 : decode b_Pl_addOut 15 = .ok (.lload_n 3, 1) := by decide +kernel
theorem d_Pl_addOut_16 : decode b_Pl_addOut 16 = .ok (.invokestatic 41, 3) := by decide +kernel
theorem d_Pl_addOut_19 : decode b_Pl_addOut 19 = .ok (.ifCond .eq 14, 3) := by decide +kernel
theorem d_Pl_addOut_22 : decode b_Pl_addOut 22 = .ok (.aload_n 0, 1) := by decide +kernel
theorem d_Pl_addOut_23 : decode b_Pl_addOut 23 = .ok (.getfield 19, 3) := by decide +kernel
theorem d_Pl_addOut_26 : decode b_Pl_addOut 26 = .ok (.iload_n 1, 1) := by decide +kernel
theorem d_Pl_addOut_27 : decode b_Pl_addOut 27 = .ok (.iaload, 1) := by decide +kernel
theorem d_Pl_addOut_28 : decode b_Pl_addOut 28 = .ok (.bipush 8, 2) := by decide +kernel
theorem d_Pl_addOut_30 : decode b_Pl_addOut 30 = .ok (.if_icmp .lt 5, 3) := by decide +kernel
theorem d_Pl_addOut_33 : decode b_Pl_addOut 33 = .ok (.iconst (-1), 1) := by decide +kernel
theorem d_Pl_addOut_34 : decode b_Pl_addOut 34 = .ok (.ireturn, 1) := by decide +kernel
theorem d_Pl_addOut_35 : decode b_Pl_addOut 35 = .ok (.aload_n 0, 1) := by decide +kernel
theorem d_Pl_addOut_36 : decode b_Pl_addOut 36 = .ok (.getfield 19, 3) := by decide +kernel
theorem d_Pl_addOut_39 : decode b_Pl_addOut 39 = .ok (.iload_n 1, 1) := by decide +kernel
theorem d_Pl_addOut_40 : decode b_Pl_addOut 40 = .ok (.iaload, 1) := by decide +kernel
theorem d_Pl_addOut_41 : decode b_Pl_addOut 41 = .ok (.istore 5, 2) := by decide +kernel
theorem d_Pl_addOut_43 : decode b_Pl_addOut 43 = .ok (.aload_n 0, 1) := by decide +kernel
theorem d_Pl_addOut_44 : decode b_Pl_addOut 44 = .ok (.getfield 22, 3) := by decide +kernel
theorem d_Pl_addOut_47 : decode b_Pl_addOut 47 = .ok (.iload_n 1, 1) := by decide +kernel
theorem d_Pl_addOut_48 : decode b_Pl_addOut 48 = .ok (.bipush 8, 2) := by decide +kernel
theorem d_Pl_addOut_50 : decode b_Pl_addOut 50 = .ok (.imul, 1) := by decide +kernel
theorem d_Pl_addOut_51 : decode b_Pl_addOut 51 = .ok (.iload 5, 2) := by decide +kernel
theorem d_Pl_addOut_53 : decode b_Pl_addOut 53 = .ok (.iadd, 1) := by decide +kernel
theorem d_Pl_addOut_54 : decode b_Pl_addOut 54 = .ok (.iload_n 2, 1) := by decide +kernel
theorem d_Pl_addOut_55 : decode b_Pl_addOut 55 = .ok (.iastore, 1) := by decide +kernel
theorem d_Pl_addOut_56 : decode b_Pl_addOut 56 = .ok (.aload_n 0, 1) := by decide +kernel
theorem d_Pl_addOut_57 : decode b_Pl_addOut 57 = .ok (.getfield 25, 3) := by decide +kernel
theorem d_Pl_addOut_60 : decode b_Pl_addOut 60 = .ok (.iload_n 1, 1) := by decide +kernel
theorem d_Pl_addOut_61 : decode b_Pl_addOut 61 = .ok (.bipush 8, 2) := by decide +kernel
theorem d_Pl_addOut_63 : decode b_Pl_addOut 63 = .ok (.imul, 1) := by decide +kernel
theorem d_Pl_addOut_64 : decode b_Pl_addOut 64 = .ok (.iload 5, 2) := by decide +kernel
theorem d_Pl_addOut_66 : decode b_Pl_addOut 66 = .ok (.iadd, 1) := by decide +kernel
theorem d_Pl_addOut_67 : decode b_Pl_addOut 67 = .ok (.lload_n 3, 1) := by decide +kernel
theorem d_Pl_addOut_68 : decode b_Pl_addOut 68 = .ok (.lastore, 1) := by decide +kernel
theorem d_Pl_addOut_69 : decode b_Pl_addOut 69 = .ok (.aload_n 0, 1) := by decide +kernel
theorem d_Pl_addOut_70 : decode b_Pl_addOut 70 = .ok (.getfield 19, 3) := by decide +kernel
theorem d_Pl_addOut_73 : decode b_Pl_addOut 73 = .ok (.iload_n 1, 1) := by decide +kernel
theorem d_Pl_addOut_74 : decode b_Pl_addOut 74 = .ok (.iload 5, 2) := by decide +kernel
theorem d_Pl_addOut_76 : decode b_Pl_addOut 76 = .ok (.iconst 1, 1) := by decide +kernel
theorem d_Pl_addOut_77 : decode b_Pl_addOut 77 = .ok (.iadd, 1) := by decide +kernel
theorem d_Pl_addOut_78 : decode b_Pl_addOut 78 = .ok (.iastore, 1) := by decide +kernel
theorem d_Pl_addOut_79 : decode b_Pl_addOut 79 = .ok (.iload 5, 2) := by decide +kernel
theorem d_Pl_addOut_81 : decode b_Pl_addOut 81 = .ok (.ireturn, 1) := by decide +kernel
theorem d_Pl_lackOf_0 : decode b_Pl_lackOf 0 = .ok (.aload_n 0, 1) := by decide +kernel
theorem d_Pl_lackOf_1 : decode b_Pl_lackOf 1 = .ok (.iload_n 1, 1) := by decide +kernel
theorem d_Pl_lackOf_2 : decode b_Pl_lackOf 2 = .ok (.invokevirtual 38, 3) := by decide +kernel
theorem d_Pl_lackOf_5 : decode b_Pl_lackOf 5 = .ok (.ifCond .eq 27, 3) := by decide +kernel
theorem d_Pl_lackOf_8 : decode b_Pl_lackOf 8 = .ok (.lconst 0, 1) := by decide +kernel
theorem d_Pl_lackOf_9 : decode b_Pl_lackOf 9 = .ok (.aload_n 0, 1) := by decide +kernel
theorem d_Pl_lackOf_10 : decode b_Pl_lackOf 10 = .ok (.iload_n 1, 1) := by decide +kernel
theorem d_Pl_lackOf_11 : decode b_Pl_lackOf 11 = .ok (.aload_n 0, 1) := by decide +kernel
theorem d_Pl_lackOf_12 : decode b_Pl_lackOf 12 = .ok (.iload_n 1, 1) := by decide +kernel
theorem d_Pl_lackOf_13 : decode b_Pl_lackOf 13 = .ok (.invokevirtual 45, 3) := by decide +kernel
theorem d_Pl_lackOf_16 : decode b_Pl_lackOf 16 = .ok (.invokevirtual 49, 3) := by decide +kernel
theorem d_Pl_lackOf_19 : decode b_Pl_lackOf 19 = .ok (.aload_n 0, 1) := by decide +kernel
theorem d_Pl_lackOf_20 : decode b_Pl_lackOf 20 = .ok (.getfield 9, 3) := by decide +kernel
theorem d_Pl_lackOf_23 : decode b_Pl_lackOf 23 = .ok (.iload_n 1, 1) := by decide +kernel
theorem d_Pl_lackOf_24 : decode b_Pl_lackOf 24 = .ok (.laload, 1) := by decide +kernel
theorem d_Pl_lackOf_25 : decode b_Pl_lackOf 25 = .ok (.lsub, 1) := by decide +kernel
theorem d_Pl_lackOf_26 : decode b_Pl_lackOf 26 = .ok (.invokestatic 53, 3) := by decide +kernel
theorem d_Pl_lackOf_29 : decode b_Pl_lackOf 29 = .ok (.goto 4, 3) := by decide +kernel
theorem d_Pl_lackOf_32 : decode b_Pl_lackOf 32 = .ok (.lconst 0, 1) := by decide +kernel
theorem d_Pl_lackOf_33 : decode b_Pl_lackOf 33 = .ok (.lreturn, 1) := by decide +kernel
theorem d_Pl_leastSet_0 : decode b_Pl_leastSet 0 = .ok (.aload_n 0, 1) := by decide +kernel
theorem d_Pl_leastSet_1 : decode b_Pl_leastSet 1 = .ok (.iload_n 1, 1) := by decide +kernel
theorem d_Pl_leastSet_2 : decode b_Pl_leastSet 2 = .ok (.invokevirtual 59, 3) := by decide +kernel
theorem d_Pl_leastSet_5 : decode b_Pl_leastSet 5 = .ok (.lstore_n 2, 1) := by decide +kernel
theorem d_Pl_leastSet_6 : decode b_Pl_leastSet 6 = .ok (.lload_n 2, 1) := by decide +kernel
theorem d_Pl_leastSet_7 : decode b_Pl_leastSet 7 = .ok (.lconst 0, 1) := by decide +kernel
theorem d_Pl_leastSet_8 : decode b_Pl_leastSet 8 = .ok (.lcmp, 1) := by decide +kernel
theorem d_Pl_leastSet_9 : decode b_Pl_leastSet 9 = .ok (.ifCond .gt 5, 3) := by decide +kernel
theorem d_Pl_leastSet_12 : decode b_Pl_leastSet 12 = .ok (.iconst 0, 1) := by decide +kernel
theorem d_Pl_leastSet_13 : decode b_Pl_leastSet 13 = .ok (.ireturn, 1) := by decide +kernel
theorem d_Pl_leastSet_14 : decode b_Pl_leastSet 14 = .ok (.aload_n 0, 1) := by decide +kernel
theorem d_Pl_leastSet_15 : decode b_Pl_leastSet 15 = .ok (.iload_n 1, 1) := by decide +kernel
theorem d_Pl_leastSet_16 : decode b_Pl_leastSet 16 = .ok (.invokevirtual 45, 3) := by decide +kernel
theorem d_Pl_leastSet_19 : decode b_Pl_leastSet 19 = .ok (.istore 4, 2) := by decide +kernel
theorem d_Pl_leastSet_21 : decode b_Pl_leastSet 21 = .ok (.iload 4, 2) := by decide +kernel
theorem d_Pl_leastSet_23 : decode b_Pl_leastSet 23 = .ok (.istore 5, 2) := by decide +kernel
theorem d_Pl_leastSet_25 : decode b_Pl_leastSet 25 = .ok (.iconst 1, 1) := by decide +kernel
theorem d_Pl_leastSet_26 : decode b_Pl_leastSet 26 = .ok (.istore 6, 2) := by decide +kernel
theorem d_Pl_leastSet_28 : decode b_Pl_leastSet 28 = .ok (.iload 6, 2) := by decide +kernel
theorem d_Pl_leastSet_30 : decode b_Pl_leastSet 30 = .ok (.iload 4, 2) := by decide +kernel
theorem d_Pl_leastSet_32 : decode b_Pl_leastSet 32 = .ok (.if_icmp .gt 57, 3) := by decide +kernel
theorem d_Pl_leastSet_35 : decode b_Pl_leastSet 35 = .ok (.iload 6, 2) := by decide +kernel
theorem d_Pl_leastSet_37 : decode b_Pl_leastSet 37 = .ok (.iload 4, 2) := by decide +kernel
theorem d_Pl_leastSet_39 : decode b_Pl_leastSet 39 = .ok (.iconst (-1), 1) := by decide +kernel
theorem d_Pl_leastSet_40 : decode b_Pl_leastSet 40 = .ok (.ixor, 1) := by decide +kernel
theorem d_Pl_leastSet_41 : decode b_Pl_leastSet 41 = .ok (.iand, 1) := by decide +kernel
theorem d_Pl_leastSet_42 : decode b_Pl_leastSet 42 = .ok (.ifCond .ne 7, 3) := by decide +kernel
theorem d_Pl_leastSet_45 : decode b_Pl_leastSet 45 = .ok (.iconst 1, 1) := by decide +kernel
theorem d_Pl_leastSet_46 : decode b_Pl_leastSet 46 = .ok (.goto 4, 3) := by decide +kernel
theorem d_Pl_leastSet_49 : decode b_Pl_leastSet 49 = .ok (.iconst 0, 1) := by decide +kernel
theorem d_Pl_leastSet_50 : decode b_Pl_leastSet 50 = .ok (.istore 7, 2) := by decide +kernel
theorem d_Pl_leastSet_52 : decode b_Pl_leastSet 52 = .ok (.iload 7, 2) := by decide +kernel
theorem d_Pl_leastSet_54 : decode b_Pl_leastSet 54 = .ok (.ifCond .eq 29, 3) := by decide +kernel
theorem d_Pl_leastSet_57 : decode b_Pl_leastSet 57 = .ok (.iload 6, 2) := by decide +kernel
theorem d_Pl_leastSet_59 : decode b_Pl_leastSet 59 = .ok (.iload 5, 2) := by decide +kernel
theorem d_Pl_leastSet_61 : decode b_Pl_leastSet 61 = .ok (.invokestatic 63, 3) := by decide +kernel
theorem d_Pl_leastSet_64 : decode b_Pl_leastSet 64 = .ok (.ifCond .eq 19, 3) := by decide +kernel
theorem d_Pl_leastSet_67 : decode b_Pl_leastSet 67 = .ok (.aload_n 0, 1) := by decide +kernel
theorem d_Pl_leastSet_68 : decode b_Pl_leastSet 68 = .ok (.iload_n 1, 1) := by decide +kernel
theorem d_Pl_leastSet_69 : decode b_Pl_leastSet 69 = .ok (.iload 6, 2) := by decide +kernel
theorem d_Pl_leastSet_71 : decode b_Pl_leastSet 71 = .ok (.invokevirtual 49, 3) := by decide +kernel
theorem d_Pl_leastSet_74 : decode b_Pl_leastSet 74 = .ok (.lload_n 2, 1) := by decide +kernel
theorem d_Pl_leastSet_75 : decode b_Pl_leastSet 75 = .ok (.lcmp, 1) := by decide +kernel
theorem d_Pl_leastSet_76 : decode b_Pl_leastSet 76 = .ok (.ifCond .lt 7, 3) := by decide +kernel
theorem d_Pl_leastSet_79 : decode b_Pl_leastSet 79 = .ok (.iload 6, 2) := by decide +kernel
theorem d_Pl_leastSet_81 : decode b_Pl_leastSet 81 = .ok (.istore 5, 2) := by decide +kernel
theorem d_Pl_leastSet_83 : decode b_Pl_leastSet 83 = .ok (.iinc 6 1, 3) := by decide +kernel
theorem d_Pl_leastSet_86 : decode b_Pl_leastSet 86 = .ok (.goto (-58), 3) := by decide +kernel
theorem d_Pl_leastSet_89 : decode b_Pl_leastSet 89 = .ok (.iload 5, 2) := by decide +kernel
theorem d_Pl_leastSet_91 : decode b_Pl_leastSet 91 = .ok (.ireturn, 1) := by decide +kernel
theorem d_Pl_ownKind_0 : decode b_Pl_ownKind 0 = .ok (.iconst 0, 1) := by decide +kernel
theorem d_Pl_ownKind_1 : decode b_Pl_ownKind 1 = .ok (.istore_n 2, 1) := by decide +kernel
theorem d_Pl_ownKind_2 : decode b_Pl_ownKind 2 = .ok (.iconst 0, 1) := by decide +kernel
theorem d_Pl_ownKind_3 : decode b_Pl_ownKind 3 = .ok (.istore_n 3, 1) := by decide +kernel
theorem d_Pl_ownKind_4 : decode b_Pl_ownKind 4 = .ok (.iload_n 3, 1) := by decide +kernel
theorem d_Pl_ownKind_5 : decode b_Pl_ownKind 5 = .ok (.aload_n 0, 1) := by decide +kernel
theorem d_Pl_ownKind_6 : decode b_Pl_ownKind 6 = .ok (.getfield 19, 3) := by decide +kernel
theorem d_Pl_ownKind_9 : decode b_Pl_ownKind 9 = .ok (.iload_n 1, 1) := by decide +kernel
theorem d_Pl_ownKind_10 : decode b_Pl_ownKind 10 = .ok (.iaload, 1) := by decide +kernel
theorem d_Pl_ownKind_11 : decode b_Pl_ownKind 11 = .ok (.if_icmp .ge 35, 3) := by decide +kernel
theorem d_Pl_ownKind_14 : decode b_Pl_ownKind 14 = .ok (.aload_n 0, 1) := by decide +kernel
theorem d_Pl_ownKind_15 : decode b_Pl_ownKind 15 = .ok (.getfield 22, 3) := by decide +kernel
theorem d_Pl_ownKind_18 : decode b_Pl_ownKind 18 = .ok (.iload_n 1, 1) := by decide +kernel
theorem d_Pl_ownKind_19 : decode b_Pl_ownKind 19 = .ok (.bipush 8, 2) := by decide +kernel
theorem d_Pl_ownKind_21 : decode b_Pl_ownKind 21 = .ok (.imul, 1) := by decide +kernel
theorem d_Pl_ownKind_22 : decode b_Pl_ownKind 22 = .ok (.iload_n 3, 1) := by decide +kernel
theorem d_Pl_ownKind_23 : decode b_Pl_ownKind 23 = .ok (.iadd, 1) := by decide +kernel
theorem d_Pl_ownKind_24 : decode b_Pl_ownKind 24 = .ok (.iaload, 1) := by decide +kernel
theorem d_Pl_ownKind_25 : decode b_Pl_ownKind 25 = .ok (.aload_n 0, 1) := by decide +kernel
theorem d_Pl_ownKind_26 : decode b_Pl_ownKind 26 = .ok (.getfield 15, 3) := by decide +kernel
theorem d_Pl_ownKind_29 : decode b_Pl_ownKind 29 = .ok (.iload_n 1, 1) := by decide +kernel
theorem d_Pl_ownKind_30 : decode b_Pl_ownKind 30 = .ok (.iaload, 1) := by decide +kernel
theorem d_Pl_ownKind_31 : decode b_Pl_ownKind 31 = .ok (.if_icmp .ne 9, 3) := by decide +kernel
theorem d_Pl_ownKind_34 : decode b_Pl_ownKind 34 = .ok (.iload_n 2, 1) := by decide +kernel
theorem d_Pl_ownKind_35 : decode b_Pl_ownKind 35 = .ok (.iconst 1, 1) := by decide +kernel
theorem d_Pl_ownKind_36 : decode b_Pl_ownKind 36 = .ok (.iload_n 3, 1) := by decide +kernel
theorem d_Pl_ownKind_37 : decode b_Pl_ownKind 37 = .ok (.ishl, 1) := by decide +kernel
theorem d_Pl_ownKind_38 : decode b_Pl_ownKind 38 = .ok (.ior, 1) := by decide +kernel
theorem d_Pl_ownKind_39 : decode b_Pl_ownKind 39 = .ok (.istore_n 2, 1) := by decide +kernel
theorem d_Pl_ownKind_40 : decode b_Pl_ownKind 40 = .ok (.iinc 3 1, 3) := by decide +kernel
theorem d_Pl_ownKind_43 : decode b_Pl_ownKind 43 = .ok (.goto (-39), 3) := by decide +kernel
theorem d_Pl_ownKind_46 : decode b_Pl_ownKind 46 = .ok (.iload_n 2, 1) := by decide +kernel
theorem d_Pl_ownKind_47 : decode b_Pl_ownKind 47 = .ok (.ireturn, 1) := by decide +kernel
theorem d_Pl_gramsOfSet_0 : decode b_Pl_gramsOfSet 0 = .ok (.lconst 0, 1) := by decide +kernel
theorem d_Pl_gramsOfSet_1 : decode b_Pl_gramsOfSet 1 = .ok (.lstore_n 3, 1) := by decide +kernel
theorem d_Pl_gramsOfSet_2 : decode b_Pl_gramsOfSet 2 = .ok (.iconst 0, 1) := by decide +kernel
theorem d_Pl_gramsOfSet_3 : decode b_Pl_gramsOfSet 3 = .ok (.istore 5, 2) := by decide +kernel
theorem d_Pl_gramsOfSet_5 : decode b_Pl_gramsOfSet 5 = .ok (.iload 5, 2) := by decide +kernel
theorem d_Pl_gramsOfSet_7 : decode b_Pl_gramsOfSet 7 = .ok (.aload_n 0, 1) := by decide +kernel
theorem d_Pl_gramsOfSet_8 : decode b_Pl_gramsOfSet 8 = .ok (.getfield 19, 3) := by decide +kernel
theorem d_Pl_gramsOfSet_11 : decode b_Pl_gramsOfSet 11 = .ok (.iload_n 1, 1) := by decide +kernel
theorem d_Pl_gramsOfSet_12 : decode b_Pl_gramsOfSet 12 = .ok (.iaload, 1) := by decide +kernel
theorem d_Pl_gramsOfSet_13 : decode b_Pl_gramsOfSet 13 = .ok (.if_icmp .ge 33, 3) := by decide +kernel
theorem d_Pl_gramsOfSet_16 : decode b_Pl_gramsOfSet 16 = .ok (.iload_n 2, 1) := by decide +kernel
theorem d_Pl_gramsOfSet_17 : decode b_Pl_gramsOfSet 17 = .ok (.iconst 1, 1) := by decide +kernel
theorem d_Pl_gramsOfSet_18 : decode b_Pl_gramsOfSet 18 = .ok (.iload 5, 2) := by decide +kernel
theorem d_Pl_gramsOfSet_20 : decode b_Pl_gramsOfSet 20 = .ok (.ishl, 1) := by decide +kernel
theorem d_Pl_gramsOfSet_21 : decode b_Pl_gramsOfSet 21 = .ok (.iand, 1) := by decide +kernel
theorem d_Pl_gramsOfSet_22 : decode b_Pl_gramsOfSet 22 = .ok (.ifCond .eq 18, 3) := by decide +kernel
theorem d_Pl_gramsOfSet_25 : decode b_Pl_gramsOfSet 25 = .ok (.lload_n 3, 1) := by decide +kernel
theorem d_Pl_gramsOfSet_26 : decode b_Pl_gramsOfSet 26 = .ok (.aload_n 0, 1) := by decide +kernel
theorem d_Pl_gramsOfSet_27 : decode b_Pl_gramsOfSet 27 = .ok (.getfield 25, 3) := by decide +kernel
theorem d_Pl_gramsOfSet_30 : decode b_Pl_gramsOfSet 30 = .ok (.iload_n 1, 1) := by decide +kernel
theorem d_Pl_gramsOfSet_31 : decode b_Pl_gramsOfSet 31 = .ok (.bipush 8, 2) := by decide +kernel
theorem d_Pl_gramsOfSet_33 : decode b_Pl_gramsOfSet 33 = .ok (.imul, 1) := by decide +kernel
theorem d_Pl_gramsOfSet_34 : decode b_Pl_gramsOfSet 34 = .ok (.iload 5, 2) := by decide +kernel
theorem d_Pl_gramsOfSet_36 : decode b_Pl_gramsOfSet 36 = .ok (.iadd, 1) := by decide +kernel
theorem d_Pl_gramsOfSet_37 : decode b_Pl_gramsOfSet 37 = .ok (.laload, 1) := by decide +kernel
theorem d_Pl_gramsOfSet_38 : decode b_Pl_gramsOfSet 38 = .ok (.ladd, 1) := by decide +kernel
theorem d_Pl_gramsOfSet_39 : decode b_Pl_gramsOfSet 39 = .ok (.lstore_n 3, 1) := by decide +kernel
theorem d_Pl_gramsOfSet_40 : decode b_Pl_gramsOfSet 40 = .ok (.iinc 5 1, 3) := by decide +kernel
theorem d_Pl_gramsOfSet_43 : decode b_Pl_gramsOfSet 43 = .ok (.goto (-38), 3) := by decide +kernel
theorem d_Pl_gramsOfSet_46 : decode b_Pl_gramsOfSet 46 = .ok (.lload_n 3, 1) := by decide +kernel
theorem d_Pl_gramsOfSet_47 : decode b_Pl_gramsOfSet 47 = .ok (.lreturn, 1) := by decide +kernel
theorem d_Pl_isBefore_0 : decode b_Pl_isBefore 0 = .ok (.iload_n 1, 1) := by decide +kernel
theorem d_Pl_isBefore_1 : decode b_Pl_isBefore 1 = .ok (.invokestatic 67, 3) := by decide +kernel
theorem d_Pl_isBefore_4 : decode b_Pl_isBefore 4 = .ok (.iload_n 0, 1) := by decide +kernel
theorem d_Pl_isBefore_5 : decode b_Pl_isBefore 5 = .ok (.invokestatic 67, 3) := by decide +kernel
theorem d_Pl_isBefore_8 : decode b_Pl_isBefore 8 = .ok (.isub, 1) := by decide +kernel
theorem d_Pl_isBefore_9 : decode b_Pl_isBefore 9 = .ok (.istore_n 2, 1) := by decide +kernel
theorem d_Pl_isBefore_10 : decode b_Pl_isBefore 10 = .ok (.iload_n 0, 1) := by decide +kernel
theorem d_Pl_isBefore_11 : decode b_Pl_isBefore 11 = .ok (.iload_n 1, 1) := by decide +kernel
theorem d_Pl_isBefore_12 : decode b_Pl_isBefore 12 = .ok (.ixor, 1) := by decide +kernel
theorem d_Pl_isBefore_13 : decode b_Pl_isBefore 13 = .ok (.istore_n 3, 1) := by decide +kernel
theorem d_Pl_isBefore_14 : decode b_Pl_isBefore 14 = .ok (.iload_n 3, 1) := by decide +kernel
theorem d_Pl_isBefore_15 : decode b_Pl_isBefore 15 = .ok (.iload_n 3, 1) := by decide +kernel
theorem d_Pl_isBefore_16 : decode b_Pl_isBefore 16 = .ok (.ineg, 1) := by decide +kernel
theorem d_Pl_isBefore_17 : decode b_Pl_isBefore 17 = .ok (.iand, 1) := by decide +kernel
theorem d_Pl_isBefore_18 : decode b_Pl_isBefore 18 = .ok (.istore 4, 2) := by decide +kernel
theorem d_Pl_isBefore_20 : decode b_Pl_isBefore 20 = .ok (.iload_n 2, 1) := by decide +kernel
theorem d_Pl_isBefore_21 : decode b_Pl_isBefore 21 = .ok (.ifCond .gt 14, 3) := by decide +kernel
theorem d_Pl_isBefore_24 : decode b_Pl_isBefore 24 = .ok (.iload_n 2, 1) := by decide +kernel
theorem d_Pl_isBefore_25 : decode b_Pl_isBefore 25 = .ok (.ifCond .ne 14, 3) := by decide +kernel
theorem d_Pl_isBefore_28 : decode b_Pl_isBefore 28 = .ok (.iload_n 0, 1) := by decide +kernel
theorem d_Pl_isBefore_29 : decode b_Pl_isBefore 29 = .ok (.iload 4, 2) := by decide +kernel
theorem d_Pl_isBefore_31 : decode b_Pl_isBefore 31 = .ok (.iand, 1) := by decide +kernel
theorem d_Pl_isBefore_32 : decode b_Pl_isBefore 32 = .ok (.ifCond .eq 7, 3) := by decide +kernel
theorem d_Pl_isBefore_35 : decode b_Pl_isBefore 35 = .ok (.iconst 1, 1) := by decide +kernel
theorem d_Pl_isBefore_36 : decode b_Pl_isBefore 36 = .ok (.goto 4, 3) := by decide +kernel
theorem d_Pl_isBefore_39 : decode b_Pl_isBefore 39 = .ok (.iconst 0, 1) := by decide +kernel
theorem d_Pl_isBefore_40 : decode b_Pl_isBefore 40 = .ok (.ireturn, 1) := by decide +kernel
theorem d_Ri_init_0 : decode b_Ri_init 0 = .ok (.aload_n 0, 1) := by decide +kernel
theorem d_Ri_init_1 : decode b_Ri_init 1 = .ok (.invokespecial 3, 3) := by decide +kernel
theorem d_Ri_init_4 : decode b_Ri_init 4 = .ok (.aload_n 0, 1) := by decide +kernel
theorem d_Ri_init_5 : decode b_Ri_init 5 = .ok (.bipush 10, 2) := by decide +kernel
theorem d_Ri_init_7 : decode b_Ri_init 7 = .ok (.newarray .int, 2) := by decide +kernel
theorem d_Ri_init_9 : decode b_Ri_init 9 = .ok (.putfield 9, 3) := by decide +kernel
theorem d_Ri_init_12 : decode b_Ri_init 12 = .ok (.aload_n 0, 1) := by decide +kernel
theorem d_Ri_init_13 : decode b_Ri_init 13 = .ok (.bipush 30, 2) := by decide +kernel
theorem d_Ri_init_15 : decode b_Ri_init 15 = .ok (.newarray .int, 2) := by decide +kernel
theorem d_Ri_init_17 : decode b_Ri_init 17 = .ok (.putfield 15, 3) := by decide +kernel
theorem d_Ri_init_20 : decode b_Ri_init 20 = .ok (.iconst 0, 1) := by decide +kernel
theorem d_Ri_init_21 : decode b_Ri_init 21 = .ok (.istore_n 1, 1) := by decide +kernel
theorem d_Ri_init_22 : decode b_Ri_init 22 = .ok (.iload_n 1, 1) := by decide +kernel
theorem d_Ri_init_23 : decode b_Ri_init 23 = .ok (.bipush 10, 2) := by decide +kernel
theorem d_Ri_init_25 : decode b_Ri_init 25 = .ok (.if_icmp .ge 18, 3) := by decide +kernel
theorem d_Ri_init_28 : decode b_Ri_init 28 = .ok (.aload_n 0, 1) := by decide +kernel
theorem d_Ri_init_29 : decode b_Ri_init 29 = .ok (.getfield 9, 3) := by decide +kernel
theorem d_Ri_init_32 : decode b_Ri_init 32 = .ok (.iload_n 1, 1) := by decide +kernel
theorem d_Ri_init_33 : decode b_Ri_init 33 = .ok (.sipush 2520, 3) := by decide +kernel
theorem d_Ri_init_36 : decode b_Ri_init 36 = .ok (.iastore, 1) := by decide +kernel
theorem d_Ri_init_37 : decode b_Ri_init 37 = .ok (.iinc 1 1, 3) := by decide +kernel
theorem d_Ri_init_40 : decode b_Ri_init 40 = .ok (.goto (-18), 3) := by decide +kernel
theorem d_Ri_init_43 : decode b_Ri_init 43 = .ok (.return_, 1) := by decide +kernel
theorem d_Ri_set_0 : decode b_Ri_set 0 = .ok (.iload_n 1, 1) := by decide +kernel
theorem d_Ri_set_1 : decode b_Ri_set 1 = .ok (.invokestatic 18, 3) := by decide +kernel
theorem d_Ri_set_4 : decode b_Ri_set 4 = .ok (.ifCond .eq 23, 3) := by decide +kernel
theorem d_Ri_set_7 : decode b_Ri_set 7 = .ok (.iload_n 3, 1) := by decide +kernel
theorem d_Ri_set_8 : decode b_Ri_set 8 = .ok (.iconst 1, 1) := by decide +kernel
theorem d_Ri_set_9 : decode b_Ri_set 9 = .ok (.if_icmp .lt 18, 3) := by decide +kernel
theorem d_Ri_set_12 : decode b_Ri_set 12 = .ok (.iload_n 3, 1) := by decide +kernel
theorem d_Ri_set_13 : decode b_Ri_set 13 = .ok (.bipush 10, 2) := by decide +kernel
theorem d_Ri_set_15 : decode b_Ri_set 15 = .ok (.if_icmp .gt 12, 3) := by decide +kernel
theorem d_Ri_set_18 : decode b_Ri_set 18 = .ok (.iload_n 2, 1) := by decide +kernel
theorem d_Ri_set_19 : decode b_Ri_set 19 = .ok (.ifCond .lt 8, 3) := by decide +kernel
theorem d_Ri_set_22 : decode b_Ri_set 22 = .ok (.iload_n 2, 1) := by decide +kernel
theorem d_Ri_set_23 : decode b_Ri_set 23 = .ok (.iload_n 3, 1) := by decide +kernel
theorem d_Ri_set_24 : decode b_Ri_set 24 = .ok (.if_icmp .le 5, 3) := by decide +kernel
theorem d_Ri_set_27 : decode b_Ri_set 27 = .ok (.iconst 0, 1) := by decide +kernel
theorem d_Ri_set_28 : decode b_Ri_set 28 = .ok (.ireturn, 1) := by decide +kernel
theorem d_Ri_set_29 : decode b_Ri_set 29 = .ok (.aload_n 0, 1) := by decide +kernel
theorem d_Ri_set_30 : decode b_Ri_set 30 = .ok (.getfield 9, 3) := by decide +kernel
theorem d_Ri_set_33 : decode b_Ri_set 33 = .ok (.iload_n 1, 1) := by decide +kernel
theorem d_Ri_set_34 : decode b_Ri_set 34 = .ok (.sipush 2520, 3) := by decide +kernel
theorem d_Ri_set_37 : decode b_Ri_set 37 = .ok (.iload_n 3, 1) := by decide +kernel
theorem d_Ri_set_38 : decode b_Ri_set 38 = .ok (.idiv, 1) := by decide +kernel
theorem d_Ri_set_39 : decode b_Ri_set 39 = .ok (.iload_n 2, 1) := by decide +kernel
theorem d_Ri_set_40 : decode b_Ri_set 40 = .ok (.imul, 1) := by decide +kernel
theorem d_Ri_set_41 : decode b_Ri_set 41 = .ok (.iastore, 1) := by decide +kernel
theorem d_Ri_set_42 : decode b_Ri_set 42 = .ok (.iconst 1, 1) := by decide +kernel
theorem d_Ri_set_43 : decode b_Ri_set 43 = .ok (.ireturn, 1) := by decide +kernel
theorem d_Ri_take_0 : decode b_Ri_take 0 = .ok (.aload 5, 2) := by decide +kernel
theorem d_Ri_take_2 : decode b_Ri_take 2 = .ok (.iload 4, 2) := by decide +kernel
theorem d_Ri_take_4 : decode b_Ri_take 4 = .ok (.invokevirtual 22, 3) := by decide +kernel
theorem d_Ri_take_7 : decode b_Ri_take 7 = .ok (.aload_n 0, 1) := by decide +kernel
theorem d_Ri_take_8 : decode b_Ri_take 8 = .ok (.aload_n 1, 1) := by decide +kernel
theorem d_Ri_take_9 : decode b_Ri_take 9 = .ok (.invokevirtual 28, 3) := by decide +kernel
theorem d_Ri_take_12 : decode b_Ri_take 12 = .ok (.istore 6, 2) := by decide +kernel
theorem d_Ri_take_14 : decode b_Ri_take 14 = .ok (.lload_n 2, 1) := by decide +kernel
theorem d_Ri_take_15 : decode b_Ri_take 15 = .ok (.lstore 7, 2) := by decide +kernel
theorem d_Ri_take_17 : decode b_Ri_take 17 = .ok (.iconst 0, 1) := by decide +kernel
theorem d_Ri_take_18 : decode b_Ri_take 18 = .ok (.istore 9, 2) := by decide +kernel
theorem d_Ri_take_20 : decode b_Ri_take 20 = .ok (.iload 9, 2) := by decide +kernel
theorem d_Ri_take_22 : decode b_Ri_take 22 = .ok (.iload 4, 2) := by decide +kernel
theorem d_Ri_take_24 : decode b_Ri_take 24 = .ok (.if_icmp .ge 80, 3) := by decide +kernel
theorem d_Ri_take_27 : decode b_Ri_take 27 = .ok (.iload 6, 2) := by decide +kernel
theorem d_Ri_take_29 : decode b_Ri_take 29 = .ok (.ifCond .le 75, 3) := by decide +kernel
theorem d_Ri_take_32 : decode b_Ri_take 32 = .ok (.lload 7, 2) := by decide +kernel
theorem d_Ri_take_34 : decode b_Ri_take 34 = .ok (.ldc2_w 32, 3) := by decide +kernel
theorem d_Ri_take_37 : decode b_Ri_take 37 = .ok (.lmul, 1) := by decide +kernel
theorem d_Ri_take_38 : decode b_Ri_take 38 = .ok (.ldc2_w 34, 3) := by decide +kernel
theorem d_Ri_take_41 : decode b_Ri_take 41 = .ok (.ladd, 1) := by decide +kernel
theorem d_Ri_take_42 : decode b_Ri_take 42 = .ok (.lstore 7, 2) := by decide +kernel
theorem d_Ri_take_44 : decode b_Ri_take 44 = .ok (.aload_n 0, 1) := by decide +kernel
theorem d_Ri_take_45 : decode b_Ri_take 45 = .ok (.aload_n 1, 1) := by decide +kernel
theorem d_Ri_take_46 : decode b_Ri_take 46 = .ok (.getfield 36, 3) := by decide +kernel
theorem d_Ri_take_49 : decode b_Ri_take 49 = .ok (.lload 7, 2) := by decide +kernel
theorem d_Ri_take_51 : decode b_Ri_take 51 = .ok (.bipush 33, 2) := by decide +kernel
theorem d_Ri_take_53 : decode b_Ri_take 53 = .ok (.lushr, 1) := by decide +kernel
theorem d_Ri_take_54 : decode b_Ri_take 54 = .ok (.iload 6, 2) := by decide +kernel
theorem d_Ri_take_56 : decode b_Ri_take 56 = .ok (.i2l, 1) := by decide +kernel
theorem d_Ri_take_57 : decode b_Ri_take 57 = .ok (.lrem, 1) := by decide +kernel
theorem d_Ri_take_58 : decode b_Ri_take 58 = .ok (.l2i, 1) := by decide +kernel
theorem d_Ri_take_59 : decode b_Ri_take 59 = .ok (.invokevirtual 42, 3) := by decide +kernel
theorem d_Ri_take_62 : decode b_Ri_take 62 = .ok (.istore 10, 2) := by decide +kernel
theorem d_Ri_take_64 : decode b_Ri_take 64 = .ok (.iload 10, 2) := by decide +kernel
theorem d_Ri_take_66 : decode b_Ri_take 66 = .ok (.iconst (-1), 1) := by decide +kernel
theorem d_Ri_take_67 : decode b_Ri_take 67 = .ok (.if_icmp .ne 4, 3) := by decide +kernel
theorem d_Ri_take_70 : decode b_Ri_take 70 = .ok (.return_, 1) := by decide +kernel
theorem d_Ri_take_71 : decode b_Ri_take 71 = .ok (.aload 5, 2) := by decide +kernel
theorem d_Ri_take_73 : decode b_Ri_take 73 = .ok (.iload 10, 2) := by decide +kernel
theorem d_Ri_take_75 : decode b_Ri_take 75 = .ok (.invokevirtual 46, 3) := by decide +kernel
theorem d_Ri_take_78 : decode b_Ri_take 78 = .ok (.iload 6, 2) := by decide +kernel
theorem d_Ri_take_80 : decode b_Ri_take 80 = .ok (.aload_n 0, 1) := by decide +kernel
theorem d_Ri_take_81 : decode b_Ri_take 81 = .ok (.getfield 15, 3) := by decide +kernel
theorem d_Ri_take_84 : decode b_Ri_take 84 = .ok (.iload 10, 2) := by decide +kernel
theorem d_Ri_take_86 : decode b_Ri_take 86 = .ok (.iaload, 1) := by decide +kernel
theorem d_Ri_take_87 : decode b_Ri_take 87 = .ok (.isub, 1) := by decide +kernel
theorem d_Ri_take_88 : decode b_Ri_take 88 = .ok (.istore 6, 2) := by decide +kernel
theorem d_Ri_take_90 : decode b_Ri_take 90 = .ok (.aload_n 0, 1) := by decide +kernel
theorem d_Ri_take_91 : decode b_Ri_take 91 = .ok (.getfield 15, 3) := by decide +kernel
theorem d_Ri_take_94 : decode b_Ri_take 94 = .ok (.iload 10, 2) := by decide +kernel
theorem d_Ri_take_96 : decode b_Ri_take 96 = .ok (.iconst 0, 1) := by decide +kernel
theorem d_Ri_take_97 : decode b_Ri_take 97 = .ok (.iastore, 1) := by decide +kernel
theorem d_Ri_take_98 : decode b_Ri_take 98 = .ok (.iinc 9 1, 3) := by decide +kernel
theorem d_Ri_take_101 : decode b_Ri_take 101 = .ok (.goto (-81), 3) := by decide +kernel
theorem d_Ri_take_104 : decode b_Ri_take 104 = .ok (.return_, 1) := by decide +kernel
theorem d_Ri_weighAll_0 : decode b_Ri_weighAll 0 = .ok (.iconst 0, 1) := by decide +kernel
theorem d_Ri_weighAll_1 : decode b_Ri_weighAll 1 = .ok (.istore_n 2, 1) := by decide +kernel
theorem d_Ri_weighAll_2 : decode b_Ri_weighAll 2 = .ok (.iconst 0, 1) := by decide +kernel
theorem d_Ri_weighAll_3 : decode b_Ri_weighAll 3 = .ok (.istore_n 3, 1) := by decide +kernel
theorem d_Ri_weighAll_4 : decode b_Ri_weighAll 4 = .ok (.iload_n 3, 1) := by decide +kernel
theorem d_Ri_weighAll_5 : decode b_Ri_weighAll 5 = .ok (.aload_n 1, 1) := by decide +kernel
theorem d_Ri_weighAll_6 : decode b_Ri_weighAll 6 = .ok (.getfield 36, 3) := by decide +kernel
theorem d_Ri_weighAll_9 : decode b_Ri_weighAll 9 = .ok (.if_icmp .ge 35, 3) := by decide +kernel
theorem d_Ri_weighAll_12 : decode b_Ri_weighAll 12 = .ok (.aload_n 0, 1) := by decide +kernel
theorem d_Ri_weighAll_13 : decode b_Ri_weighAll 13 = .ok (.getfield 15, 3) := by decide +kernel
theorem d_Ri_weighAll_16 : decode b_Ri_weighAll 16 = .ok (.iload_n 3, 1) := by decide +kernel
theorem d_Ri_weighAll_17 : decode b_Ri_weighAll 17 = .ok (.aload_n 0, 1) := by decide +kernel
theorem d_Ri_weighAll_18 : decode b_Ri_weighAll 18 = .ok (.getfield 9, 3) := by decide +kernel
theorem d_Ri_weighAll_21 : decode b_Ri_weighAll 21 = .ok (.aload_n 1, 1) := by decide +kernel
theorem d_Ri_weighAll_22 : decode b_Ri_weighAll 22 = .ok (.getfield 49, 3) := by decide +kernel
theorem d_Ri_weighAll_25 : decode b_Ri_weighAll 25 = .ok (.iload_n 3, 1) := by decide +kernel
theorem d_Ri_weighAll_26 : decode b_Ri_weighAll 26 = .ok (.iaload, 1) := by decide +kernel
theorem d_Ri_weighAll_27 : decode b_Ri_weighAll 27 = .ok (.iaload, 1) := by decide +kernel
theorem d_Ri_weighAll_28 : decode b_Ri_weighAll 28 = .ok (.iastore, 1) := by decide +kernel
theorem d_Ri_weighAll_29 : decode b_Ri_weighAll 29 = .ok (.iload_n 2, 1) := by decide +kernel
theorem d_Ri_weighAll_30 : decode b_Ri_weighAll 30 = .ok (.aload_n 0, 1) := by decide +kernel
theorem d_Ri_weighAll_31 : decode b_Ri_weighAll 31 = .ok (.getfield 15, 3) := by decide +kernel
theorem d_Ri_weighAll_34 : decode b_Ri_weighAll 34 = .ok (.iload_n 3, 1) := by decide +kernel
theorem d_Ri_weighAll_35 : decode b_Ri_weighAll 35 = .ok (.iaload, 1) := by decide +kernel
theorem d_Ri_weighAll_36 : decode b_Ri_weighAll 36 = .ok (.iadd, 1) := by decide +kernel
theorem d_Ri_weighAll_37 : decode b_Ri_weighAll 37 = .ok (.istore_n 2, 1) := by decide +kernel
theorem d_Ri_weighAll_38 : decode b_Ri_weighAll 38 = .ok (.iinc 3 1, 3) := by decide +kernel
theorem d_Ri_weighAll_41 : decode b_Ri_weighAll 41 = .ok (.goto (-37), 3) := by decide +kernel
theorem d_Ri_weighAll_44 : decode b_Ri_weighAll 44 = .ok (.iload_n 2, 1) := by decide +kernel
theorem d_Ri_weighAll_45 : decode b_Ri_weighAll 45 = .ok (.ireturn, 1) := by decide +kernel
theorem d_Ri_pageOver_0 : decode b_Ri_pageOver 0 = .ok (.iconst 0, 1) := by decide +kernel
theorem d_Ri_pageOver_1 : decode b_Ri_pageOver 1 = .ok (.istore_n 3, 1) := by decide +kernel
theorem d_Ri_pageOver_2 : decode b_Ri_pageOver 2 = .ok (.iconst 0, 1) := by decide +kernel
theorem d_Ri_pageOver_3 : decode b_Ri_pageOver 3 = .ok (.istore 4, 2) := by decide +kernel
theorem d_Ri_pageOver_5 : decode b_Ri_pageOver 5 = .ok (.iload 4, 2) := by decide +kernel
theorem d_Ri_pageOver_7 : decode b_Ri_pageOver 7 = .ok (.iload_n 1, 1) := by decide +kernel
theorem d_Ri_pageOver_8 : decode b_Ri_pageOver 8 = .ok (.if_icmp .ge 34, 3) := by decide +kernel
theorem d_Ri_pageOver_11 : decode b_Ri_pageOver 11 = .ok (.iload 4, 2) := by decide +kernel
theorem d_Ri_pageOver_13 : decode b_Ri_pageOver 13 = .ok (.bipush 30, 2) := by decide +kernel
theorem d_Ri_pageOver_15 : decode b_Ri_pageOver 15 = .ok (.if_icmp .ge 27, 3) := by decide +kernel
theorem d_Ri_pageOver_18 : decode b_Ri_pageOver 18 = .ok (.iload_n 3, 1) := by decide +kernel
theorem d_Ri_pageOver_19 : decode b_Ri_pageOver 19 = .ok (.aload_n 0, 1) := by decide +kernel
theorem d_Ri_pageOver_20 : decode b_Ri_pageOver 20 = .ok (.getfield 15, 3) := by decide +kernel
theorem d_Ri_pageOver_23 : decode b_Ri_pageOver 23 = .ok (.iload 4, 2) := by decide +kernel
theorem d_Ri_pageOver_25 : decode b_Ri_pageOver 25 = .ok (.iaload, 1) := by decide +kernel
theorem d_Ri_pageOver_26 : decode b_Ri_pageOver 26 = .ok (.iadd, 1) := by decide +kernel
theorem d_Ri_pageOver_27 : decode b_Ri_pageOver 27 = .ok (.istore_n 3, 1) := by decide +kernel
theorem d_Ri_pageOver_28 : decode b_Ri_pageOver 28 = .ok (.iload_n 3, 1) := by decide +kernel
theorem d_Ri_pageOver_29 : decode b_Ri_pageOver 29 = .ok (.iload_n 2, 1) := by decide +kernel
theorem d_Ri_pageOver_30 : decode b_Ri_pageOver 30 = .ok (.if_icmp .le 6, 3) := by decide +kernel
theorem d_Ri_pageOver_33 : decode b_Ri_pageOver 33 = .ok (.iload 4, 2) := by decide +kernel
theorem d_Ri_pageOver_35 : decode b_Ri_pageOver 35 = .ok (.ireturn, 1) := by decide +kernel
theorem d_Ri_pageOver_36 : decode b_Ri_pageOver 36 = .ok (.iinc 4 1, 3) := by decide +kernel
theorem d_Ri_pageOver_39 : decode b_Ri_pageOver 39 = .ok (.goto (-34), 3) := by decide +kernel
theorem d_Ri_pageOver_42 : decode b_Ri_pageOver 42 = .ok (.iconst (-1), 1) := by decide +kernel
theorem d_Ri_pageOver_43 : decode b_Ri_pageOver 43 = .ok (.ireturn, 1) := by decide +kernel
theorem d_Ro_init_0 : decode b_Ro_init 0 = .ok (.aload_n 0, 1) := by decide +kernel
theorem d_Ro_init_1 : decode b_Ro_init 1 = .ok (.invokespecial 3, 3) := by decide +kernel
theorem d_Ro_init_4 : decode b_Ro_init 4 = .ok (.aload_n 0, 1) := by decide +kernel
theorem d_Ro_init_5 : decode b_Ro_init 5 = .ok (.bipush 30, 2) := by decide +kernel
theorem d_Ro_init_7 : decode b_Ro_init 7 = .ok (.newarray .int, 2) := by decide +kernel
theorem d_Ro_init_9 : decode b_Ro_init 9 = .ok (.putfield 9, 3) := by decide +kernel
theorem d_Ro_init_12 : decode b_Ro_init 12 = .ok (.aload_n 0, 1) := by decide +kernel
theorem d_Ro_init_13 : decode b_Ro_init 13 = .ok (.iconst 0, 1) := by decide +kernel
theorem d_Ro_init_14 : decode b_Ro_init 14 = .ok (.putfield 15, 3) := by decide +kernel
theorem d_Ro_init_17 : decode b_Ro_init 17 = .ok (.aload_n 0, 1) := by decide +kernel
theorem d_Ro_init_18 : decode b_Ro_init 18 = .ok (.iconst 0, 1) := by decide +kernel
theorem d_Ro_init_19 : decode b_Ro_init 19 = .ok (.putfield 19, 3) := by decide +kernel
theorem d_Ro_init_22 : decode b_Ro_init 22 = .ok (.return_, 1) := by decide +kernel
theorem d_Ro_begin_0 : decode b_Ro_begin 0 = .ok (.aload_n 0, 1) := by decide +kernel
theorem d_Ro_begin_1 : decode b_Ro_begin 1 = .ok (.iconst 0, 1) := by decide +kernel
theorem d_Ro_begin_2 : decode b_Ro_begin 2 = .ok (.putfield 15, 3) := by decide +kernel
theorem d_Ro_begin_5 : decode b_Ro_begin 5 = .ok (.aload_n 0, 1) := by decide +kernel
theorem d_Ro_begin_6 : decode b_Ro_begin 6 = .ok (.iload_n 1, 1) := by decide +kernel
theorem d_Ro_begin_7 : decode b_Ro_begin 7 = .ok (.putfield 19, 3) := by decide +kernel
theorem d_Ro_begin_10 : decode b_Ro_begin 10 = .ok (.return_, 1) := by decide +kernel
theorem d_Ro_append_0 : decode b_Ro_append 0 = .ok (.aload_n 0, 1) := by decide +kernel
theorem d_Ro_append_1 : decode b_Ro_append 1 = .ok (.getfield 15, 3) := by decide +kernel
theorem d_Ro_append_4 : decode b_Ro_append 4 = .ok (.bipush 30, 2) := by decide +kernel
theorem d_Ro_append_6 : decode b_Ro_append 6 = .ok (.if_icmp .ge 23, 3) := by decide +kernel
theorem d_Ro_append_9 : decode b_Ro_append 9 = .ok (.aload_n 0, 1) := by decide +kernel
theorem d_Ro_append_10 : decode b_Ro_append 10 = .ok (.getfield 9, 3) := by decide +kernel
theorem d_Ro_append_13 : decode b_Ro_append 13 = .ok (.aload_n 0, 1) := by decide +kernel
theorem d_Ro_append_14 : decode b_Ro_append 14 = .ok (.getfield 15, 3) := by decide +kernel
theorem d_Ro_append_17 : decode b_Ro_append 17 = .ok (.iload_n 1, 1) := by decide +kernel
theorem d_Ro_append_18 : decode b_Ro_append 18 = .ok (.iastore, 1) := by decide +kernel
theorem d_Ro_append_19 : decode b_Ro_append 19 = .ok (.aload_n 0, 1) := by decide +kernel
theorem d_Ro_append_20 : decode b_Ro_append 20 = .ok (.dup, 1) := by decide +kernel
theorem d_Ro_append_21 : decode b_Ro_append 21 = .ok (.getfield 15, 3) := by decide +kernel
theorem d_Ro_append_24 : decode b_Ro_append 24 = .ok (.iconst 1, 1) := by decide +kernel
theorem d_Ro_append_25 : decode b_Ro_append 25 = .ok (.iadd, 1) := by decide +kernel
theorem d_Ro_append_26 : decode b_Ro_append 26 = .ok (.putfield 15, 3) := by decide +kernel
theorem d_Ro_append_29 : decode b_Ro_append 29 = .ok (.return_, 1) := by decide +kernel
theorem d_Ro_at_0 : decode b_Ro_at 0 = .ok (.iload_n 1, 1) := by decide +kernel
theorem d_Ro_at_1 : decode b_Ro_at 1 = .ok (.ifCond .lt 20, 3) := by decide +kernel
theorem d_Ro_at_4 : decode b_Ro_at 4 = .ok (.iload_n 1, 1) := by decide +kernel
theorem d_Ro_at_5 : decode b_Ro_at 5 = .ok (.aload_n 0, 1) := by decide +kernel
theorem d_Ro_at_6 : decode b_Ro_at 6 = .ok (.getfield 15, 3) := by decide +kernel
theorem d_Ro_at_9 : decode b_Ro_at 9 = .ok (.if_icmp .ge 12, 3) := by decide +kernel
theorem d_Ro_at_12 : decode b_Ro_at 12 = .ok (.aload_n 0, 1) := by decide +kernel
theorem d_Ro_at_13 : decode b_Ro_at 13 = .ok (.getfield 9, 3) := by decide +kernel
theorem d_Ro_at_16 : decode b_Ro_at 16 = .ok (.iload_n 1, 1) := by decide +kernel
theorem d_Ro_at_17 : decode b_Ro_at 17 = .ok (.iaload, 1) := by decide +kernel
theorem d_Ro_at_18 : decode b_Ro_at 18 = .ok (.goto 4, 3) := by decide +kernel
theorem d_Ro_at_21 : decode b_Ro_at 21 = .ok (.iconst (-1), 1) := by decide +kernel
theorem d_Ro_at_22 : decode b_Ro_at 22 = .ok (.ireturn, 1) := by decide +kernel
theorem d_Ro_equalTo_0 : decode b_Ro_equalTo 0 = .ok (.aload_n 0, 1) := by decide +kernel
theorem d_Ro_equalTo_1 : decode b_Ro_equalTo 1 = .ok (.getfield 15, 3) := by decide +kernel
theorem d_Ro_equalTo_4 : decode b_Ro_equalTo 4 = .ok (.aload_n 1, 1) := by decide +kernel
theorem d_Ro_equalTo_5 : decode b_Ro_equalTo 5 = .ok (.getfield 15, 3) := by decide +kernel
theorem d_Ro_equalTo_8 : decode b_Ro_equalTo 8 = .ok (.if_icmp .eq 5, 3) := by decide +kernel
theorem d_Ro_equalTo_11 : decode b_Ro_equalTo 11 = .ok (.iconst 0, 1) := by decide +kernel
theorem d_Ro_equalTo_12 : decode b_Ro_equalTo 12 = .ok (.ireturn, 1) := by decide +kernel
theorem d_Ro_equalTo_13 : decode b_Ro_equalTo 13 = .ok (.iconst 0, 1) := by decide +kernel
theorem d_Ro_equalTo_14 : decode b_Ro_equalTo 14 = .ok (.istore_n 2, 1) := by decide +kernel
theorem d_Ro_equalTo_15 : decode b_Ro_equalTo 15 = .ok (.iload_n 2, 1) := by decide +kernel
theorem d_Ro_equalTo_16 : decode b_Ro_equalTo 16 = .ok (.aload_n 0, 1) := by decide +kernel
theorem d_Ro_equalTo_17 : decode b_Ro_equalTo 17 = .ok (.getfield 15, 3) := by decide +kernel
theorem d_Ro_equalTo_20 : decode b_Ro_equalTo 20 = .ok (.if_icmp .ge 26, 3) := by decide +kernel
theorem d_Ro_equalTo_23 : decode b_Ro_equalTo 23 = .ok (.aload_n 0, 1) := by decide +kernel
theorem d_Ro_equalTo_24 : decode b_Ro_equalTo 24 = .ok (.getfield 9, 3) := by decide +kernel
theorem d_Ro_equalTo_27 : decode b_Ro_equalTo 27 = .ok (.iload_n 2, 1) := by decide +kernel
theorem d_Ro_equalTo_28 : decode b_Ro_equalTo 28 = .ok (.iaload, 1) := by decide +kernel
theorem d_Ro_equalTo_29 : decode b_Ro_equalTo 29 = .ok (.aload_n 1, 1) := by decide +kernel
theorem d_Ro_equalTo_30 : decode b_Ro_equalTo 30 = .ok (.getfield 9, 3) := by decide +kernel
theorem d_Ro_equalTo_33 : decode b_Ro_equalTo 33 = .ok (.iload_n 2, 1) := by decide +kernel
theorem d_Ro_equalTo_34 : decode b_Ro_equalTo 34 = .ok (.iaload, 1) := by decide +kernel
theorem d_Ro_equalTo_35 : decode b_Ro_equalTo 35 = .ok (.if_icmp .eq 5, 3) := by decide +kernel
theorem d_Ro_equalTo_38 : decode b_Ro_equalTo 38 = .ok (.iconst 0, 1) := by decide +kernel
theorem d_Ro_equalTo_39 : decode b_Ro_equalTo 39 = .ok (.ireturn, 1) := by decide +kernel
theorem d_Ro_equalTo_40 : decode b_Ro_equalTo 40 = .ok (.iinc 2 1, 3) := by decide +kernel
theorem d_Ro_equalTo_43 : decode b_Ro_equalTo 43 = .ok (.goto (-28), 3) := by decide +kernel
theorem d_Ro_equalTo_46 : decode b_Ro_equalTo 46 = .ok (.iconst 1, 1) := by decide +kernel
theorem d_Ro_equalTo_47 : decode b_Ro_equalTo 47 = .ok (.ireturn, 1) := by decide +kernel
theorem d_Wa_init_0 : decode b_Wa_init 0 = .ok (.aload_n 0, 1) := by decide +kernel
theorem d_Wa_init_1 : decode b_Wa_init 1 = .ok (.invokespecial 3, 3) := by decide +kernel
theorem d_Wa_init_4 : decode b_Wa_init 4 = .ok (.aload_n 0, 1) := by decide +kernel
theorem d_Wa_init_5 : decode b_Wa_init 5 = .ok (.bipush 30, 2) := by decide +kernel
theorem d_Wa_init_7 : decode b_Wa_init 7 = .ok (.newarray .long, 2) := by decide +kernel
theorem d_Wa_init_9 : decode b_Wa_init 9 = .ok (.putfield 9, 3) := by decide +kernel
theorem d_Wa_init_12 : decode b_Wa_init 12 = .ok (.return_, 1) := by decide +kernel
theorem d_Wa_most_0 : decode b_Wa_most 0 = .ok (.aload_n 0, 1) := by decide +kernel
theorem d_Wa_most_1 : decode b_Wa_most 1 = .ok (.aload_n 1, 1) := by decide +kernel
theorem d_Wa_most_2 : decode b_Wa_most 2 = .ok (.iload_n 2, 1) := by decide +kernel
theorem d_Wa_most_3 : decode b_Wa_most 3 = .ok (.invokevirtual 15, 3) := by decide +kernel
theorem d_Wa_most_6 : decode b_Wa_most 6 = .ok (.istore 4, 2) := by decide +kernel
theorem d_Wa_most_8 : decode b_Wa_most 8 = .ok (.iload_n 3, 1) := by decide +kernel
theorem d_Wa_most_9 : decode b_Wa_most 9 = .ok (.i2l, 1) := by decide +kernel
theorem d_Wa_most_10 : decode b_Wa_most 10 = .ok (.lstore 5, 2) := by decide +kernel
theorem d_Wa_most_12 : decode b_Wa_most 12 = .ok (.iconst 0, 1) := by decide +kernel
theorem d_Wa_most_13 : decode b_Wa_most 13 = .ok (.istore 7, 2) := by decide +kernel
theorem d_Wa_most_15 : decode b_Wa_most 15 = .ok (.iconst 0, 1) := by decide +kernel
theorem d_Wa_most_16 : decode b_Wa_most 16 = .ok (.istore 8, 2) := by decide +kernel
theorem d_Wa_most_18 : decode b_Wa_most 18 = .ok (.iload 8, 2) := by decide +kernel
theorem d_Wa_most_20 : decode b_Wa_most 20 = .ok (.iload 4, 2) := by decide +kernel
theorem d_Wa_most_22 : decode b_Wa_most 22 = .ok (.if_icmp .ge 37, 3) := by decide +kernel
theorem d_Wa_most_25 : decode b_Wa_most 25 = .ok (.aload_n 0, 1) := by decide +kernel
theorem d_Wa_most_26 : decode b_Wa_most 26 = .ok (.getfield 9, 3) := by decide +kernel
theorem d_Wa_most_29 : decode b_Wa_most 29 = .ok (.iload 8, 2) := by decide +kernel
theorem d_Wa_most_31 : decode b_Wa_most 31 = .ok (.laload, 1) := by decide +kernel
theorem d_Wa_most_32 : decode b_Wa_most 32 = .ok (.lload 5, 2) := by decide +kernel
theorem d_Wa_most_34 : decode b_Wa_most 34 = .ok (.lcmp, 1) := by decide +kernel
theorem d_Wa_most_35 : decode b_Wa_most 35 = .ok (.ifCond .gt 24, 3) := by decide +kernel
theorem d_Wa_most_38 : decode b_Wa_most 38 = .ok (.lload 5, 2) := by decide +kernel
theorem d_Wa_most_40 : decode b_Wa_most 40 = .ok (.aload_n 0, 1) := by decide +kernel
theorem d_Wa_most_41 : decode b_Wa_most 41 = .ok (.getfield 9, 3) := by decide +kernel
theorem d_Wa_most_44 : decode b_Wa_most 44 = .ok (.iload 8, 2) := by decide +kernel
theorem d_Wa_most_46 : decode b_Wa_most 46 = .ok (.laload, 1) := by decide +kernel
theorem d_Wa_most_47 : decode b_Wa_most 47 = .ok (.lsub, 1) := by decide +kernel
theorem d_Wa_most_48 : decode b_Wa_most 48 = .ok (.lstore 5, 2) := by decide +kernel
theorem d_Wa_most_50 : decode b_Wa_most 50 = .ok (.iinc 7 1, 3) := by decide +kernel
theorem d_Wa_most_53 : decode b_Wa_most 53 = .ok (.iinc 8 1, 3) := by decide +kernel
theorem d_Wa_most_56 : decode b_Wa_most 56 = .ok (.goto (-38), 3) := by decide +kernel
theorem d_Wa_most_59 : decode b_Wa_most 59 = .ok (.iload 7, 2) := by decide +kernel
theorem d_Wa_most_61 : decode b_Wa_most 61 = .ok (.ireturn, 1) := by decide +kernel
theorem d_Wa_sortMinutes_0 : decode b_Wa_sortMinutes 0 = .ok (.iconst 0, 1) := by decide +kernel
theorem d_Wa_sortMinutes_1 : decode b_Wa_sortMinutes 1 = .ok (.istore_n 3, 1) := by decide +kernel
theorem d_Wa_sortMinutes_2 : decode b_Wa_sortMinutes 2 = .ok (.iconst 0, 1) := by decide +kernel
theorem d_Wa_sortMinutes_3 : decode b_Wa_sortMinutes 3 = .ok (.istore 4, 2) := by decide +kernel
theorem d_Wa_sortMinutes_5 : decode b_Wa_sortMinutes 5 = .ok (.iload 4, 2) := by decide +kernel
theorem d_Wa_sortMinutes_7 : decode b_Wa_sortMinutes 7 = .ok (.aload_n 1, 1) := by decide +kernel
theorem d_Wa_sortMinutes_8 : decode b_Wa_sortMinutes 8 = .ok (.getfield 19, 3) := by decide +kernel
theorem d_Wa_sortMinutes_11 : decode b_Wa_sortMinutes 11 = .ok (.if_icmp .ge 49, 3) := by decide +kernel
theorem d_Wa_sortMinutes_14 : decode b_Wa_sortMinutes 14 = .ok (.aload_n 1, 1) := by decide +kernel
theorem d_Wa_sortMinutes_15 : decode b_Wa_sortMinutes 15 = .ok (.getfield 25, 3) := by decide +kernel
theorem d_Wa_sortMinutes_18 : decode b_Wa_sortMinutes 18 = .ok (.iload 4, 2) := by decide +kernel
theorem d_Wa_sortMinutes_20 : decode b_Wa_sortMinutes 20 = .ok (.iaload, 1) := by decide +kernel
theorem d_Wa_sortMinutes_21 : decode b_Wa_sortMinutes 21 = .ok (.iload_n 2, 1) := by decide +kernel
theorem d_Wa_sortMinutes_22 : decode b_Wa_sortMinutes 22 = .ok (.if_icmp .ne 32, 3) := by decide +kernel
theorem d_Wa_sortMinutes_25 : decode b_Wa_sortMinutes 25 = .ok (.aload_n 0, 1) := by decide +kernel
theorem d_Wa_sortMinutes_26 : decode b_Wa_sortMinutes 26 = .ok (.iload_n 3, 1) := by decide +kernel
theorem d_Wa_sortMinutes_27 : decode b_Wa_sortMinutes 27 = .ok (.ldc2_w 29, 3) := by decide +kernel
theorem d_Wa_sortMinutes_30 : decode b_Wa_sortMinutes 30 = .ok (.aload_n 1, 1) := by decide +kernel
theorem d_Wa_sortMinutes_31 : decode b_Wa_sortMinutes 31 = .ok (.getfield 31, 3) := by decide +kernel
theorem d_Wa_sortMinutes_34 : decode b_Wa_sortMinutes 34 = .ok (.iload 4, 2) := by decide +kernel
theorem d_Wa_sortMinutes_36 : decode b_Wa_sortMinutes 36 = .ok (.laload, 1) := by decide +kernel
theorem d_Wa_sortMinutes_37 : decode b_Wa_sortMinutes 37 = .ok (.ldc2_w 34, 3) := by decide +kernel
theorem d_Wa_sortMinutes_40 : decode b_Wa_sortMinutes 40 = .ok (.ladd, 1) := by decide +kernel
theorem d_Wa_sortMinutes_41 : decode b_Wa_sortMinutes 41 = .ok (.lconst 1, 1) := by decide +kernel
theorem d_Wa_sortMinutes_42 : decode b_Wa_sortMinutes 42 = .ok (.lsub, 1) := by decide +kernel
theorem d_Wa_sortMinutes_43 : decode b_Wa_sortMinutes 43 = .ok (.ldc2_w 34, 3) := by decide +kernel
theorem d_Wa_sortMinutes_46 : decode b_Wa_sortMinutes 46 = .ok (.ldiv, 1) := by decide +kernel
theorem d_Wa_sortMinutes_47 : decode b_Wa_sortMinutes 47 = .ok (.ladd, 1) := by decide +kernel
theorem d_Wa_sortMinutes_48 : decode b_Wa_sortMinutes 48 = .ok (.invokevirtual 36, 3) := by decide +kernel
theorem d_Wa_sortMinutes_51 : decode b_Wa_sortMinutes 51 = .ok (.iinc 3 1, 3) := by decide +kernel
theorem d_Wa_sortMinutes_54 : decode b_Wa_sortMinutes 54 = .ok (.iinc 4 1, 3) := by decide +kernel
theorem d_Wa_sortMinutes_57 : decode b_Wa_sortMinutes 57 = .ok (.goto (-52), 3) := by decide +kernel
theorem d_Wa_sortMinutes_60 : decode b_Wa_sortMinutes 60 = .ok (.iload_n 3, 1) := by decide +kernel
theorem d_Wa_sortMinutes_61 : decode b_Wa_sortMinutes 61 = .ok (.ireturn, 1) := by decide +kernel
theorem d_Wa_insert_0 : decode b_Wa_insert 0 = .ok (.iload_n 1, 1) := by decide +kernel
theorem d_Wa_insert_1 : decode b_Wa_insert 1 = .ok (.istore 4, 2) := by decide +kernel
theorem d_Wa_insert_3 : decode b_Wa_insert 3 = .ok (.iload 4, 2) := by decide +kernel
theorem d_Wa_insert_5 : decode b_Wa_insert 5 = .ok (.ifCond .le 39, 3) := by decide +kernel
theorem d_Wa_insert_8 : decode b_Wa_insert 8 = .ok (.aload_n 0, 1) := by decide +kernel
theorem d_Wa_insert_9 : decode b_Wa_insert 9 = .ok (.getfield 9, 3) := by decide +kernel
theorem d_Wa_insert_12 : decode b_Wa_insert 12 = .ok (.iload 4, 2) := by decide +kernel
theorem d_Wa_insert_14 : decode b_Wa_insert 14 = .ok (.iconst 1, 1) := by decide +kernel
theorem d_Wa_insert_15 : decode b_Wa_insert 15 = .ok (.isub, 1) := by decide +kernel
theorem d_Wa_insert_16 : decode b_Wa_insert 16 = .ok (.laload, 1) := by decide +kernel
theorem d_Wa_insert_17 : decode b_Wa_insert 17 = .ok (.lload_n 2, 1) := by decide +kernel
theorem d_Wa_insert_18 : decode b_Wa_insert 18 = .ok (.lcmp, 1) := by decide +kernel
theorem d_Wa_insert_19 : decode b_Wa_insert 19 = .ok (.ifCond .le 25, 3) := by decide +kernel
theorem d_Wa_insert_22 : decode b_Wa_insert 22 = .ok (.aload_n 0, 1) := by decide +kernel
theorem d_Wa_insert_23 : decode b_Wa_insert 23 = .ok (.getfield 9, 3) := by decide +kernel
theorem d_Wa_insert_26 : decode b_Wa_insert 26 = .ok (.iload 4, 2) := by decide +kernel
theorem d_Wa_insert_28 : decode b_Wa_insert 28 = .ok (.aload_n 0, 1) := by decide +kernel
theorem d_Wa_insert_29 : decode b_Wa_insert 29 = .ok (.getfield 9, 3) := by decide +kernel
theorem d_Wa_insert_32 : decode b_Wa_insert 32 = .ok (.iload 4, 2) := by decide +kernel
theorem d_Wa_insert_34 : decode b_Wa_insert 34 = .ok (.iconst 1, 1) := by decide +kernel
theorem d_Wa_insert_35 : decode b_Wa_insert 35 = .ok (.isub, 1) := by decide +kernel
theorem d_Wa_insert_36 : decode b_Wa_insert 36 = .ok (.laload, 1) := by decide +kernel
theorem d_Wa_insert_37 : decode b_Wa_insert 37 = .ok (.lastore, 1) := by decide +kernel
theorem d_Wa_insert_38 : decode b_Wa_insert 38 = .ok (.iinc 4 (-1), 3) := by decide +kernel
theorem d_Wa_insert_41 : decode b_Wa_insert 41 = .ok (.goto (-38), 3) := by decide +kernel
theorem d_Wa_insert_44 : decode b_Wa_insert 44 = .ok (.aload_n 0, 1) := by decide +kernel
theorem d_Wa_insert_45 : decode b_Wa_insert 45 = .ok (.getfield 9, 3) := by decide +kernel
theorem d_Wa_insert_48 : decode b_Wa_insert 48 = .ok (.iload 4, 2) := by decide +kernel
theorem d_Wa_insert_50 : decode b_Wa_insert 50 = .ok (.lload_n 2, 1) := by decide +kernel
theorem d_Wa_insert_51 : decode b_Wa_insert 51 = .ok (.lastore, 1) := by decide +kernel
theorem d_Wa_insert_52 : decode b_Wa_insert 52 = .ok (.return_, 1) := by decide +kernel
theorem d_In_bitCount_0 : decode b_In_bitCount 0 = .ok (.iload_n 0, 1) := by decide +kernel
theorem d_In_bitCount_1 : decode b_In_bitCount 1 = .ok (.iload_n 0, 1) := by decide +kernel
theorem d_In_bitCount_2 : decode b_In_bitCount 2 = .ok (.iconst 1, 1) := by decide +kernel
theorem d_In_bitCount_3 : decode b_In_bitCount 3 = .ok (.iushr, 1) := by decide +kernel
theorem d_In_bitCount_4 : decode b_In_bitCount 4 = .ok (.ldc_w 265, 3) := by decide +kernel
theorem d_In_bitCount_7 : decode b_In_bitCount 7 = .ok (.iand, 1) := by decide +kernel
theorem d_In_bitCount_8 : decode b_In_bitCount 8 = .ok (.isub, 1) := by decide +kernel
theorem d_In_bitCount_9 : decode b_In_bitCount 9 = .ok (.istore_n 0, 1) := by decide +kernel
theorem d_In_bitCount_10 : decode b_In_bitCount 10 = .ok (.iload_n 0, 1) := by decide +kernel
theorem d_In_bitCount_11 : decode b_In_bitCount 11 = .ok (.ldc_w 266, 3) := by decide +kernel
theorem d_In_bitCount_14 : decode b_In_bitCount 14 = .ok (.iand, 1) := by decide +kernel
theorem d_In_bitCount_15 : decode b_In_bitCount 15 = .ok (.iload_n 0, 1) := by decide +kernel
theorem d_In_bitCount_16 : decode b_In_bitCount 16 = .ok (.iconst 2, 1) := by decide +kernel
theorem d_In_bitCount_17 : decode b_In_bitCount 17 = .ok (.iushr, 1) := by decide +kernel
theorem d_In_bitCount_18 : decode b_In_bitCount 18 = .ok (.ldc_w 266, 3) := by decide +kernel
theorem d_In_bitCount_21 : decode b_In_bitCount 21 = .ok (.iand, 1) := by decide +kernel
theorem d_In_bitCount_22 : decode b_In_bitCount 22 = .ok (.iadd, 1) := by decide +kernel
theorem d_In_bitCount_23 : decode b_In_bitCount 23 = .ok (.istore_n 0, 1) := by decide +kernel
theorem d_In_bitCount_24 : decode b_In_bitCount 24 = .ok (.iload_n 0, 1) := by decide +kernel
theorem d_In_bitCount_25 : decode b_In_bitCount 25 = .ok (.iload_n 0, 1) := by decide +kernel
theorem d_In_bitCount_26 : decode b_In_bitCount 26 = .ok (.iconst 4, 1) := by decide +kernel
theorem d_In_bitCount_27 : decode b_In_bitCount 27 = .ok (.iushr, 1) := by decide +kernel
theorem d_In_bitCount_28 : decode b_In_bitCount 28 = .ok (.iadd, 1) := by decide +kernel
theorem d_In_bitCount_29 : decode b_In_bitCount 29 = .ok (.ldc_w 267, 3) := by decide +kernel
theorem d_In_bitCount_32 : decode b_In_bitCount 32 = .ok (.iand, 1) := by decide +kernel
theorem d_In_bitCount_33 : decode b_In_bitCount 33 = .ok (.istore_n 0, 1) := by decide +kernel
theorem d_In_bitCount_34 : decode b_In_bitCount 34 = .ok (.iload_n 0, 1) := by decide +kernel
theorem d_In_bitCount_35 : decode b_In_bitCount 35 = .ok (.iload_n 0, 1) := by decide +kernel
theorem d_In_bitCount_36 : decode b_In_bitCount 36 = .ok (.bipush 8, 2) := by decide +kernel
theorem d_In_bitCount_38 : decode b_In_bitCount 38 = .ok (.iushr, 1) := by decide +kernel
theorem d_In_bitCount_39 : decode b_In_bitCount 39 = .ok (.iadd, 1) := by decide +kernel
theorem d_In_bitCount_40 : decode b_In_bitCount 40 = .ok (.istore_n 0, 1) := by decide +kernel
theorem d_In_bitCount_41 : decode b_In_bitCount 41 = .ok (.iload_n 0, 1) := by decide +kernel
theorem d_In_bitCount_42 : decode b_In_bitCount 42 = .ok (.iload_n 0, 1) := by decide +kernel
theorem d_In_bitCount_43 : decode b_In_bitCount 43 = .ok (.bipush 16, 2) := by decide +kernel
theorem d_In_bitCount_45 : decode b_In_bitCount 45 = .ok (.iushr, 1) := by decide +kernel
theorem d_In_bitCount_46 : decode b_In_bitCount 46 = .ok (.iadd, 1) := by decide +kernel
theorem d_In_bitCount_47 : decode b_In_bitCount 47 = .ok (.istore_n 0, 1) := by decide +kernel
theorem d_In_bitCount_48 : decode b_In_bitCount 48 = .ok (.iload_n 0, 1) := by decide +kernel
theorem d_In_bitCount_49 : decode b_In_bitCount 49 = .ok (.bipush 63, 2) := by decide +kernel
theorem d_In_bitCount_51 : decode b_In_bitCount 51 = .ok (.iand, 1) := by decide +kernel
theorem d_In_bitCount_52 : decode b_In_bitCount 52 = .ok (.ireturn, 1) := by decide +kernel
end
section
/-! what the methods answer, over naturals -/
def sumK (kd gr : Nat → Nat) (x : Int32) : Nat → Nat
  | 0 => 0
  | i + 1 => sumK kd gr x i + (if nI (kd i) = x then gr i else 0)
def tn (x : Int32) : Nat := x.toNatClampNeg
def tl (x : Int64) : Nat := x.toNatClampNeg
theorem tn_nI {n : Nat} (h : n < 2 ^ 31) : tn (nI n) = n := nI_clamp h
theorem tl_lN {n : Nat} (h : n < 2 ^ 63) : tl (lN n) = n := by
  show (lN n).toInt.toNat = n
  rw [pk_lT h]
  rfl
def addOk (n : Nat) (x1 x2 x3 : Int32) (x4 : Int64) : Prop := n < 30 ∧ inR 10 x1 ∧ inR 100001 x2 ∧ inR 10 x3 ∧ inL 1 1000000000 x4
/-- what every page or sale keeps -/
def bkI (n : Nat) (sh dy kd gr : Nat → Nat) : Prop := n ≤ 30 ∧ ∀ j, j < n → sh j < 10 ∧ dy j ≤ 100000 ∧ kd j < 10 ∧ 1 ≤ gr j ∧ gr j ≤ 1000000000
def lostG (a b : Nat) : Nat := 900 * (max a b - min a b) / max a b
theorem lostG_le {a b : Nat} : lostG a b ≤ 900 := by
  unfold lostG
  apply Nat.div_le_of_le_mul
  rw [Nat.mul_comm (max a b)]
  exact Nat.mul_le_mul_left _ (Nat.sub_le _ _)
def pts (s1 s2 k1 k2 d1 d2 g1 g2 : Nat) : Nat := if s1 = s2 ∧ k1 = k2 ∧ d1 ≤ d2 ∧ d2 ≤ d1 + 5 then 1000 - 100 * (d2 - d1) - lostG g1 g2 else 0
theorem pts_le {s1 s2 k1 k2 d1 d2 g1 g2 : Nat} : pts s1 s2 k1 k2 d1 d2 g1 g2 ≤ 1000 := by
  unfold pts
  split <;> omega
/-- points of page p and sale q -/
def ptOf (sh dy kd gr sh2 dy2 kd2 gr2 : Nat → Nat) (p q : Nat) : Nat := pts (sh p) (sh2 q) (kd p) (kd2 q) (dy p) (dy2 q) (gr p) (gr2 q)
theorem bk_maxL {x y : Nat} (hx : x < 2 ^ 63) (hy : y < 2 ^ 63) : (if lN y < lN x then lN x else lN y) = lN (max x y) := by
  by_cases h : y < x
  · rw [if_pos ((pk_lLT hy hx).mpr h), Nat.max_eq_left (by omega)]
  · rw [if_neg (fun q => h ((pk_lLT hy hx).mp q)), Nat.max_eq_right (by omega)]
theorem lN_subI {x y : Nat} (hx : x < 2 ^ 62) (hy : y < 2 ^ 62) : (lN x - lN y).toInt = (x : Int) - y := by
  rw [Int64.toInt_sub, pk_lT (by omega), pk_lT (by omega)]
  rw [Int.bmod_def]
  split <;> omega
theorem bk_absL {x y : Nat} (hx : x < 2 ^ 62) (hy : y < 2 ^ 62) : (if 0 < lN x - lN y then lN x - lN y else -(lN x - lN y)) = lN (max x y - min x y) := by
  by_cases h : y < x
  · have h0 : (0 : Int64) < lN x - lN y := by
      rw [Int64.lt_iff_toInt_lt, lN_subI hx hy, show (0 : Int64).toInt = 0 by decide]; omega
    rw [if_pos h0, lN_sub (by omega), Nat.max_eq_left (by omega), Nat.min_eq_right (by omega)]
  · have h0 : ¬ (0 : Int64) < lN x - lN y := by
      rw [Int64.lt_iff_toInt_lt, lN_subI hx hy, show (0 : Int64).toInt = 0 by decide]; omega
    rw [if_neg h0, Nat.max_eq_right (by omega), Nat.min_eq_left (by omega), ← lN_sub (by omega)]
    rw [Int64.neg_sub]
theorem bk_max0 {x y : Nat} (hx : x < 2 ^ 30) (hy : y < 2 ^ 30) : (if nI 0 < nI x - nI y then nI x - nI y else nI 0) = nI (x - y) := by
  by_cases h : y < x
  · have h0 : nI 0 < nI x - nI y := by
      rw [pk_sub (by omega)]; exact nI_lt (by omega) (by omega)
    rw [if_pos h0, pk_sub (by omega)]
  · have h0 : ¬ nI 0 < nI x - nI y := by
      rw [Int32.lt_iff_toInt_lt, pk_sub_toInt hx hy, show (nI 0).toInt = 0 by decide]; omega
    rw [if_neg h0, show x - y = 0 by omega]
end
section
/-! a row's cell tells no more than its places; the joining of pages and sales -/
theorem cell_int {cA : ClassId} {n : Nat} {f g : Nat → Int32} (h : ∀ j, j < n → f j = g j) : vp_cell cA (n, .inl f) = vp_cell cA (n, .inl g) := by
  have e : (fun j : Fin n => Value.int (f j.val)) = fun j : Fin n => Value.int (g j.val) := funext fun j => by rw [h j.val j.isLt]
  show ({ cls := cA, slots := Array.ofFn (n := n) fun j => Value.int (f j.val), vm := .none } : Cell) = { cls := cA, slots := Array.ofFn (n := n) fun j => Value.int (g j.val), vm := .none }
  rw [e]
theorem cell_long {cA : ClassId} {n : Nat} {f g : Nat → Int64} (h : ∀ j, j < n → f j = g j) : vp_cell cA (n, .inr (.inl f)) = vp_cell cA (n, .inr (.inl g)) := by
  have e : (fun j : Fin n => Value.long (f j.val)) = fun j : Fin n => Value.long (g j.val) := funext fun j => by rw [h j.val j.isLt]
  show ({ cls := cA, slots := Array.ofFn (n := n) fun j => Value.long (f j.val), vm := .none } : Cell) = { cls := cA, slots := Array.ofFn (n := n) fun j => Value.long (g j.val), vm := .none }
  rw [e]
theorem ext_P {D : va_G} {cl : List vw_C} {ws : va_W} {H : Heap} (hP : va_P D cl ws H) (q0 : Nat) {a : Nat} {cA : ClassId} {x y : vp_A} (ha : ws[q0]? = some (a, .inl (cA, x))) (h : vp_cell cA x = vp_cell cA y) : va_P D cl (ws.set q0 (a, .inl (cA, y))) H := by
  intro k q hk
  rw [List.getElem?_set] at hk
  by_cases e : q0 = k
  · subst e
    rw [if_pos rfl] at hk
    split at hk
    · cases hk
      have := hP q0 _ ha
      show H[a]? = some (vp_cell cA y)
      rw [← h]
      exact this
    · cases hk
  · rw [if_neg e] at hk
    exact hP k q hk
theorem ext_D {A : Nat → Prop} {ws : va_W} (hD : va_D A ws) (q0 : Nat) {a : Nat} {e e2 : va_E} (ha : ws[q0]? = some (a, e)) : va_D A (ws.set q0 (a, e2)) := hD.set ha
/-- the points of a pair that may be joined, else 0 -/
def vv (pt : Nat → Nat → Nat) (sp : Nat → Option Nat) (sd : Nat → Bool) (p q : Nat) : Nat := if sp p = none ∧ sd q = false then pt p q else 0
def sdO (ps : Nat → Option Nat) (q : Nat) : Bool := (ps q).isSome
def bO (m x : Nat) : Option Nat := if m = 0 then none else some x
def scI (v : Nat → Nat) (p : Nat) (b : Nat × Nat × Nat) : Nat → Nat × Nat × Nat
  | 0 => b
  | q + 1 => if (scI v p b q).1 < v q then (v q, p, q) else scI v p b q
def scO (v : Nat → Nat → Nat) (n2 : Nat) : Nat → Nat × Nat × Nat
  | 0 => (0, 0, 0)
  | p + 1 => scI (v p) p (scO v n2 p) n2
theorem scI_take {v : Nat → Nat} {p : Nat} {b0 b : Nat × Nat × Nat} {q x : Nat} (h : b = scI v p b0 q) (hv : v q = x) (hx : b.1 < x) : (x, p, q) = scI v p b0 (q + 1) := by
  rw [scI, ← h, hv, if_pos hx]
theorem scI_keep {v : Nat → Nat} {p : Nat} {b0 b : Nat × Nat × Nat} {q x : Nat} (h : b = scI v p b0 q) (hv : v q = x) (hx : x ≤ b.1) : b = scI v p b0 (q + 1) := by
  rw [scI, ← h, hv, if_neg (by omega)]
theorem scI_zero {v : Nat → Nat} {p : Nat} {b : Nat × Nat × Nat} (h : ∀ q, v q = 0) : ∀ n, scI v p b n = b
  | 0 => rfl
  | n + 1 => by rw [scI, scI_zero h n, h n, if_neg (by omega)]
theorem vv_free {pt : Nat → Nat → Nat} {sp ps : Nat → Option Nat} {p q : Nat} (h1 : sp p = none) (h2 : ps q = none) : vv pt sp (sdO ps) p q = pt p q := by
  rw [vv, if_pos ⟨h1, by rw [sdO, h2]; rfl⟩]
theorem vv_sold {pt : Nat → Nat → Nat} {sp ps : Nat → Option Nat} {p q : Nat} (h2 : ¬ ps q = none) : vv pt sp (sdO ps) p q = 0 := by
  rw [vv, if_neg]
  rintro ⟨-, h⟩
  rw [sdO] at h
  cases e : ps q with
  | none => exact h2 e
  | some k => rw [e] at h; cases h
theorem scO_skip {pt : Nat → Nat → Nat} {sp : Nat → Option Nat} {sd : Nat → Bool} {n2 p : Nat} (h : ¬ sp p = none) : scO (vv pt sp sd) n2 (p + 1) = scO (vv pt sp sd) n2 p := by
  rw [scO]
  exact scI_zero (fun q => by rw [vv, if_neg (fun z => h z.1)]) _
theorem scI_val {v : Nat → Nat → Nat} {n2 p : Nat} {b : Nat × Nat × Nat} (hb : b.1 = 0 ∨ (b.2.1 < p + 1 ∧ b.2.2 < n2 ∧ v b.2.1 b.2.2 = b.1)) : ∀ q, q ≤ n2 → (scI (v p) p b q).1 = 0 ∨ ((scI (v p) p b q).2.1 < p + 1 ∧ (scI (v p) p b q).2.2 < n2 ∧ v (scI (v p) p b q).2.1 (scI (v p) p b q).2.2 = (scI (v p) p b q).1)
  | 0, _ => hb
  | q + 1, h => by
    rw [scI]
    split
    · exact Or.inr ⟨Nat.lt_succ_self p, by show q < n2; omega, rfl⟩
    · exact scI_val hb q (by omega)
theorem scO_val (v : Nat → Nat → Nat) (n2 : Nat) : ∀ n, (scO v n2 n).1 = 0 ∨ ((scO v n2 n).2.1 < n ∧ (scO v n2 n).2.2 < n2 ∧ v (scO v n2 n).2.1 (scO v n2 n).2.2 = (scO v n2 n).1)
  | 0 => Or.inl rfl
  | n + 1 => by
    rw [scO]
    refine scI_val ?_ n2 (Nat.le_refl _)
    rcases scO_val v n2 n with h | ⟨h1, h2, h3⟩
    · exact Or.inl h
    · exact Or.inr ⟨by omega, h2, h3⟩
abbrev JT : Type := (Nat → Option Nat) × (Nat → Bool)
def jbest (pt : Nat → Nat → Nat) (n n2 : Nat) (s : JT) : Nat × Nat × Nat := scO (vv pt s.1 s.2) n2 n
def jstep (pt : Nat → Nat → Nat) (n n2 : Nat) (s : JT) : JT := (va_up s.1 (jbest pt n n2 s).2.1 (some (jbest pt n n2 s).2.2), va_up s.2 (jbest pt n n2 s).2.2 true)
/-- after i joinings -/
def JS (pt : Nat → Nat → Nat) (n n2 : Nat) : Nat → JT
  | 0 => (fun _ => none, fun _ => false)
  | i + 1 => jstep pt n n2 (JS pt n n2 i)
def more (pt : Nat → Nat → Nat) (n n2 i : Nat) : Prop := ∀ k, k < i → (jbest pt n n2 (JS pt n n2 k)).1 ≠ 0
/-- the joining ends behind i -/
def isRun (pt : Nat → Nat → Nat) (n n2 i : Nat) : Prop := (jbest pt n n2 (JS pt n n2 i)).1 = 0 ∧ more pt n n2 i
def cntO (f : Nat → Option Nat) : Nat → Nat
  | 0 => 0
  | i + 1 => cntO f i + (if f i = none then 0 else 1)
theorem cntO_le (f : Nat → Option Nat) : ∀ n, cntO f n ≤ n
  | 0 => Nat.le_refl 0
  | n + 1 => by
    have := cntO_le f n
    rw [cntO]
    split <;> omega
theorem cntO_none : ∀ n, cntO (fun _ => none) n = 0
  | 0 => rfl
  | n + 1 => by rw [cntO, cntO_none n]; rfl
theorem cntO_out {f : Nat → Option Nat} {p : Nat} {x : Option Nat} : ∀ n, n ≤ p → cntO (va_up f p x) n = cntO f n
  | 0, _ => rfl
  | n + 1, h => by
    rw [cntO, cntO, cntO_out n (by omega), show va_up f p x n = f n from if_neg (by omega)]
theorem cntO_up {f : Nat → Option Nat} {p q : Nat} (hf : f p = none) : ∀ n, p < n → cntO (va_up f p (some q)) n = cntO f n + 1
  | 0, h => absurd h (by omega)
  | n + 1, h => by
    rw [cntO, cntO]
    by_cases e : n = p
    · subst e
      rw [cntO_out n (Nat.le_refl _), show va_up f n (some q) n = some q from if_pos rfl, hf]
      rfl
    · rw [cntO_up hf n (by omega), show va_up f p (some q) n = f n from if_neg e]
      omega
theorem js_cnt {pt : Nat → Nat → Nat} {n n2 : Nat} : ∀ i, more pt n n2 i → cntO (JS pt n n2 i).1 n = i
  | 0, _ => cntO_none n
  | i + 1, h => by
    have h0 := h i (Nat.lt_succ_self i)
    have ih := js_cnt i (fun k hk => h k (by omega))
    rcases scO_val (vv pt (JS pt n n2 i).1 (JS pt n n2 i).2) n2 n with e | ⟨e1, e2, e3⟩
    · exact absurd e h0
    · have hf : (JS pt n n2 i).1 (jbest pt n n2 (JS pt n n2 i)).2.1 = none := by
        by_cases z : (JS pt n n2 i).1 (jbest pt n n2 (JS pt n n2 i)).2.1 = none
        · exact z
        · refine absurd ?_ h0
          show (scO _ n2 n).1 = 0
          rw [← e3, vv, if_neg (fun y => z y.1)]
      show cntO (va_up _ _ _) n = i + 1
      rw [cntO_up hf n e1, ih]
theorem js_le {pt : Nat → Nat → Nat} {n n2 i : Nat} (h : more pt n n2 i) : i ≤ n := by
  have h1 := js_cnt i h
  have h2 := cntO_le (JS pt n n2 i).1 n
  omega
theorem js_end {pt : Nat → Nat → Nat} {n n2 i : Nat} (h : more pt n n2 i) (hi : n ≤ i) : (jbest pt n n2 (JS pt n n2 i)).1 = 0 := by
  by_cases z : (jbest pt n n2 (JS pt n n2 i)).1 = 0
  · exact z
  · have : more pt n n2 (i + 1) := fun k hk => by
      by_cases e : k = i
      · rw [e]; exact z
      · exact h k (by omega)
    have := js_le this
    omega
theorem isRun_uniq {pt : Nat → Nat → Nat} {n n2 i j : Nat} (h1 : isRun pt n n2 i) (h2 : isRun pt n n2 j) : i = j := by
  rcases Nat.lt_trichotomy i j with h | h | h
  · exact absurd h1.1 (h2.2 i h)
  · exact h
  · exact absurd h2.1 (h1.2 j h)
theorem sdO_up (ps : Nat → Option Nat) (q p : Nat) : sdO (va_up ps q (some p)) = va_up (sdO ps) q true := by
  funext j
  by_cases h : j = q
  · subst h; simp [sdO, va_up]
  · simp [sdO, va_up, h]
theorem ptOf_le {sh dy kd gr sh2 dy2 kd2 gr2 : Nat → Nat} {p q : Nat} : ptOf sh dy kd gr sh2 dy2 kd2 gr2 p q ≤ 1000 := pts_le
/-- how many before i -/
def cntB (f : Nat → Bool) : Nat → Nat
  | 0 => 0
  | i + 1 => cntB f i + (if f i = true then 1 else 0)
theorem cntB_no {f : Nat → Bool} {b i : Nat} (h : b = cntB f i) (hf : f i = false) : b = cntB f (i + 1) := by rw [cntB, hf, h]; rfl
theorem cntB_yes {f : Nat → Bool} {b i : Nat} (h : b = cntB f i) (hf : f i = true) : b + 1 = cntB f (i + 1) := by rw [cntB, hf, h]; rfl
theorem cntB_le (f : Nat → Bool) : ∀ n, cntB f n ≤ n
  | 0 => Nat.le_refl 0
  | n + 1 => by
    have := cntB_le f n
    rw [cntB]
    split <;> omega
theorem cntB_mono (f : Nat → Bool) {i : Nat} : ∀ j, i ≤ j → cntB f i ≤ cntB f j
  | 0, h => by rw [show i = 0 by omega]; exact Nat.le_refl _
  | j + 1, h => by
    by_cases e : i = j + 1
    · rw [e]; exact Nat.le_refl _
    · have := cntB_mono f (i := i) j (by omega)
      rw [cntB]
      omega
/-- the k-th place that has it, if there is one below n -/
def kth (f : Nat → Bool) (n : Nat) (k : Int32) (r : Option Nat) : Prop := match r with
  | some p => p < n ∧ f p = true ∧ nI (cntB f p) = k
  | none => ∀ p, p < n → f p = true → ¬ nI (cntB f p) = k
theorem kth_uniq {f : Nat → Bool} {n : Nat} (hn : n < 2 ^ 31) {k : Int32} {r r2 : Option Nat} (h1 : kth f n k r) (h2 : kth f n k r2) : r = r2 := by
  have key : ∀ a b, kth f n k (some a) → kth f n k (some b) → ¬ a < b := by
    intro a b ⟨x1, x2, x3⟩ ⟨y1, y2, y3⟩ hab
    have e := x3.trans y3.symm
    have q1 := cntB_le f a
    have q2 := cntB_le f b
    have e := (nI_eq (by omega) (by omega)).mp e
    have m := cntB_mono f b (i := a + 1) hab
    rw [cntB, x2] at m
    simp only [if_true] at m
    omega
  cases r with
  | none =>
    cases r2 with
    | none => rfl
    | some b => exact absurd h2.2.2 (h1 b h2.1 h2.2.1)
  | some a =>
    cases r2 with
    | none => exact absurd h1.2.2 (h2 a h1.1 h1.2.1)
    | some b =>
      have k1 := key a b h1 h2
      have k2 := key b a h2 h1
      rw [show a = b by omega]
def noYet (f : Nat → Bool) (k : Int32) (i : Nat) : Prop := ∀ p, p < i → f p = true → ¬ nI (cntB f p) = k
theorem noYet_0 {f : Nat → Bool} {k : Int32} : noYet f k 0 := fun _ h => absurd h (by omega)
theorem noYet_no {f : Nat → Bool} {k : Int32} {i : Nat} (h : noYet f k i) (hf : f i = false) : noYet f k (i + 1) := fun p hp hq => by
  by_cases e : p = i
  · rw [e, hf] at hq; cases hq
  · exact h p (by omega) hq
theorem noYet_ne {f : Nat → Bool} {k : Int32} {b i : Nat} (h : noYet f k i) (hb : b = cntB f i) (hk : ¬ nI b = k) : noYet f k (i + 1) := fun p hp hq => by
  by_cases e : p = i
  · rw [e, ← hb]; exact hk
  · exact h p (by omega) hq
/-- not joined, and of that day or the five before -/
def wB (sp : Nat → Option Nat) (dy : Nat → Nat) (x : Int32) (p : Nat) : Bool := (sp p).isNone && (decide (0 ≤ x.toInt - dy p) && decide (x.toInt - dy p ≤ 5))
theorem i64_sub {x : Int32} {d : Nat} (hd : d ≤ 100000) : (x.toInt64 - lN d).toInt = x.toInt - d := by
  rw [Int64.toInt_sub, pk_lT (by omega), Int32.toInt_toInt64]
  have h1 := Int32.le_toInt x
  have h2 := Int32.toInt_lt x
  rw [Int.bmod_def]
  split <;> omega
theorem w_no1 {sp : Nat → Option Nat} {dy : Nat → Nat} {x : Int32} {p : Nat} (h : ¬ sp p = none) : wB sp dy x p = false := by
  cases e : sp p with
  | none => exact absurd e h
  | some k => simp [wB, e]
theorem w_no2 {sp : Nat → Option Nat} {dy : Nat → Nat} {x : Int32} {p : Nat} (hd : dy p ≤ 100000) (h : x.toInt64 - lN (dy p) < lN 0) : wB sp dy x p = false := by
  rw [Int64.lt_iff_toInt_lt, i64_sub hd, pk_lT (by omega)] at h
  have : ¬ (0 : Int) ≤ x.toInt - dy p := by omega
  rw [wB, decide_eq_false this]
  simp
theorem w_no3 {sp : Nat → Option Nat} {dy : Nat → Nat} {x : Int32} {p : Nat} (hd : dy p ≤ 100000) (h : lN 5 < x.toInt64 - lN (dy p)) : wB sp dy x p = false := by
  rw [Int64.lt_iff_toInt_lt, i64_sub hd, pk_lT (by omega)] at h
  have : ¬ x.toInt - dy p ≤ 5 := by omega
  rw [wB, decide_eq_false this]
  simp
theorem w_yes {sp : Nat → Option Nat} {dy : Nat → Nat} {x : Int32} {p : Nat} (hd : dy p ≤ 100000) (h0 : sp p = none) (h1 : lN 0 ≤ x.toInt64 - lN (dy p)) (h2 : x.toInt64 - lN (dy p) ≤ lN 5) : wB sp dy x p = true := by
  rw [Int64.le_iff_toInt_le, i64_sub hd, pk_lT (by omega)] at h1 h2
  have a : (0 : Int) ≤ x.toInt - dy p := by omega
  have b : x.toInt - dy p ≤ 5 := by omega
  rw [wB, h0, decide_eq_true a, decide_eq_true b]
  rfl
theorem none_up {f : Nat → Option Nat} {i : Nat} (h : ∀ j, j < i → f j = none) : ∀ j, j < i + 1 → va_up f i none j = none := fun j hj => by
  by_cases e : j = i
  · rw [e]; exact if_pos rfl
  · rw [show va_up f i none j = f j from if_neg e]; exact h j (by omega)
theorem js_next {pt : Nat → Nat → Nat} {n n2 i : Nat} {sq pq : Nat → Option Nat} (h : (sq, sdO pq) = JS pt n n2 i) : (va_up sq (jbest pt n n2 (sq, sdO pq)).2.1 (some (jbest pt n n2 (sq, sdO pq)).2.2), sdO (va_up pq (jbest pt n n2 (sq, sdO pq)).2.2 (some (jbest pt n n2 (sq, sdO pq)).2.1))) = JS pt n n2 (i + 1) := by
  rw [JS, ← h, sdO_up]
  rfl
theorem more_next {pt : Nat → Nat → Nat} {n n2 i : Nat} {s : JT} (h : s = JS pt n n2 i) (hm : more pt n n2 i) (z : (jbest pt n n2 s).1 ≠ 0) : more pt n n2 (i + 1) := fun k hk => by
  by_cases e : k = i
  · rw [e, ← h]; exact z
  · exact hm k (by omega)
theorem best_rng {pt : Nat → Nat → Nat} {n n2 : Nat} {s : JT} (z : (jbest pt n n2 s).1 ≠ 0) : (jbest pt n n2 s).2.1 < n ∧ (jbest pt n n2 s).2.2 < n2 := by
  rcases scO_val (vv pt s.1 s.2) n2 n with e | ⟨e1, e2, -⟩
  · exact absurd e z
  · exact ⟨e1, e2⟩
theorem rng_up {f : Nat → Option Nat} {n n2 a b : Nat} (h : ∀ p k, f p = some k → p < n ∧ k < n2) (ha : a < n) (hb : b < n2) : ∀ p k, va_up f a (some b) p = some k → p < n ∧ k < n2 := fun p k e => by
  by_cases z : p = a
  · rw [show va_up f a (some b) p = some b from if_pos z] at e
    cases e
    exact ⟨by omega, hb⟩
  · rw [show va_up f a (some b) p = f p from if_neg z] at e
    exact h p k e
theorem some_up {f : Nat → Option Nat} {n2 a b : Nat} (h : ∀ p k, f p = some k → k < n2) (hb : b < n2) : ∀ p k, va_up f a (some b) p = some k → k < n2 := fun p k e => by
  by_cases z : p = a
  · rw [show va_up f a (some b) p = some b from if_pos z] at e
    cases e
    exact hb
  · rw [show va_up f a (some b) p = f p from if_neg z] at e
    exact h p k e
end
section
/-! acts and draws, over naturals -/
def aft (now : Nat) (ev : Int32) : Option Nat := if ev = nI 0 then (if now < 3 then some (now + 1) else none) else if ev = nI 1 then (if now = 2 then some 1 else none) else if ev = nI 2 then (if now = 3 then some 2 else none) else if ev = nI 3 then (if now = 1 then some 0 else none) else none
theorem aft_0 (now : Nat) : aft now (nI 0) = if now < 3 then some (now + 1) else none := by rw [aft, if_pos rfl]
theorem aft_1 (now : Nat) : aft now (nI 1) = if now = 2 then some 1 else none := by rw [aft, if_neg (by decide), if_pos rfl]
theorem aft_2 (now : Nat) : aft now (nI 2) = if now = 3 then some 2 else none := by rw [aft, if_neg (by decide), if_neg (by decide), if_pos rfl]
theorem aft_3 (now : Nat) : aft now (nI 3) = if now = 1 then some 0 else none := by rw [aft, if_neg (by decide), if_neg (by decide), if_neg (by decide), if_pos rfl]
theorem aft_out {now : Nat} {ev : Int32} (h : ¬ inR 4 ev) : aft now ev = none := by
  rw [aft, if_neg (fun e => h ⟨0, by decide, e⟩), if_neg (fun e => h ⟨1, by decide, e⟩), if_neg (fun e => h ⟨2, by decide, e⟩), if_neg (fun e => h ⟨3, by decide, e⟩)]
theorem aft_le {now k : Nat} {ev : Int32} (h : aft now ev = some k) : k ≤ 3 := by
  unfold aft at h
  split at h
  · split at h <;> simp at h; omega
  · split at h
    · split at h <;> simp at h; omega
    · split at h
      · split at h <;> simp at h; omega
      · split at h
        · split at h <;> simp at h; omega
        · cases h
/-- who may tell it, and what it comes to -/
def actOk (st : Nat → Nat) (pe : Nat → Option Nat) (x1 x2 x3 : Int32) (to : Nat) : Prop := inR 10 x1 ∧ inR 100 x3 ∧ ¬ pe (tn x1) = some (tn x3) ∧ aft (st (tn x1)) x2 = some to
def setOk (x1 x2 x3 : Int32) : Prop := inR 10 x1 ∧ ∃ a b, 1 ≤ b ∧ b ≤ 10 ∧ a ≤ b ∧ x2 = nI a ∧ x3 = nI b
def sumN (w : Nat → Nat) : Nat → Nat
  | 0 => 0
  | i + 1 => sumN w i + w i
theorem sumN_le {w : Nat → Nat} {c : Nat} : ∀ n, (∀ j, j < n → w j ≤ c) → sumN w n ≤ n * c
  | 0, _ => Nat.zero_le _
  | n + 1, h => by
    have h1 := sumN_le n (fun j hj => h j (by omega))
    have h2 := h n (Nat.lt_succ_self n)
    rw [sumN, Nat.add_mul]
    omega
theorem sumN_mono {w : Nat → Nat} {i : Nat} : ∀ j, i ≤ j → sumN w i ≤ sumN w j
  | 0, h => by rw [show i = 0 by omega]; exact Nat.le_refl _
  | j + 1, h => by
    by_cases e : i = j + 1
    · rw [e]; exact Nat.le_refl _
    · have := sumN_mono (w := w) (i := i) j (by omega)
      rw [sumN]
      omega
theorem sumN_congr {w w2 : Nat → Nat} : ∀ n, (∀ j, j < n → w j = w2 j) → sumN w n = sumN w2 n
  | 0, _ => rfl
  | n + 1, h => by rw [sumN, sumN, sumN_congr n (fun j hj => h j (by omega)), h n (Nat.lt_succ_self n)]
theorem sumN_out {w : Nat → Nat} {p x : Nat} : ∀ n, n ≤ p → sumN (va_up w p x) n = sumN w n
  | 0, _ => rfl
  | n + 1, h => by rw [sumN, sumN, sumN_out n (by omega), show va_up w p x n = w n from if_neg (by omega)]
theorem sumN_up {w : Nat → Nat} {p : Nat} : ∀ n, p < n → sumN (va_up w p 0) n + w p = sumN w n
  | 0, h => absurd h (by omega)
  | n + 1, h => by
    rw [sumN, sumN]
    by_cases e : n = p
    · subst e
      rw [sumN_out n (Nat.le_refl _), show va_up w n 0 n = 0 from if_pos rfl]
      rfl
    · have := sumN_up (w := w) n (show p < n by omega)
      rw [show va_up w p 0 n = w n from if_neg e]
      omega
/-- the place where the weights pass r -/
def isPick (w : Nat → Nat) (r p : Nat) : Prop := sumN w p ≤ r ∧ r < sumN w (p + 1)
def pickF (w : Nat → Nat) (r : Nat) : Nat → Nat
  | 0 => 0
  | p + 1 => if sumN w p ≤ r then p else pickF w r p
theorem pickF_is {w : Nat → Nat} {r p : Nat} (h : isPick w r p) : ∀ n, p < n → pickF w r n = p
  | 0, hn => absurd hn (by omega)
  | n + 1, hn => by
    rw [pickF]
    by_cases e : n = p
    · rw [e, if_pos h.1]
    · have := sumN_mono (w := w) (i := p + 1) n (by omega)
      rw [if_neg (by have := h.2; omega)]
      exact pickF_is h n (by omega)
theorem pickF_congr {w w2 : Nat → Nat} {r : Nat} : ∀ n, (∀ j, j < n → w j = w2 j) → pickF w r n = pickF w2 r n
  | 0, _ => rfl
  | n + 1, h => by rw [pickF, pickF, sumN_congr n (fun j hj => h j (by omega)), pickF_congr n (fun j hj => h j (by omega))]
theorem pickF_rng {w : Nat → Nat} {r : Nat} : ∀ n, r < sumN w n → isPick w r (pickF w r n) ∧ pickF w r n < n
  | 0, h => absurd h (Nat.not_lt_zero _)
  | n + 1, h => by
    rw [pickF]
    by_cases e : sumN w n ≤ r
    · rw [if_pos e]; exact ⟨⟨e, h⟩, Nat.lt_succ_self n⟩
    · rw [if_neg e]
      have := pickF_rng (w := w) (r := r) n (by omega)
      exact ⟨this.1, by omega⟩
def nxt (x : Int64) : Int64 := x * lN 6364136223846793005 + lN 1442695040888963407
def h33 (x : Int64) : Nat := x.toBitVec.toNat / 2 ^ 33
theorem h33_lt (x : Int64) : h33 x < 2 ^ 31 := by
  unfold h33
  have := x.toBitVec.isLt
  omega
/-- the seed's number and the weights that are left, behind k pages -/
def DR (n : Nat) (w0 : Nat → Nat) (seed : Int64) : Nat → Int64 × (Nat → Nat)
  | 0 => (seed, w0)
  | k + 1 => (nxt (DR n w0 seed k).1, va_up (DR n w0 seed k).2 (pickF (DR n w0 seed k).2 (h33 (nxt (DR n w0 seed k).1) % sumN (DR n w0 seed k).2 n) n) 0)
/-- the k-th page that a draw takes -/
def pkD (n : Nat) (w0 : Nat → Nat) (seed : Int64) (k : Nat) : Nat := pickF (DR n w0 seed k).2 (h33 (nxt (DR n w0 seed k).1) % sumN (DR n w0 seed k).2 n) n
/-- a draw of N takes k -/
def isDraw (n : Nat) (w0 : Nat → Nat) (seed : Int64) (N k : Nat) : Prop := k ≤ N ∧ (∀ i, i < k → 0 < sumN (DR n w0 seed i).2 n) ∧ (k = N ∨ sumN (DR n w0 seed k).2 n = 0)
theorem isDraw_uniq {n : Nat} {w0 : Nat → Nat} {seed : Int64} {N k k2 : Nat} (h1 : isDraw n w0 seed N k) (h2 : isDraw n w0 seed N k2) : k = k2 := by
  have key : ∀ a b, isDraw n w0 seed N a → isDraw n w0 seed N b → ¬ a < b := by
    intro a b ha hb hab
    rcases ha.2.2 with e | e
    · have := hb.1; omega
    · have := hb.2.1 a hab; omega
  have := key k k2 h1 h2
  have := key k2 k h2 h1
  omega
theorem pkD_lt {n : Nat} {w0 : Nat → Nat} {seed : Int64} {k : Nat} (h : 0 < sumN (DR n w0 seed k).2 n) : isPick (DR n w0 seed k).2 (h33 (nxt (DR n w0 seed k).1) % sumN (DR n w0 seed k).2 n) (pkD n w0 seed k) ∧ pkD n w0 seed k < n := pickF_rng n (Nat.mod_lt _ h)
theorem ushr33 (x : Int64) : (x.toUInt64 >>> ((nI 33).toInt64.toUInt64 &&& Int64.toUInt64 63)).toInt64 = lN (h33 x) := by
  apply Int64.toBitVec_inj.mp
  apply BitVec.eq_of_toNat_eq
  have e : ((nI 33).toInt64.toUInt64 &&& Int64.toUInt64 63) = (33 : UInt64) := by decide
  rw [e]
  have h2 : (lN (h33 x)).toBitVec.toNat = h33 x := by
    have := h33_lt x
    show (BitVec.ofNat 64 (h33 x)).toNat = h33 x
    rw [BitVec.toNat_ofNat]
    exact Nat.mod_eq_of_lt (by omega)
  rw [h2]
  show (x.toBitVec >>> (33 : Nat)).toNat = h33 x
  rw [BitVec.toNat_ushiftRight, Nat.shiftRight_eq_div_pow]
  rfl
theorem w_up {wq wt sh : Nat → Nat} {i : Nat} (h : ∀ j, j < i → wq j = wt (sh j)) : ∀ j, j < i + 1 → va_up wq i (wt (sh i)) j = wt (sh j) := fun j hj => by
  by_cases e : j = i
  · rw [e]; exact if_pos rfl
  · rw [show va_up wq i (wt (sh i)) j = wq j from if_neg e]; exact h j (by omega)
theorem dr_le {n : Nat} {wt sh : Nat → Nat} {sd : Int64} (hwt : ∀ j, j < 10 → wt j ≤ 2520) (hsh : ∀ j, j < n → sh j < 10) : ∀ {i : Nat} (j : Nat), j < n → (DR n (fun j => wt (sh j)) sd i).2 j ≤ 2520
  | 0, j, hj => hwt _ (hsh j hj)
  | i + 1, j, hj => by
    rw [DR]
    show va_up _ _ 0 j ≤ 2520
    unfold va_up
    split
    · omega
    · exact dr_le hwt hsh j hj
theorem dr_up {n : Nat} {w0 wq : Nat → Nat} {sd x : Int64} {i : Nat} (hx : x = (DR n w0 sd i).1) (hw : ∀ j, j < n → wq j = (DR n w0 sd i).2 j) : ∀ j, j < n → va_up wq (pickF wq (h33 (nxt x) % sumN wq n) n) 0 j = (DR n w0 sd (i + 1)).2 j := fun j hj => by
  rw [DR]
  show _ = va_up _ _ 0 j
  rw [hx, sumN_congr n hw, pickF_congr n hw]
  unfold va_up
  split
  · rfl
  · exact hw j hj
theorem pk_up {tq : Nat → Nat} {i n p : Nat} {f : Nat → Nat} (h : ∀ j, j < i → tq j = f j ∧ tq j < n) (hp : p = f i) (hn : p < n) : ∀ j, j < i + 1 → va_up tq i p j = f j ∧ va_up tq i p j < n := fun j hj => by
  by_cases e : j = i
  · rw [show va_up tq i p j = p from if_pos e, e]; exact ⟨hp, hn⟩
  · rw [show va_up tq i p j = tq j from if_neg e]; exact h j (by omega)
end
section
/-! comparisons of ints with small naturals -/
theorem lt1_nn {x : Int32} (h : ¬ x < nI 1) : ¬ x < 0 := fun q => h (by
  rw [Int32.lt_iff_toInt_lt] at q ⊢
  rw [show (nI 1).toInt = 1 by decide]
  rw [show (0 : Int32).toInt = 0 by decide] at q
  omega)
theorem lt1_pos {x : Int32} {b : Nat} (h : ¬ x < nI 1) (e : x = nI b) (hb : b < 2 ^ 31) : 1 ≤ b := by
  rw [e] at h
  exact Nat.le_of_not_lt fun q => h (nI_lt q (by decide))
theorem le_nI {x : Int32} {b : Nat} (h0 : ¬ x < 0) (h : x ≤ nI b) (hb : b < 2 ^ 30) : ∃ a, a ≤ b ∧ x = nI a := by
  obtain ⟨j, hj, e⟩ := nI_of h0
  refine ⟨j, ?_, e⟩
  rw [e] at h
  exact (nI_leI hj (by omega)).mp h
theorem no_lt1 {x : Int32} {b : Nat} (e : x = nI b) (hb : 1 ≤ b) (hb2 : b < 2 ^ 31) (h : x < nI 1) : False := by
  rw [e] at h
  have := (nI_ltI hb2 (by decide)).mp h
  omega
theorem no_gt {x : Int32} {b n : Nat} (e : x = nI b) (hb : b ≤ n) (hn : n < 2 ^ 31) (hb2 : b < 2 ^ 31) (h : nI n < x) : False := by
  rw [e] at h
  have := (nI_ltI hn hb2).mp h
  omega
end
section
/-! plants, over naturals -/
def ixO (p i : Nat) : Nat := p * 8 + i
def plOk (n : Nat) (x1 : Int64) (x2 : Int32) : Prop := n < 8 ∧ inL 0 1000000000 x1 ∧ inR 10 x2
def outOk (n : Nat) (ou : Nat → Nat) (x1 x2 : Int32) (x3 : Int64) : Prop := inR n x1 ∧ inR 10 x2 ∧ inL 1 1000000000 x3 ∧ ou (tn x1) < 8
/-- what every plant keeps -/
def plI (n : Nat) (inn pk ou ok og : Nat → Nat) : Prop := n ≤ 8 ∧ (∀ p, p < n → inn p ≤ 1000000000 ∧ pk p < 10 ∧ ou p ≤ 8 ∧ ∀ i, i < ou p → ok (p * 8 + i) < 10 ∧ og (p * 8 + i) ≤ 1000000000) ∧ ∀ p, n ≤ p → ou p = 0
/-- the outs of its own kind, a bit for each -/
def ownM (ok pk : Nat → Nat) (p : Nat) : Nat → Nat
  | 0 => 0
  | i + 1 => ownM ok pk p i + (if ok (p * 8 + i) = pk p then 2 ^ i else 0)
theorem ownM_lt (ok pk : Nat → Nat) (p : Nat) : ∀ i, ownM ok pk p i < 2 ^ i
  | 0 => Nat.one_pos
  | i + 1 => by
    have h1 := ownM_lt ok pk p i
    have h2 : 2 ^ (i + 1) = 2 ^ i + 2 ^ i := by rw [Nat.pow_succ]; omega
    rw [ownM]
    split <;> omega
theorem pow8 {i : Nat} (h : i ≤ 8) : 2 ^ i ≤ 256 := Nat.pow_le_pow_right (by decide) h
theorem ownM_256 {ok pk : Nat → Nat} {p i : Nat} (h : i ≤ 8) : ownM ok pk p i < 256 := Nat.lt_of_lt_of_le (ownM_lt ok pk p i) (pow8 h)
/-- grams of a set of outs -/
def gsum (og : Nat → Nat) (p s : Nat) : Nat → Nat
  | 0 => 0
  | i + 1 => gsum og p s i + (if s.testBit i = true then og (p * 8 + i) else 0)
theorem gsum_lec {og : Nat → Nat} {p s c : Nat} : ∀ m, (∀ i, i < m → og (p * 8 + i) ≤ c) → gsum og p s m ≤ m * c
  | 0, _ => Nat.zero_le _
  | m + 1, h => by
    have h1 := gsum_lec (s := s) m (fun i hi => h i (by omega))
    have h2 := h m (Nat.lt_succ_self m)
    rw [gsum, Nat.add_mul]
    split <;> omega
theorem gsum_le {og : Nat → Nat} {p s : Nat} (m : Nat) (h : ∀ i, i < m → og (p * 8 + i) ≤ 1000000000) : gsum og p s m ≤ m * 1000000000 := gsum_lec m h
def lackN (inn pk ou ok og : Nat → Nat) (p : Nat) : Nat := gsum og p (ownM ok pk p (ou p)) (ou p) - inn p
def popc (s : Nat) : Nat := cntB (fun i => s.testBit i) 8
def bc1 (x : Int32) : Int32 := x - ((x.toUInt32 >>> ((nI 1).toUInt32 &&& Int32.toUInt32 31)).toInt32 &&& nI 1431655765)
def bc2 (x : Int32) : Int32 := (x &&& nI 858993459) + ((x.toUInt32 >>> ((nI 2).toUInt32 &&& Int32.toUInt32 31)).toInt32 &&& nI 858993459)
def bc3 (x : Int32) : Int32 := (x + (x.toUInt32 >>> ((nI 4).toUInt32 &&& Int32.toUInt32 31)).toInt32) &&& nI 252645135
def bc4 (x : Int32) : Int32 := x + (x.toUInt32 >>> ((nI 8).toUInt32 &&& Int32.toUInt32 31)).toInt32
def bc5 (x : Int32) : Int32 := x + (x.toUInt32 >>> ((nI 16).toUInt32 &&& Int32.toUInt32 31)).toInt32
def bcF (x : Int32) : Int32 := bc5 (bc4 (bc3 (bc2 (bc1 x)))) &&& nI 63
theorem bcF_nat : ∀ s, s < 256 → bcF (nI s) = nI (popc s) := by decide +kernel
theorem bit_and : ∀ s, s < 256 → ∀ i, i < 8 → ((nI s &&& (nI 1 <<< (nI i &&& 31))) = 0 ↔ s.testBit i = false) := by decide +kernel
theorem bit_yes {s i : Nat} (hs : s < 256) (hi : i < 8) (h : ¬ (nI s &&& (nI 1 <<< (nI i &&& 31))) = 0) : s.testBit i = true := by
  cases e : s.testBit i with
  | true => rfl
  | false => exact absurd ((bit_and s hs i hi).mpr e) h
theorem bit_or : ∀ i, i < 8 → ∀ s, s < 2 ^ i → (nI s ||| (nI 1 <<< (nI i &&& 31))) = nI (s + 2 ^ i) := by decide +kernel
/-- a set comes before another: it has fewer, or as many and the first that differs -/
def bfP (s t : Nat) : Prop := 0 < nI (popc t) - nI (popc s) ∨ (nI (popc t) - nI (popc s) = 0 ∧ ¬ (nI s &&& ((nI s ^^^ nI t) &&& -(nI s ^^^ nI t))) = 0)
theorem bk_max0L {x y : Nat} (hx : x < 2 ^ 62) (hy : y < 2 ^ 62) : (if lN x - lN y < lN 0 then lN 0 else lN x - lN y) = lN (x - y) := by
  by_cases h : x < y
  · rw [if_pos (by rw [Int64.lt_iff_toInt_lt, lN_subI hx hy, pk_lT (by omega)]; omega), show x - y = 0 by omega]
  · rw [if_neg (by rw [Int64.lt_iff_toInt_lt, lN_subI hx hy, pk_lT (by omega)]; omega), lN_sub (by omega)]
/-- the search of the least set, by numbers from 1 on -/
noncomputable def lsF (own L : Nat) (og : Nat → Nat) (p m : Nat) : Nat → Nat
  | 0 => own
  | k + 1 => @ite Nat ((nI (k + 1) &&& (nI own ^^^ oI none)) = 0 ∧ bfP (k + 1) (lsF own L og p m k) ∧ L ≤ gsum og p (k + 1) m) (Classical.propDecidable _) (k + 1) (lsF own L og p m k)
theorem lsF_lt {own L : Nat} {og : Nat → Nat} {p m : Nat} (ho : own < 256) : ∀ k, k ≤ own → lsF own L og p m k < 256
  | 0, _ => ho
  | k + 1, h => by
    rw [lsF]
    split
    · omega
    · exact lsF_lt ho k (by omega)
theorem lsF_yes {own L : Nat} {og : Nat → Nat} {p m k : Nat} (h : (nI (k + 1) &&& (nI own ^^^ oI none)) = 0) (h2 : bfP (k + 1) (lsF own L og p m k)) (h3 : L ≤ gsum og p (k + 1) m) : k + 1 = lsF own L og p m (k + 1) := by
  rw [lsF, if_pos ⟨h, h2, h3⟩]
theorem lsF_no {own L : Nat} {og : Nat → Nat} {p m k : Nat} (h : ¬ ((nI (k + 1) &&& (nI own ^^^ oI none)) = 0 ∧ bfP (k + 1) (lsF own L og p m k) ∧ L ≤ gsum og p (k + 1) m)) : lsF own L og p m k = lsF own L og p m (k + 1) := by
  rw [lsF.eq_def own L og p m (k + 1)]
  exact (if_neg h).symm
/-- the outs from nowhere as the class finds them -/
noncomputable def lsR (inn pk ou ok og : Nat → Nat) (p : Nat) : Nat := @ite Nat (lackN inn pk ou ok og p = 0) (Classical.propDecidable _) 0 (lsF (ownM ok pk p (ou p)) (lackN inn pk ou ok og p) og p (ou p) (ownM ok pk p (ou p)))
theorem lsR_lt {inn pk ou ok og : Nat → Nat} {p : Nat} (h : ou p ≤ 8) : lsR inn pk ou ok og p < 256 := by
  unfold lsR
  split
  · omega
  · exact lsF_lt (ownM_256 h) _ (Nat.le_refl _)
end
section
/-! minutes of a camera, and odds, over naturals -/
def lstF (f : Nat → Nat) : Nat → Nat → List Nat
  | _, 0 => []
  | a, n + 1 => f a :: lstF f (a + 1) n
theorem lstF_add (f : Nat → Nat) : ∀ (m a n : Nat), lstF f a (m + n) = lstF f a m ++ lstF f (a + m) n
  | 0, a, n => by rw [Nat.zero_add]; rfl
  | m + 1, a, n => by
    rw [show m + 1 + n = (m + n) + 1 by omega, lstF, lstF, lstF_add f m (a + 1) n, show a + 1 + m = a + (m + 1) by omega]
    rfl
theorem lstF_congr {f g : Nat → Nat} : ∀ (n a : Nat), (∀ j, a ≤ j → j < a + n → f j = g j) → lstF f a n = lstF g a n
  | 0, _, _ => rfl
  | n + 1, a, h => by rw [lstF, lstF, h a (Nat.le_refl _) (by omega), lstF_congr n (a + 1) (fun j h1 h2 => h j (by omega) (by omega))]
theorem lstF_swap {f g : Nat → Nat} {c q : Nat} (hq : q < c) (h1 : g q = f (q + 1)) (h2 : g (q + 1) = f q) (h : ∀ j, j ≠ q → j ≠ q + 1 → g j = f j) : (lstF g 0 (c + 1)).Perm (lstF f 0 (c + 1)) := by
  have e : ∀ k : Nat → Nat, lstF k 0 (c + 1) = lstF k 0 q ++ (k q :: k (q + 1) :: lstF k (q + 2) (c - q - 1)) := fun k => by
    rw [show c + 1 = q + ((c - q - 1) + 1 + 1) by omega, lstF_add, Nat.zero_add, lstF, lstF]
  rw [e g, e f, h1, h2, lstF_congr (f := g) (g := f) q 0 (fun j _ h3 => h j (by omega) (by omega)), lstF_congr (f := g) (g := f) (c - q - 1) (q + 2) (fun j h3 _ => h j (by omega) (by omega))]
  exact List.Perm.append_left _ (List.Perm.swap _ _ _)
def sortedN (f : Nat → Nat) (c : Nat) : Prop := ∀ i j, i < j → j < c → f i ≤ f j
theorem sorted_pw {f : Nat → Nat} : ∀ (n a : Nat), (∀ i j, a ≤ i → i < j → j < a + n → f i ≤ f j) → (lstF f a n).Pairwise (· ≤ ·)
  | 0, _, _ => List.Pairwise.nil
  | n + 1, a, h => by
    rw [lstF]
    refine List.Pairwise.cons (fun x hx => ?_) (sorted_pw n (a + 1) (fun i j h1 h2 h3 => h i j (by omega) h2 (by omega)))
    have key : ∀ (n b : Nat), x ∈ lstF f b n → ∃ j, b ≤ j ∧ j < b + n ∧ x = f j := by
      intro n
      induction n with
      | zero => intro b hb; cases hb
      | succ n ih =>
        intro b hb
        rw [lstF] at hb
        rcases List.mem_cons.mp hb with e | hb
        · exact ⟨b, Nat.le_refl _, by omega, e⟩
        · obtain ⟨j, h1, h2, h3⟩ := ih (b + 1) hb
          exact ⟨j, by omega, by omega, h3⟩
    obtain ⟨j, h1, h2, rfl⟩ := key n (a + 1) hx
    exact h a j (Nat.le_refl _) (by omega) (by omega)
theorem sortedN_pw {f : Nat → Nat} {c : Nat} (h : sortedN f c) : (lstF f 0 c).Pairwise (· ≤ ·) := sorted_pw c 0 (fun i j _ h2 h3 => h i j h2 (by omega))
/-- the state of an insertion: v stands at q -/
def insI (mn mq : Nat → Nat) (c v q : Nat) : Prop := q ≤ c ∧ (∀ j, j < q → mq j = mn j) ∧ (∀ j, q < j → j ≤ c → mq j = mn (j - 1) ∧ v < mn (j - 1)) ∧ (lstF (va_up mq q v) 0 (c + 1)).Perm (v :: lstF mn 0 c)
theorem ins_0 {mn : Nat → Nat} {c v : Nat} : insI mn mn c v c := by
  refine ⟨Nat.le_refl _, fun _ _ => rfl, fun j h1 h2 => absurd h1 (by omega), ?_⟩
  rw [lstF_add (va_up mn c v) c 0 1, Nat.zero_add]
  have e : lstF (va_up mn c v) c 1 = [v] := by
    show [va_up mn c v c] = [v]
    rw [show va_up mn c v c = v from if_pos rfl]
  rw [e, lstF_congr (f := va_up mn c v) (g := mn) c 0 (fun j _ h => if_neg (by omega))]
  exact List.perm_append_singleton _ _
theorem ins_s {mn mq : Nat → Nat} {c v q : Nat} (h : insI mn mq c v q) (hq : 0 < q) (hv : v < mq (q - 1)) : insI mn (va_up mq q (mq (q - 1))) c v (q - 1) := by
  obtain ⟨h1, h2, h3, h4⟩ := h
  refine ⟨by omega, fun j hj => ?_, fun j hj hc => ?_, ?_⟩
  · rw [show va_up mq q (mq (q - 1)) j = mq j from if_neg (by omega)]
    exact h2 j (by omega)
  · by_cases e : j = q
    · subst e
      rw [show va_up mq j (mq (j - 1)) j = mq (j - 1) from if_pos rfl, ← h2 (j - 1) (by omega)]
      exact ⟨rfl, hv⟩
    · rw [show va_up mq q (mq (q - 1)) j = mq j from if_neg e]
      exact h3 j (by omega) hc
  · refine List.Perm.trans ?_ h4
    refine lstF_swap (q := q - 1) (by omega) ?_ ?_ (fun j e1 e2 => ?_)
    · rw [show q - 1 + 1 = q by omega, show va_up (va_up mq q (mq (q - 1))) (q - 1) v (q - 1) = v from if_pos rfl, show va_up mq q v q = v from if_pos rfl]
    · rw [show q - 1 + 1 = q by omega, show va_up (va_up mq q (mq (q - 1))) (q - 1) v q = va_up mq q (mq (q - 1)) q from if_neg (by omega), show va_up mq q (mq (q - 1)) q = mq (q - 1) from if_pos rfl, show va_up mq q v (q - 1) = mq (q - 1) from if_neg (by omega)]
    · rw [show va_up (va_up mq q (mq (q - 1))) (q - 1) v j = va_up mq q (mq (q - 1)) j from if_neg e1, show va_up mq q (mq (q - 1)) j = mq j from if_neg (by omega), show va_up mq q v j = mq j from if_neg (by omega)]
theorem ins_e {mn mq : Nat → Nat} {c v q : Nat} (h : insI mn mq c v q) (hs : sortedN mn c) (hq : q = 0 ∨ mq (q - 1) ≤ v) : sortedN (va_up mq q v) (c + 1) := by
  obtain ⟨h1, h2, h3, -⟩ := h
  have val : ∀ j, j ≤ c → (j < q ∧ va_up mq q v j = mn j) ∨ (j = q ∧ va_up mq q v j = v) ∨ (q < j ∧ va_up mq q v j = mn (j - 1) ∧ v < mn (j - 1)) := fun j hj => by
    rcases Nat.lt_trichotomy j q with e | e | e
    · exact Or.inl ⟨e, by rw [show va_up mq q v j = mq j from if_neg (by omega)]; exact h2 j e⟩
    · exact Or.inr (Or.inl ⟨e, if_pos e⟩)
    · exact Or.inr (Or.inr ⟨e, by rw [show va_up mq q v j = mq j from if_neg (by omega)]; exact h3 j e hj⟩)
  intro i j hij hj
  have low : ∀ i, i < q → mn i ≤ v := fun i hi => by
    rcases hq with e | e
    · omega
    · rw [h2 (q - 1) (by omega)] at e
      by_cases z : i = q - 1
      · rw [z]; exact e
      · exact Nat.le_trans (hs i (q - 1) (by omega) (by omega)) e
  rcases val i (by omega) with ⟨a1, a2⟩ | ⟨a1, a2⟩ | ⟨a1, a2, a3⟩ <;> rcases val j (by omega) with ⟨b1, b2⟩ | ⟨b1, b2⟩ | ⟨b1, b2, b3⟩ <;> rw [a2, b2]
  · exact hs i j hij (by omega)
  · exact low i a1
  · exact Nat.le_of_lt (Nat.lt_of_le_of_lt (low i a1) b3)
  · omega
  · omega
  · exact Nat.le_of_lt b3
  · omega
  · omega
  · exact hs (i - 1) (j - 1) (by omega) (by omega)
theorem ins_b {mn mq : Nat → Nat} {c v q B : Nat} (h : insI mn mq c v q) (hb : ∀ j, j < c → mn j ≤ B) (hv : v ≤ B) : ∀ j, j < c + 1 → va_up mq q v j ≤ B := fun j hj => by
  obtain ⟨h1, h2, h3, -⟩ := h
  rcases Nat.lt_trichotomy j q with e | e | e
  · rw [show va_up mq q v j = mq j from if_neg (by omega), h2 j e]; exact hb j (by omega)
  · rw [show va_up mq q v j = v from if_pos e]; exact hv
  · rw [show va_up mq q v j = mq j from if_neg (by omega), (h3 j e (by omega)).1]; exact hb (j - 1) (by omega)
def cost (g : Nat) : Nat := 20 + (g + 100000 - 1) / 100000
theorem cost_le {g : Nat} (h : g ≤ 1000000000) : cost g ≤ 20000 := by
  unfold cost
  have : (g + 100000 - 1) / 100000 ≤ (1000000000 + 100000 - 1) / 100000 := Nat.div_le_div_right (by omega)
  omega
/-- minutes of a ship's pages, by their numbers -/
def cl (sh gr : Nat → Nat) (x : Int32) : Nat → List Nat
  | 0 => []
  | i + 1 => if nI (sh i) = x then cl sh gr x i ++ [cost (gr i)] else cl sh gr x i
def grS : List Nat → Int → Nat
  | [], _ => 0
  | a :: t, x => if (a : Int) ≤ x then grS t (x - a) + 1 else 0
/-- how many of these minutes fit -/
def isCam (l : List Nat) (x : Int) (k : Nat) : Prop := ∃ s : List Nat, s.Pairwise (· ≤ ·) ∧ s.Perm l ∧ k = grS s x
theorem isCam_uniq {l : List Nat} {x : Int} {k k2 : Nat} (h1 : isCam l x k) (h2 : isCam l x k2) : k = k2 := by
  obtain ⟨s, a1, a2, a3⟩ := h1
  obtain ⟨t, b1, b2, b3⟩ := h2
  have : s = t := List.Perm.eq_of_pairwise (fun a b _ _ h3 h4 => Nat.le_antisymm h3 h4) a1 b1 (a2.trans b2.symm)
  rw [a3, b3, this]
/-- choosing, as the class reckons it -/
def chI (a s : Nat) : Nat → Nat
  | 0 => 1
  | i + 1 => chI a s i * (a - s + (i + 1)) / (i + 1)
theorem chI_le : ∀ a, a < 31 → ∀ s, s < 31 → s ≤ a → ∀ i, i < 31 → i ≤ s → chI a s i ≤ 155117520 := by decide +kernel
def chs (a s : Nat) : Nat := if a < s then 0 else chI a s s
def gcdF : Nat → Nat → Nat → Nat
  | 0, a, _ => a
  | k + 1, a, b => if b = 0 then a else gcdF k b (a % b)
theorem lsub_toInt {lf : Int64} {m : Nat} (h : -2147483648 ≤ lf.toInt ∧ lf.toInt < 2147483648) (hm : m ≤ 20000) (_ : ((m : Nat) : Int) ≤ lf.toInt) : (lf - lN m).toInt = lf.toInt - m := by
  rw [Int64.toInt_sub, pk_lT (by omega)]
  rw [Int.bmod_def]
  split <;> omega
theorem chs_le {a s : Nat} (ha : a ≤ 30) (hs : s ≤ 30) : chs a s ≤ 155117520 := by
  unfold chs
  split
  · omega
  · exact chI_le a (by omega) s (by omega) (by omega) s (by omega) (Nat.le_refl _)
theorem gcdF_le : ∀ k a b, gcdF k a b ≤ max a b
  | 0, a, b => Nat.le_max_left a b
  | k + 1, a, b => by
    rw [gcdF]
    split
    · exact Nat.le_max_left a b
    · have h1 := gcdF_le k b (a % b)
      have h2 := Nat.mod_le a b
      omega
/-- the odds, in lowest terms, as the class reckons them -/
def misN (n a b p0 : Nat) : Nat := if 0 < gcdF 128 (chs (n - b) a) (chs n a) then (if p0 = 0 then chs (n - b) a else chs n a) / gcdF 128 (chs (n - b) a) (chs n a) else (if p0 = 0 then chs (n - b) a else chs n a)
theorem bk_nle {x y : Int32} : ¬ x ≤ y ↔ y < x := by rw [Int32.lt_iff_toInt_lt, Int32.le_iff_toInt_le]; omega
end
section
set_option maxHeartbeats 4000000 in
set_option maxRecDepth 100000 in
theorem c_B_isShip (l : Launch) (dC : Nat → ClassId) (dI : Nat → Nat → Nat) (cI cL cZ : ClassId) (x : Int32) : Met l y_B_isShip ws_B_isShip { frames := 0, cells := 0, slots := 0, locals := 0 } (va_Pc [.int x] (fun _ => True)) (vp_Si (fun r => (inR 10 x ∧ r = nI 1) ∨ (¬ inR 10 x ∧ r = nI 0))) 0 0 (fun _ => False) := by
  refine Met.ofW (cc := b_B_isShip) (maxL := 1) (ret := (some .boolean)) (by decide) rfl ?_
  intro pr en s m args below meth c s₁ B hml hv
  obtain ⟨rfl, -⟩ := hv
  have hx := B.exec
  have hb := B.bytes
  have hr := B.returns
  have hts := atoms_spec (ws := ws_B_isShip) B.pre
  have htg : ∀ w ∈ gW, w.before _ s = true := fun w h => hts w (List.mem_cons_of_mem _ h)
  have hown : s.vm.findClass R_B = some m.cls := findClass_of_methodNamed B.named
  have hlocks := B.notSynchronized
  have hl := lv_entry ([.int x]) (n := 1) (Nat.le_of_ble_eq_true rfl)
  rw [lg_entry_eq]
  generalize (lg_sl ([.int x]) ++ List.replicate (1 - (lg_sl ([.int x])).length) Slot.unset).toArray = ls at hl ⊢
  have hl : lv_has ls 1 [(0, .int x)] := hl
  refine lv_iload_n hx hb d_B_isShip_0 rfl (lv_at hl 0 rfl) ?_
  refine lv_if_lt (x := x) (tgt := 14) hx hb d_B_isShip_1 (by decide) (fun c1 => ?_) (fun c1 => ?_)
  · refine lv_iconst (v := nI 0) hx hb d_B_isShip_14 (by decide +kernel) ?_
    exact W.zret (v := nI 0) (ty := .boolean) hx hb hr rfl (fun t9 ht9 hW9 => ⟨nI 0, rfl, Or.inr ⟨by first | exact inR_neg (by decide) (by assumption) | exact inR_big (by decide) (by assumption), rfl⟩, ht9⟩) (fun q h => nomatch h) d_B_isShip_15
  · refine lv_iload_n hx hb d_B_isShip_4 rfl (lv_at hl 0 rfl) ?_
    refine lv_bipush (v := nI 10) hx hb d_B_isShip_5 (by decide +kernel) ?_
    refine lv_icmp_ge (x := x) (y := nI 10) (tgt := 14) hx hb d_B_isShip_7 (by decide) (fun c7 => ?_) (fun c7 => ?_)
    · refine lv_iconst (v := nI 0) hx hb d_B_isShip_14 (by decide +kernel) ?_
      exact W.zret (v := nI 0) (ty := .boolean) hx hb hr rfl (fun t9 ht9 hW9 => ⟨nI 0, rfl, Or.inr ⟨by first | exact inR_neg (by decide) (by assumption) | exact inR_big (by decide) (by assumption), rfl⟩, ht9⟩) (fun q h => nomatch h) d_B_isShip_15
    · refine lv_iconst (v := nI 1) hx hb d_B_isShip_10 (by decide +kernel) ?_
      refine lv_goto (tgt := 15) hx hb d_B_isShip_11 (by decide) ?_
      exact W.zret (v := nI 1) (ty := .boolean) hx hb hr rfl (fun t9 ht9 hW9 => ⟨nI 1, rfl, Or.inl ⟨inR_of (by decide) (by assumption) (by assumption), rfl⟩, ht9⟩) (fun q h => nomatch h) d_B_isShip_15
set_option maxHeartbeats 4000000 in
set_option maxRecDepth 100000 in
theorem c_B_isKind (l : Launch) (dC : Nat → ClassId) (dI : Nat → Nat → Nat) (cI cL cZ : ClassId) (x : Int32) : Met l y_B_isKind ws_B_isKind { frames := 0, cells := 0, slots := 0, locals := 0 } (va_Pc [.int x] (fun _ => True)) (vp_Si (fun r => (inR 10 x ∧ r = nI 1) ∨ (¬ inR 10 x ∧ r = nI 0))) 0 0 (fun _ => False) := by
  refine Met.ofW (cc := b_B_isKind) (maxL := 1) (ret := (some .boolean)) (by decide) rfl ?_
  intro pr en s m args below meth c s₁ B hml hv
  obtain ⟨rfl, -⟩ := hv
  have hx := B.exec
  have hb := B.bytes
  have hr := B.returns
  have hts := atoms_spec (ws := ws_B_isKind) B.pre
  have htg : ∀ w ∈ gW, w.before _ s = true := fun w h => hts w (List.mem_cons_of_mem _ h)
  have hown : s.vm.findClass R_B = some m.cls := findClass_of_methodNamed B.named
  have hlocks := B.notSynchronized
  have hl := lv_entry ([.int x]) (n := 1) (Nat.le_of_ble_eq_true rfl)
  rw [lg_entry_eq]
  generalize (lg_sl ([.int x]) ++ List.replicate (1 - (lg_sl ([.int x])).length) Slot.unset).toArray = ls at hl ⊢
  have hl : lv_has ls 1 [(0, .int x)] := hl
  refine lv_iload_n hx hb d_B_isKind_0 rfl (lv_at hl 0 rfl) ?_
  refine lv_if_lt (x := x) (tgt := 14) hx hb d_B_isKind_1 (by decide) (fun c1 => ?_) (fun c1 => ?_)
  · refine lv_iconst (v := nI 0) hx hb d_B_isKind_14 (by decide +kernel) ?_
    exact W.zret (v := nI 0) (ty := .boolean) hx hb hr rfl (fun t9 ht9 hW9 => ⟨nI 0, rfl, Or.inr ⟨by first | exact inR_neg (by decide) (by assumption) | exact inR_big (by decide) (by assumption), rfl⟩, ht9⟩) (fun q h => nomatch h) d_B_isKind_15
  · refine lv_iload_n hx hb d_B_isKind_4 rfl (lv_at hl 0 rfl) ?_
    refine lv_bipush (v := nI 10) hx hb d_B_isKind_5 (by decide +kernel) ?_
    refine lv_icmp_ge (x := x) (y := nI 10) (tgt := 14) hx hb d_B_isKind_7 (by decide) (fun c7 => ?_) (fun c7 => ?_)
    · refine lv_iconst (v := nI 0) hx hb d_B_isKind_14 (by decide +kernel) ?_
      exact W.zret (v := nI 0) (ty := .boolean) hx hb hr rfl (fun t9 ht9 hW9 => ⟨nI 0, rfl, Or.inr ⟨by first | exact inR_neg (by decide) (by assumption) | exact inR_big (by decide) (by assumption), rfl⟩, ht9⟩) (fun q h => nomatch h) d_B_isKind_15
    · refine lv_iconst (v := nI 1) hx hb d_B_isKind_10 (by decide +kernel) ?_
      refine lv_goto (tgt := 15) hx hb d_B_isKind_11 (by decide) ?_
      exact W.zret (v := nI 1) (ty := .boolean) hx hb hr rfl (fun t9 ht9 hW9 => ⟨nI 1, rfl, Or.inl ⟨inR_of (by decide) (by assumption) (by assumption), rfl⟩, ht9⟩) (fun q h => nomatch h) d_B_isKind_15
set_option maxHeartbeats 4000000 in
set_option maxRecDepth 100000 in
theorem c_B_isDay (l : Launch) (dC : Nat → ClassId) (dI : Nat → Nat → Nat) (cI cL cZ : ClassId) (x : Int32) : Met l y_B_isDay ws_B_isDay { frames := 0, cells := 0, slots := 0, locals := 0 } (va_Pc [.int x] (fun _ => True)) (vp_Si (fun r => (inR 100001 x ∧ r = nI 1) ∨ (¬ inR 100001 x ∧ r = nI 0))) 0 0 (fun _ => False) := by
  refine Met.ofW (cc := b_B_isDay) (maxL := 1) (ret := (some .boolean)) (by decide) rfl ?_
  intro pr en s m args below meth c s₁ B hml hv
  obtain ⟨rfl, -⟩ := hv
  have hx := B.exec
  have hb := B.bytes
  have hr := B.returns
  have hts := atoms_spec (ws := ws_B_isDay) B.pre
  have htg : ∀ w ∈ gW, w.before _ s = true := fun w h => hts w (List.mem_cons_of_mem _ h)
  have hown : s.vm.findClass R_B = some m.cls := findClass_of_methodNamed B.named
  have hlocks := B.notSynchronized
  have hl := lv_entry ([.int x]) (n := 1) (Nat.le_of_ble_eq_true rfl)
  rw [lg_entry_eq]
  generalize (lg_sl ([.int x]) ++ List.replicate (1 - (lg_sl ([.int x])).length) Slot.unset).toArray = ls at hl ⊢
  have hl : lv_has ls 1 [(0, .int x)] := hl
  refine lv_iload_n hx hb d_B_isDay_0 rfl (lv_at hl 0 rfl) ?_
  refine lv_if_lt (x := x) (tgt := 14) hx hb d_B_isDay_1 (by decide) (fun c1 => ?_) (fun c1 => ?_)
  · refine lv_iconst (v := nI 0) hx hb d_B_isDay_14 (by decide +kernel) ?_
    exact W.zret (v := nI 0) (ty := .boolean) hx hb hr rfl (fun t9 ht9 hW9 => ⟨nI 0, rfl, Or.inr ⟨by first | exact inR_neg (by decide) (by assumption) | exact inR_gt (n := 100000) (by decide) (by assumption), rfl⟩, ht9⟩) (fun q h => nomatch h) d_B_isDay_15
  · refine lv_iload_n hx hb d_B_isDay_4 rfl (lv_at hl 0 rfl) ?_
    refine lv_ldc (own := R_B) (v := 100000) hx hb hown (htg _ k1_202) d_B_isDay_5 ?_
    refine bk_topi (y := nI 100000) (by decide +kernel) ?_
    refine lv_icmp_gt (x := x) (y := nI 100000) (tgt := 14) hx hb d_B_isDay_7 (by decide) (fun c7 => ?_) (fun c7 => ?_)
    · refine lv_iconst (v := nI 0) hx hb d_B_isDay_14 (by decide +kernel) ?_
      exact W.zret (v := nI 0) (ty := .boolean) hx hb hr rfl (fun t9 ht9 hW9 => ⟨nI 0, rfl, Or.inr ⟨by first | exact inR_neg (by decide) (by assumption) | exact inR_gt (n := 100000) (by decide) (by assumption), rfl⟩, ht9⟩) (fun q h => nomatch h) d_B_isDay_15
    · refine lv_iconst (v := nI 1) hx hb d_B_isDay_10 (by decide +kernel) ?_
      refine lv_goto (tgt := 15) hx hb d_B_isDay_11 (by decide) ?_
      exact W.zret (v := nI 1) (ty := .boolean) hx hb hr rfl (fun t9 ht9 hW9 => ⟨nI 1, rfl, Or.inl ⟨inR_le (n := 100000) (by decide) (by assumption) (by assumption), rfl⟩, ht9⟩) (fun q h => nomatch h) d_B_isDay_15
set_option maxHeartbeats 4000000 in
set_option maxRecDepth 100000 in
theorem c_B_isWeighed (l : Launch) (dC : Nat → ClassId) (dI : Nat → Nat → Nat) (cI cL cZ : ClassId) (x : Int64) : Met l y_B_isWeighed ws_B_isWeighed { frames := 0, cells := 0, slots := 0, locals := 0 } (va_Pc [.long x] (fun _ => True)) (vp_Si (fun r => (inL 1 1000000000 x ∧ r = nI 1) ∨ (¬ inL 1 1000000000 x ∧ r = nI 0))) 0 0 (fun _ => False) := by
  refine Met.ofW (cc := b_B_isWeighed) (maxL := 2) (ret := (some .boolean)) (by decide) rfl ?_
  intro pr en s m args below meth c s₁ B hml hv
  obtain ⟨rfl, -⟩ := hv
  have hx := B.exec
  have hb := B.bytes
  have hr := B.returns
  have hts := atoms_spec (ws := ws_B_isWeighed) B.pre
  have htg : ∀ w ∈ gW, w.before _ s = true := fun w h => hts w (List.mem_cons_of_mem _ h)
  have hown : s.vm.findClass R_B = some m.cls := findClass_of_methodNamed B.named
  have hlocks := B.notSynchronized
  have hl := lv_entry ([.long x]) (n := 2) (Nat.le_of_ble_eq_true rfl)
  rw [lg_entry_eq]
  generalize (lg_sl ([.long x]) ++ List.replicate (2 - (lg_sl ([.long x])).length) Slot.unset).toArray = ls at hl ⊢
  have hl : lv_has ls 2 [(0, .long x)] := hl
  refine lv_lload_n hx hb d_B_isWeighed_0 rfl (lv_at hl 0 rfl) ?_
  refine lv_lconst (v := lN 1) hx hb d_B_isWeighed_1 (by decide +kernel) ?_
  refine bk_lcmp_lt (x := x) (y := lN 1) (tgt := 18) hx hb d_B_isWeighed_2 d_B_isWeighed_3 (by decide) (fun c2 => ?_) (fun c2 => ?_)
  · refine lv_iconst (v := nI 0) hx hb d_B_isWeighed_18 (by decide +kernel) ?_
    exact W.zret (v := nI 0) (ty := .boolean) hx hb hr rfl (fun t9 ht9 hW9 => ⟨nI 0, rfl, Or.inr ⟨by first | exact inL_low (by decide) (by decide) (by assumption) | exact inL_high (by decide) (by assumption), rfl⟩, ht9⟩) (fun q h => nomatch h) d_B_isWeighed_19
  · refine lv_lload_n hx hb d_B_isWeighed_6 rfl (lv_at hl 0 rfl) ?_
    refine lv_ldc2 (own := R_B) (v := 1000000000) hx hb hown (htg _ k1_209) d_B_isWeighed_7 ?_
    refine bk_topl (y := lN 1000000000) (by decide +kernel) ?_
    refine bk_lcmp_gt (x := x) (y := lN 1000000000) (tgt := 18) hx hb d_B_isWeighed_10 d_B_isWeighed_11 (by decide) (fun c10 => ?_) (fun c10 => ?_)
    · refine lv_iconst (v := nI 0) hx hb d_B_isWeighed_18 (by decide +kernel) ?_
      exact W.zret (v := nI 0) (ty := .boolean) hx hb hr rfl (fun t9 ht9 hW9 => ⟨nI 0, rfl, Or.inr ⟨by first | exact inL_low (by decide) (by decide) (by assumption) | exact inL_high (by decide) (by assumption), rfl⟩, ht9⟩) (fun q h => nomatch h) d_B_isWeighed_19
    · refine lv_iconst (v := nI 1) hx hb d_B_isWeighed_14 (by decide +kernel) ?_
      refine lv_goto (tgt := 19) hx hb d_B_isWeighed_15 (by decide) ?_
      exact W.zret (v := nI 1) (ty := .boolean) hx hb hr rfl (fun t9 ht9 hW9 => ⟨nI 1, rfl, Or.inl ⟨inL_of (by decide) (by decide) (by assumption) (by assumption), rfl⟩, ht9⟩) (fun q h => nomatch h) d_B_isWeighed_19
set_option maxHeartbeats 4000000 in
set_option maxRecDepth 100000 in
theorem c_Bk_has (l : Launch) (dC : Nat → ClassId) (dI : Nat → Nat → Nat) (cI cL cZ : ClassId) (h a1 a2 a3 a4 n : Nat) (x : Int32) (hn : n ≤ 30) : Met l y_Bk_has ws_Bk_has { frames := 0, cells := 0, slots := 0, locals := 0 } (va_Pc [.ref h, .int x] (rdP (dC, dI) vwCl [(cI, .int), (cL, .long), (cZ, .boolean)] [(h, .inr (1, [.ref a1, .ref a2, .ref a3, .ref a4, .int (nI n)]))])) (vp_Si (fun r => (inR n x ∧ r = nI 1) ∨ (¬ inR n x ∧ r = nI 0))) 0 0 (fun _ => False) := by
  refine Met.ofW (cc := b_Bk_has) (maxL := 2) (ret := (some .boolean)) (by decide) rfl ?_
  intro pr en s m args below meth c s₁ B hml hv
  obtain ⟨rfl, hN, hP, hK⟩ := hv
  have hx := B.exec
  have hb := B.bytes
  have hr := B.returns
  have hts := atoms_spec (ws := ws_Bk_has) B.pre
  have htg : ∀ w ∈ gW, w.before _ s = true := fun w h => hts w (List.mem_cons_of_mem _ h)
  have hown : s.vm.findClass R_Bk = some m.cls := findClass_of_methodNamed B.named
  have hlocks := B.notSynchronized
  have hl := lv_entry ([.ref h, .int x]) (n := 2) (Nat.le_of_ble_eq_true rfl)
  rw [lg_entry_eq]
  generalize (lg_sl ([.ref h, .int x]) ++ List.replicate (2 - (lg_sl ([.ref h, .int x])).length) Slot.unset).toArray = ls at hl ⊢
  have hl : lv_has ls 2 [(0, .ref h), (1, .int x)] := hl
  refine lv_iload_n hx hb d_Bk_has_0 rfl (lv_at hl 1 rfl) ?_
  refine lv_if_lt (x := x) (tgt := 16) hx hb d_Bk_has_1 (by decide) (fun c1 => ?_) (fun c1 => ?_)
  · refine lv_iconst (v := nI 0) hx hb d_Bk_has_16 (by decide +kernel) ?_
    exact W.zret (v := nI 0) (ty := .boolean) hx hb hr rfl (fun t9 ht9 hW9 => ⟨nI 0, rfl, Or.inr ⟨by first | exact inR_neg (by omega) (by assumption) | exact inR_big (by omega) (by assumption), rfl⟩, ht9⟩) (fun q h => nomatch h) d_Bk_has_17
  · refine lv_iload_n hx hb d_Bk_has_4 rfl (lv_at hl 1 rfl) ?_
    refine lv_aload_n hx hb d_Bk_has_5 rfl (lv_at hl 0 rfl) ?_
    refine va_get (D := (dC, dI)) (ci := 1) (v := .int (nI n)) (C := R_Bk) (T := F_Bk) (N := 5) hx hb htg iw_Bk hown hK hP 0 rfl rfl 4 (by decide) (htg _ k1_38) (fun _ h9 => h9) rfl d_Bk_has_6 ?_
    refine lv_icmp_ge (x := x) (y := nI n) (tgt := 16) hx hb d_Bk_has_9 (by decide) (fun c9 => ?_) (fun c9 => ?_)
    · refine lv_iconst (v := nI 0) hx hb d_Bk_has_16 (by decide +kernel) ?_
      exact W.zret (v := nI 0) (ty := .boolean) hx hb hr rfl (fun t9 ht9 hW9 => ⟨nI 0, rfl, Or.inr ⟨by first | exact inR_neg (by omega) (by assumption) | exact inR_big (by omega) (by assumption), rfl⟩, ht9⟩) (fun q h => nomatch h) d_Bk_has_17
    · refine lv_iconst (v := nI 1) hx hb d_Bk_has_12 (by decide +kernel) ?_
      refine lv_goto (tgt := 17) hx hb d_Bk_has_13 (by decide) ?_
      exact W.zret (v := nI 1) (ty := .boolean) hx hb hr rfl (fun t9 ht9 hW9 => ⟨nI 1, rfl, Or.inl ⟨inR_of (by omega) (by assumption) (by assumption), rfl⟩, ht9⟩) (fun q h => nomatch h) d_Bk_has_17
set_option maxHeartbeats 4000000 in
set_option maxRecDepth 100000 in
theorem c_Bk_gramsOf (l : Launch) (dC : Nat → ClassId) (dI : Nat → Nat → Nat) (cI cL cZ : ClassId) (h a1 a2 a3 a4 n : Nat) (gr : Nat → Nat) (x : Int32) (hn : n ≤ 30) : Met l y_Bk_gramsOf ws_Bk_gramsOf { frames := 1, cells := 0, slots := 0, locals := 21 } (va_Pc [.ref h, .int x] (rdP (dC, dI) vwCl [(cI, .int), (cL, .long), (cZ, .boolean)] [(h, .inr (1, [.ref a1, .ref a2, .ref a3, .ref a4, .int (nI n)])), (a4, .inl (cL, 30, .inr (.inl (aL gr))))])) (vp_Sl (fun r => (∃ j, j < n ∧ x = nI j ∧ r = lN (gr j)) ∨ (¬ inR n x ∧ r = lN 0))) 0 0 (fun _ => False) := by
  refine Met.ofW (cc := b_Bk_gramsOf) (maxL := 2) (ret := (some .long)) (by decide) rfl ?_
  intro pr en s m args below meth c s₁ B hml hv
  obtain ⟨rfl, hN, hP, hK⟩ := hv
  have hx := B.exec
  have hb := B.bytes
  have hr := B.returns
  have hts := atoms_spec (ws := ws_Bk_gramsOf) B.pre
  have htg : ∀ w ∈ gW, w.before _ s = true := fun w h => hts w (List.mem_cons_of_mem _ h)
  have hown : s.vm.findClass R_Bk = some m.cls := findClass_of_methodNamed B.named
  have hlocks := B.notSynchronized
  have hl := lv_entry ([.ref h, .int x]) (n := 2) (Nat.le_of_ble_eq_true rfl)
  rw [lg_entry_eq]
  generalize (lg_sl ([.ref h, .int x]) ++ List.replicate (2 - (lg_sl ([.ref h, .int x])).length) Slot.unset).toArray = ls at hl ⊢
  have hl : lv_has ls 2 [(0, .ref h), (1, .int x)] := hl
  refine lv_aload_n hx hb d_Bk_gramsOf_0 rfl (lv_at hl 0 rfl) ?_
  refine lv_iload_n hx hb d_Bk_gramsOf_1 rfl (lv_at hl 1 rfl) ?_
  refine vp_callSi (va_runV (As := [.int x]) (rest := []) ⟨hx, hb, hml, hown, htg⟩ (c_Bk_has l dC dI cI cL cZ h a1 a2 a3 a4 n x (by omega)) (cwV 1 htg (gdV k1_230 k1_231 k1_232 k1_2 kc_Bk_has) rfl rfl rfl (by decide +kernel) ⟨Nat.le_of_ble_eq_true rfl, Nat.le_of_ble_eq_true rfl⟩) ⟨bk_blind, va_recv hK hP (ci := 1) (q0 := 0) rfl rfl, fun U hU hW => ⟨rfl, nw_warm hW hN, by rw [hU]; exact hP.sub [0] rfl, va_K.moved hW.alike hK⟩⟩ rfl rfl hl.1 rfl (lv_room (Nat.le_of_ble_eq_true rfl)) d_Bk_gramsOf_2 ⟨Nat.le_of_ble_eq_true rfl, Nat.le_of_ble_eq_true rfl⟩).run (fun r2 e2 => ?_)
  rcases e2 with ⟨⟨j2, hj2, hx2⟩, rfl⟩ | ⟨n2, rfl⟩
  · refine bk_if_eq (a := 1) (tgt := 17) hx hb (by omega) d_Bk_gramsOf_5 (by decide) (fun c5 => absurd c5 (by decide)) (fun c5 => ?_)
    refine lv_aload_n hx hb d_Bk_gramsOf_8 rfl (lv_at hl 0 rfl) ?_
    refine va_get (D := (dC, dI)) (ci := 1) (v := .ref a4) (C := R_Bk) (T := F_Bk) (N := 5) hx hb htg iw_Bk hown hK hP 0 rfl rfl 3 (by decide) (htg _ k1_36) (fun _ h9 => h9) rfl d_Bk_gramsOf_9 ?_
    refine lv_iload_n hx hb d_Bk_gramsOf_12 rfl (lv_at hl 1 rfl) ?_
    refine bk_topi (y := nI j2) hx2 ?_
    refine bk_lald (v := lN (gr j2)) hx hb hK hP 1 1 rfl rfl (by omega) (by decide) rfl d_Bk_gramsOf_13 ?_
    refine lv_goto (tgt := 18) hx hb d_Bk_gramsOf_14 (by decide) ?_
    exact W.lret (v := lN (gr j2)) hx hb hr (fun t9 ht9 hW9 => ⟨lN (gr j2), rfl, Or.inl ⟨_, by assumption, by assumption, rfl⟩, ht9⟩) (fun q h => nomatch h) d_Bk_gramsOf_18
  · refine bk_if_eq (a := 0) (tgt := 17) hx hb (by omega) d_Bk_gramsOf_5 (by decide) (fun c5 => ?_) (fun c5 => absurd c5 (by decide))
    refine lv_lconst (v := lN 0) hx hb d_Bk_gramsOf_17 (by decide +kernel) ?_
    exact W.lret (v := lN 0) hx hb hr (fun t9 ht9 hW9 => ⟨lN 0, rfl, Or.inr ⟨by assumption, rfl⟩, ht9⟩) (fun q h => nomatch h) d_Bk_gramsOf_18
set_option maxHeartbeats 4000000 in
set_option maxRecDepth 100000 in
theorem c_Bk_gramsOfKind (l : Launch) (dC : Nat → ClassId) (dI : Nat → Nat → Nat) (cI cL cZ : ClassId) (h a1 a2 a3 a4 n : Nat) (kd gr : Nat → Nat) (x : Int32) (hn : n ≤ 30) : Met l y_Bk_gramsOfKind ws_Bk_gramsOfKind { frames := 0, cells := 0, slots := 0, locals := 0 } (va_Pc [.ref h, .int x] (rdP (dC, dI) vwCl [(cI, .int), (cL, .long), (cZ, .boolean)] [(h, .inr (1, [.ref a1, .ref a2, .ref a3, .ref a4, .int (nI n)])), (a3, .inl (cI, 30, .inl (aI kd))), (a4, .inl (cL, 30, .inr (.inl (aL gr))))])) (vp_Sl (fun r => r = lN (sumK kd gr x n))) 0 0 (fun _ => False) := by
  refine Met.ofW (cc := b_Bk_gramsOfKind) (maxL := 5) (ret := (some .long)) (by decide) rfl ?_
  intro pr en s m args below meth c s₁ B hml hv
  obtain ⟨rfl, hN, hP, hK⟩ := hv
  have hx := B.exec
  have hb := B.bytes
  have hr := B.returns
  have hts := atoms_spec (ws := ws_Bk_gramsOfKind) B.pre
  have htg : ∀ w ∈ gW, w.before _ s = true := fun w h => hts w (List.mem_cons_of_mem _ h)
  have hown : s.vm.findClass R_Bk = some m.cls := findClass_of_methodNamed B.named
  have hlocks := B.notSynchronized
  have hl := lv_entry ([.ref h, .int x]) (n := 5) (Nat.le_of_ble_eq_true rfl)
  rw [lg_entry_eq]
  generalize (lg_sl ([.ref h, .int x]) ++ List.replicate (5 - (lg_sl ([.ref h, .int x])).length) Slot.unset).toArray = ls at hl ⊢
  have hl : lv_has ls 5 [(0, .ref h), (1, .int x)] := hl
  refine lv_lconst (v := lN 0) hx hb d_Bk_gramsOfKind_0 (by decide +kernel) ?_
  refine lv_lstore_n (lv' := [(2, .long (lN 0)), (0, .ref h), (1, .int x)]) hx hb d_Bk_gramsOfKind_1 rfl hl (by decide) rfl (fun ls hl => ?_)
  refine lv_iconst (v := nI 0) hx hb d_Bk_gramsOfKind_2 (by decide +kernel) ?_
  refine lv_istore (lv' := [(4, .int (nI 0)), (2, .long (lN 0)), (0, .ref h), (1, .int x)]) hx hb d_Bk_gramsOfKind_3 hl (by decide) rfl (fun ls hl => ?_)
  have J5 : ∀ (k : Nat) (i : Nat) (acc : Nat), (i + k = n) → (acc = sumK kd gr x i) → ∀ (ls : Array Slot), lv_has ls 5 [(0, .ref h), (1, .int x), (2, .long (lN acc)), (4, .int (nI i))] → W pr l en (headSpec ws_Bk_gramsOfKind { frames := 0, cells := 0, slots := 0, locals := 0 }).room s m ([.ref h, .int x] : List Value).toArray below meth c s.heap [] 0 0 (MQ below (vp_Sl (fun r => r = lN (sumK kd gr x n))) ([.ref h, .int x] : List Value).toArray s 0 0 (fun _ => False)) (F0 m 5 ls []) := by
    intro k
    induction k with
    | zero =>
      intro i acc hk hacc ls hl
      refine lv_iload hx hb d_Bk_gramsOfKind_5 (lv_at hl 3 rfl) ?_
      refine lv_aload_n hx hb d_Bk_gramsOfKind_7 rfl (lv_at hl 0 rfl) ?_
      refine va_get (D := (dC, dI)) (ci := 1) (v := .int (nI n)) (C := R_Bk) (T := F_Bk) (N := 5) hx hb htg iw_Bk hown hK hP 0 rfl rfl 4 (by decide) (htg _ k1_38) (fun _ h9 => h9) rfl d_Bk_gramsOfKind_8 ?_
      refine bk_icmp_ge (a := i) (b := n) (tgt := 41) hx hb (by omega) (by omega) d_Bk_gramsOfKind_11 (by decide) (fun c11 => ?_) (fun c11 => by exfalso; omega)
      refine lv_lload_n hx hb d_Bk_gramsOfKind_41 rfl (lv_at hl 2 rfl) ?_
      exact W.lret (v := lN acc) hx hb hr (fun t9 ht9 hW9 => ⟨lN acc, rfl, (by rw [hacc, show i = n by omega]), ht9⟩) (fun q h => nomatch h) d_Bk_gramsOfKind_42
    | succ k ih5 =>
      intro i acc hk hacc ls hl
      refine lv_iload hx hb d_Bk_gramsOfKind_5 (lv_at hl 3 rfl) ?_
      refine lv_aload_n hx hb d_Bk_gramsOfKind_7 rfl (lv_at hl 0 rfl) ?_
      refine va_get (D := (dC, dI)) (ci := 1) (v := .int (nI n)) (C := R_Bk) (T := F_Bk) (N := 5) hx hb htg iw_Bk hown hK hP 0 rfl rfl 4 (by decide) (htg _ k1_38) (fun _ h9 => h9) rfl d_Bk_gramsOfKind_8 ?_
      refine bk_icmp_ge (a := i) (b := n) (tgt := 41) hx hb (by omega) (by omega) d_Bk_gramsOfKind_11 (by decide) (fun c11 => by exfalso; omega) (fun c11 => ?_)
      refine lv_aload_n hx hb d_Bk_gramsOfKind_14 rfl (lv_at hl 0 rfl) ?_
      refine va_get (D := (dC, dI)) (ci := 1) (v := .ref a3) (C := R_Bk) (T := F_Bk) (N := 5) hx hb htg iw_Bk hown hK hP 0 rfl rfl 2 (by decide) (htg _ k1_35) (fun _ h9 => h9) rfl d_Bk_gramsOfKind_15 ?_
      refine lv_iload hx hb d_Bk_gramsOfKind_18 (lv_at hl 3 rfl) ?_
      refine bk_iald (v := nI (kd i)) hx hb hK hP 1 0 rfl rfl (by omega) (by decide) rfl d_Bk_gramsOfKind_20 ?_
      refine lv_iload_n hx hb d_Bk_gramsOfKind_21 rfl (lv_at hl 1 rfl) ?_
      refine lv_icmp_ne (x := nI (kd i)) (y := x) (tgt := 35) hx hb d_Bk_gramsOfKind_22 (by decide) (fun c22 => ?_) (fun c22 => ?_)
      · refine lv_iinc (v := nI (i + 1)) (lv' := [(4, .int (nI (i + 1))), (0, .ref h), (1, .int x), (2, .long (lN acc))]) hx hb d_Bk_gramsOfKind_35 hl (k := 3) rfl (bk_inc i) (by decide) rfl (fun ls hl => ?_)
        refine lv_goto (tgt := 5) hx hb d_Bk_gramsOfKind_38 (by decide) ?_
        exact ih5 (i + 1) acc (by omega) (by first | rfl | simp [sumK, hacc, *]) ls (lv_sub hl [1, 2, 3, 0] rfl)
      · refine lv_lload_n hx hb d_Bk_gramsOfKind_25 rfl (lv_at hl 2 rfl) ?_
        refine lv_aload_n hx hb d_Bk_gramsOfKind_26 rfl (lv_at hl 0 rfl) ?_
        refine va_get (D := (dC, dI)) (ci := 1) (v := .ref a4) (C := R_Bk) (T := F_Bk) (N := 5) hx hb htg iw_Bk hown hK hP 0 rfl rfl 3 (by decide) (htg _ k1_36) (fun _ h9 => h9) rfl d_Bk_gramsOfKind_27 ?_
        refine lv_iload hx hb d_Bk_gramsOfKind_30 (lv_at hl 3 rfl) ?_
        refine bk_lald (v := lN (gr i)) hx hb hK hP 2 1 rfl rfl (by omega) (by decide) rfl d_Bk_gramsOfKind_32 ?_
        refine bk_ladd hx hb d_Bk_gramsOfKind_33 ?_
        refine lv_lstore_n (lv' := [(2, .long (lN (acc + (gr i)))), (0, .ref h), (1, .int x), (4, .int (nI i))]) hx hb d_Bk_gramsOfKind_34 rfl hl (by decide) rfl (fun ls hl => ?_)
        refine lv_iinc (v := nI (i + 1)) (lv' := [(4, .int (nI (i + 1))), (2, .long (lN (acc + (gr i)))), (0, .ref h), (1, .int x)]) hx hb d_Bk_gramsOfKind_35 hl (k := 3) rfl (bk_inc i) (by decide) rfl (fun ls hl => ?_)
        refine lv_goto (tgt := 5) hx hb d_Bk_gramsOfKind_38 (by decide) ?_
        exact ih5 (i + 1) (acc + (gr i)) (by omega) (by first | rfl | simp [sumK, hacc, *]) ls (lv_sub hl [2, 3, 1, 0] rfl)
  exact J5 n 0 0 (by omega) (by first | rfl | simp [sumK, hacc, *]) ls (lv_sub hl [2, 3, 1, 0] rfl)
set_option maxHeartbeats 4000000 in
set_option maxRecDepth 100000 in
theorem c_Bk_add (l : Launch) (dC : Nat → ClassId) (dI : Nat → Nat → Nat) (cI cL cZ : ClassId) (sz : Nat) (h a1 a2 a3 a4 n : Nat) (sh dy kd gr : Nat → Nat) (x1 x2 x3 : Int32) (x4 : Int64) (hn : n ≤ 30) : Met l y_Bk_add ws_Bk_add { frames := 1, cells := 0, slots := 0, locals := 21 } (va_Pc [.ref h, .int x1, .int x2, .int x3, .long x4] (wrP (dC, dI) vwCl [(cI, .int), (cL, .long), (cZ, .boolean)] [(h, .inr (1, [.ref a1, .ref a2, .ref a3, .ref a4, .int (nI n)])), (a1, .inl (cI, 30, .inl (aI sh))), (a2, .inl (cI, 30, .inl (aI dy))), (a3, .inl (cI, 30, .inl (aI kd))), (a4, .inl (cL, 30, .inr (.inl (aL gr))))] sz)) (va_Qi (fun (r : Int32) (u : Nat × (Nat → Nat) × (Nat → Nat) × (Nat → Nat) × (Nat → Nat)) => (addOk n x1 x2 x3 x4 ∧ r = nI n ∧ u = (n + 1, va_up sh n (tn x1), va_up dy n (tn x2), va_up kd n (tn x3), va_up gr n (tl x4))) ∨ (¬ addOk n x1 x2 x3 x4 ∧ r = oI none ∧ u = (n, sh, dy, kd, gr))) (fun (u : Nat × (Nat → Nat) × (Nat → Nat) × (Nat → Nat) × (Nat → Nat)) => wrQ (dC, dI) vwCl [(cI, .int), (cL, .long), (cZ, .boolean)] (va_A [(h, .inr (1, [.ref a1, .ref a2, .ref a3, .ref a4, .int (nI n)])), (a1, .inl (cI, 30, .inl (aI sh))), (a2, .inl (cI, 30, .inl (aI dy))), (a3, .inl (cI, 30, .inl (aI kd))), (a4, .inl (cL, 30, .inr (.inl (aL gr))))] sz) [(h, .inr (1, [.ref a1, .ref a2, .ref a3, .ref a4, .int (nI u.1)])), (a1, .inl (cI, 30, .inl (aI u.2.1))), (a2, .inl (cI, 30, .inl (aI u.2.2.1))), (a3, .inl (cI, 30, .inl (aI u.2.2.2.1))), (a4, .inl (cL, 30, .inr (.inl (aL u.2.2.2.2))))]) (va_A [(h, .inr (1, [.ref a1, .ref a2, .ref a3, .ref a4, .int (nI n)])), (a1, .inl (cI, 30, .inl (aI sh))), (a2, .inl (cI, 30, .inl (aI dy))), (a3, .inl (cI, 30, .inl (aI kd))), (a4, .inl (cL, 30, .inr (.inl (aL gr))))] sz)) 0 0 (va_A [(h, .inr (1, [.ref a1, .ref a2, .ref a3, .ref a4, .int (nI n)])), (a1, .inl (cI, 30, .inl (aI sh))), (a2, .inl (cI, 30, .inl (aI dy))), (a3, .inl (cI, 30, .inl (aI kd))), (a4, .inl (cL, 30, .inr (.inl (aL gr))))] sz) := by
  refine Met.ofW (cc := b_Bk_add) (maxL := 7) (ret := (some .int)) (by decide) rfl ?_
  intro pr en s m args below meth c s₁ B hml hv
  obtain ⟨rfl, hN, hsz, hP, hK, hD0⟩ := hv
  have hx := B.exec
  have hb := B.bytes
  have hr := B.returns
  have hts := atoms_spec (ws := ws_Bk_add) B.pre
  have htg : ∀ w ∈ gW, w.before _ s = true := fun w h => hts w (List.mem_cons_of_mem _ h)
  have hown : s.vm.findClass R_Bk = some m.cls := findClass_of_methodNamed B.named
  have hlocks := B.notSynchronized
  subst hsz
  have hD := hD0.self (sz := s.heap.size)
  generalize hAe : va_A [(h, .inr (1, [.ref a1, .ref a2, .ref a3, .ref a4, .int (nI n)])), (a1, .inl (cI, 30, .inl (aI sh))), (a2, .inl (cI, 30, .inl (aI dy))), (a3, .inl (cI, 30, .inl (aI kd))), (a4, .inl (cL, 30, .inr (.inl (aL gr))))] s.heap.size = A at hD ⊢
  have hA : ∀ q : Nat, s.heap.size ≤ q → A q := fun q h => by rw [← hAe]; exact Or.inr h
  have hS : va_S A s.heap s.heap [] := va_S.rf
  have hP : va_P (dC, dI) vwCl [(h, .inr (1, [.ref a1, .ref a2, .ref a3, .ref a4, .int (nI n)])), (a1, .inl (cI, 30, .inl (aI sh))), (a2, .inl (cI, 30, .inl (aI dy))), (a3, .inl (cI, 30, .inl (aI kd))), (a4, .inl (cL, 30, .inr (.inl (aL gr))))] s.heap := hP
  have hl := lv_entry ([.ref h, .int x1, .int x2, .int x3, .long x4]) (n := 7) (Nat.le_of_ble_eq_true rfl)
  rw [lg_entry_eq]
  generalize (lg_sl ([.ref h, .int x1, .int x2, .int x3, .long x4]) ++ List.replicate (7 - (lg_sl ([.ref h, .int x1, .int x2, .int x3, .long x4])).length) Slot.unset).toArray = ls at hl ⊢
  have hl : lv_has ls 7 [(0, .ref h), (1, .int x1), (2, .int x2), (3, .int x3), (4, .long x4)] := hl
  refine lv_aload_n hx hb d_Bk_add_0 rfl (lv_at hl 0 rfl) ?_
  refine va_get (D := (dC, dI)) (ci := 1) (v := .int (nI n)) (C := R_Bk) (T := F_Bk) (N := 5) hx hb htg iw_Bk hown hK hP 0 rfl rfl 4 (by decide) (htg _ k1_38) (fun _ h9 => h9) rfl d_Bk_add_1 ?_
  refine lv_bipush (v := nI 30) hx hb d_Bk_add_4 (by decide +kernel) ?_
  refine bk_icmp_ge (a := n) (b := 30) (tgt := 38) hx hb (by omega) (by omega) d_Bk_add_6 (by decide) (fun c6 => ?_) (fun c6 => ?_)
  · refine lv_iconst (v := oI none) hx hb d_Bk_add_38 (by decide +kernel) ?_
    have hP9 := hP.sub (ws' := [(h, .inr (1, [.ref a1, .ref a2, .ref a3, .ref a4, .int (nI n)])), (a1, .inl (cI, 30, .inl (aI sh))), (a2, .inl (cI, 30, .inl (aI dy))), (a3, .inl (cI, 30, .inl (aI kd))), (a4, .inl (cL, 30, .inr (.inl (aL gr))))]) [0, 1, 2, 3, 4] rfl
    have hD9 := hD.sub (ws' := [(h, .inr (1, [.ref a1, .ref a2, .ref a3, .ref a4, .int (nI n)])), (a1, .inl (cI, 30, .inl (aI sh))), (a2, .inl (cI, 30, .inl (aI dy))), (a3, .inl (cI, 30, .inl (aI kd))), (a4, .inl (cL, 30, .inr (.inl (aL gr))))]) [0, 1, 2, 3, 4] (by decide) rfl
    exact W.iret (v := oI none) hx hb hr (fun t9 ht9 hW9 => ⟨⟨oI none, (n, sh, dy, kd, gr), rfl, Or.inr ⟨fun q => by obtain ⟨q1, q2, q3, q4, q5⟩ := q; first | omega | contradiction, rfl, rfl⟩, by rw [ht9]; exact hP9, va_K.moved hW9.alike hK, hD9⟩, hS.F ht9⟩) hS.2.2 d_Bk_add_39
  · refine lv_iload_n hx hb d_Bk_add_9 rfl (lv_at hl 1 rfl) ?_
    refine vp_callSi (va_runSN (As := [.int x1]) (rest := []) ⟨hx, hb, hml, hown, htg⟩ (c_B_isShip l dC dI cI cL cZ x1 ) ⟨va_cnB 1 htg (gd kc_B_isShip) rfl rfl rfl (hN _ (List.mem_of_getElem? (i := 4) rfl)) (htg _ k1_1) (by decide +kernel) ⟨Nat.le_of_ble_eq_true rfl, Nat.le_of_ble_eq_true rfl⟩, htg _ k1_197, trivial⟩ ⟨bk_blind0, fun U hU hW => ⟨rfl, trivial⟩⟩ rfl rfl hl.1 rfl (lv_room (Nat.le_of_ble_eq_true rfl)) d_Bk_add_10 ⟨Nat.le_of_ble_eq_true rfl, Nat.le_of_ble_eq_true rfl⟩).run (fun r10 e10 => ?_)
    rcases e10 with ⟨⟨j10, hj10, hx10⟩, rfl⟩ | ⟨n10, rfl⟩
    · refine bk_if_eq (a := 1) (tgt := 38) hx hb (by omega) d_Bk_add_13 (by decide) (fun c13 => absurd c13 (by decide)) (fun c13 => ?_)
      refine lv_iload_n hx hb d_Bk_add_16 rfl (lv_at hl 2 rfl) ?_
      refine vp_callSi (va_runSN (As := [.int x2]) (rest := []) ⟨hx, hb, hml, hown, htg⟩ (c_B_isDay l dC dI cI cL cZ x2 ) ⟨va_cnB 1 htg (gd kc_B_isDay) rfl rfl rfl (hN _ (List.mem_of_getElem? (i := 5) rfl)) (htg _ k1_1) (by decide +kernel) ⟨Nat.le_of_ble_eq_true rfl, Nat.le_of_ble_eq_true rfl⟩, htg _ k1_200, trivial⟩ ⟨bk_blind0, fun U hU hW => ⟨rfl, trivial⟩⟩ rfl rfl hl.1 rfl (lv_room (Nat.le_of_ble_eq_true rfl)) d_Bk_add_17 ⟨Nat.le_of_ble_eq_true rfl, Nat.le_of_ble_eq_true rfl⟩).run (fun r17 e17 => ?_)
      rcases e17 with ⟨⟨j17, hj17, hx17⟩, rfl⟩ | ⟨n17, rfl⟩
      · refine bk_if_eq (a := 1) (tgt := 38) hx hb (by omega) d_Bk_add_20 (by decide) (fun c20 => absurd c20 (by decide)) (fun c20 => ?_)
        refine lv_iload_n hx hb d_Bk_add_23 rfl (lv_at hl 3 rfl) ?_
        refine vp_callSi (va_runSN (As := [.int x3]) (rest := []) ⟨hx, hb, hml, hown, htg⟩ (c_B_isKind l dC dI cI cL cZ x3 ) ⟨va_cnB 1 htg (gd kc_B_isKind) rfl rfl rfl (hN _ (List.mem_of_getElem? (i := 6) rfl)) (htg _ k1_1) (by decide +kernel) ⟨Nat.le_of_ble_eq_true rfl, Nat.le_of_ble_eq_true rfl⟩, htg _ k1_204, trivial⟩ ⟨bk_blind0, fun U hU hW => ⟨rfl, trivial⟩⟩ rfl rfl hl.1 rfl (lv_room (Nat.le_of_ble_eq_true rfl)) d_Bk_add_24 ⟨Nat.le_of_ble_eq_true rfl, Nat.le_of_ble_eq_true rfl⟩).run (fun r24 e24 => ?_)
        rcases e24 with ⟨⟨j24, hj24, hx24⟩, rfl⟩ | ⟨n24, rfl⟩
        · refine bk_if_eq (a := 1) (tgt := 38) hx hb (by omega) d_Bk_add_27 (by decide) (fun c27 => absurd c27 (by decide)) (fun c27 => ?_)
          refine lv_lload hx hb d_Bk_add_30 (lv_at hl 4 rfl) ?_
          refine vp_callSi (va_runSN (As := [.long x4]) (rest := []) ⟨hx, hb, hml, hown, htg⟩ (c_B_isWeighed l dC dI cI cL cZ x4 ) ⟨va_cnB 1 htg (gd kc_B_isWeighed) rfl rfl rfl (hN _ (List.mem_of_getElem? (i := 7) rfl)) (htg _ k1_1) (by decide +kernel) ⟨Nat.le_of_ble_eq_true rfl, Nat.le_of_ble_eq_true rfl⟩, htg _ k1_207, trivial⟩ ⟨bk_blind0, fun U hU hW => ⟨rfl, trivial⟩⟩ rfl rfl hl.1 rfl (lv_room (Nat.le_of_ble_eq_true rfl)) d_Bk_add_32 ⟨Nat.le_of_ble_eq_true rfl, Nat.le_of_ble_eq_true rfl⟩).run (fun r32 e32 => ?_)
          rcases e32 with ⟨⟨j32, ha32, hj32, hx32⟩, rfl⟩ | ⟨n32, rfl⟩
          · refine bk_if_ne (a := 1) (tgt := 40) hx hb (by omega) d_Bk_add_35 (by decide) (fun c35 => ?_) (fun c35 => absurd c35 (by decide))
            refine lv_aload_n hx hb d_Bk_add_40 rfl (lv_at hl 0 rfl) ?_
            refine va_get (D := (dC, dI)) (ci := 1) (v := .int (nI n)) (C := R_Bk) (T := F_Bk) (N := 5) hx hb htg iw_Bk hown hK hP 0 rfl rfl 4 (by decide) (htg _ k1_38) (fun _ h9 => h9) rfl d_Bk_add_41 ?_
            refine lv_istore (lv' := [(6, .int (nI n)), (0, .ref h), (1, .int x1), (2, .int x2), (3, .int x3), (4, .long x4)]) hx hb d_Bk_add_44 hl (by decide) rfl (fun ls hl => ?_)
            refine lv_aload_n hx hb d_Bk_add_46 rfl (lv_at hl 1 rfl) ?_
            refine va_get (D := (dC, dI)) (ci := 1) (v := .ref a1) (C := R_Bk) (T := F_Bk) (N := 5) hx hb htg iw_Bk hown hK hP 0 rfl rfl 0 (by decide) (htg _ k1_30) (fun _ h9 => h9) rfl d_Bk_add_47 ?_
            refine lv_iload hx hb d_Bk_add_50 (lv_at hl 0 rfl) ?_
            refine lv_iload_n hx hb d_Bk_add_52 rfl (lv_at hl 2 rfl) ?_
            refine bk_topi (y := nI j10) hx10 ?_
            refine bk_iast (x := nI j10) (f2 := aI (va_up sh n j10)) hx hb hK hP hD hS 1 0 rfl rfl (by omega) (by decide) (aI_up _ _ _) d_Bk_add_53 (fun H locs hP hD hS => ?_)
            have hP : va_P (dC, dI) vwCl [(h, .inr (1, [.ref a1, .ref a2, .ref a3, .ref a4, .int (nI n)])), (a1, .inl (cI, 30, .inl (aI (va_up sh n j10)))), (a2, .inl (cI, 30, .inl (aI dy))), (a3, .inl (cI, 30, .inl (aI kd))), (a4, .inl (cL, 30, .inr (.inl (aL gr))))] H := hP
            have hD : va_D A [(h, .inr (1, [.ref a1, .ref a2, .ref a3, .ref a4, .int (nI n)])), (a1, .inl (cI, 30, .inl (aI (va_up sh n j10)))), (a2, .inl (cI, 30, .inl (aI dy))), (a3, .inl (cI, 30, .inl (aI kd))), (a4, .inl (cL, 30, .inr (.inl (aL gr))))] := hD
            refine lv_aload_n hx hb d_Bk_add_54 rfl (lv_at hl 1 rfl) ?_
            refine va_get (D := (dC, dI)) (ci := 1) (v := .ref a2) (C := R_Bk) (T := F_Bk) (N := 5) hx hb htg iw_Bk hown hK hP 0 rfl rfl 1 (by decide) (htg _ k1_33) (fun _ h9 => h9) rfl d_Bk_add_55 ?_
            refine lv_iload hx hb d_Bk_add_58 (lv_at hl 0 rfl) ?_
            refine lv_iload_n hx hb d_Bk_add_60 rfl (lv_at hl 3 rfl) ?_
            refine bk_topi (y := nI j17) hx17 ?_
            refine bk_iast (x := nI j17) (f2 := aI (va_up dy n j17)) hx hb hK hP hD hS 2 0 rfl rfl (by omega) (by decide) (aI_up _ _ _) d_Bk_add_61 (fun H locs hP hD hS => ?_)
            have hP : va_P (dC, dI) vwCl [(h, .inr (1, [.ref a1, .ref a2, .ref a3, .ref a4, .int (nI n)])), (a1, .inl (cI, 30, .inl (aI (va_up sh n j10)))), (a2, .inl (cI, 30, .inl (aI (va_up dy n j17)))), (a3, .inl (cI, 30, .inl (aI kd))), (a4, .inl (cL, 30, .inr (.inl (aL gr))))] H := hP
            have hD : va_D A [(h, .inr (1, [.ref a1, .ref a2, .ref a3, .ref a4, .int (nI n)])), (a1, .inl (cI, 30, .inl (aI (va_up sh n j10)))), (a2, .inl (cI, 30, .inl (aI (va_up dy n j17)))), (a3, .inl (cI, 30, .inl (aI kd))), (a4, .inl (cL, 30, .inr (.inl (aL gr))))] := hD
            refine lv_aload_n hx hb d_Bk_add_62 rfl (lv_at hl 1 rfl) ?_
            refine va_get (D := (dC, dI)) (ci := 1) (v := .ref a3) (C := R_Bk) (T := F_Bk) (N := 5) hx hb htg iw_Bk hown hK hP 0 rfl rfl 2 (by decide) (htg _ k1_35) (fun _ h9 => h9) rfl d_Bk_add_63 ?_
            refine lv_iload hx hb d_Bk_add_66 (lv_at hl 0 rfl) ?_
            refine lv_iload_n hx hb d_Bk_add_68 rfl (lv_at hl 4 rfl) ?_
            refine bk_topi (y := nI j24) hx24 ?_
            refine bk_iast (x := nI j24) (f2 := aI (va_up kd n j24)) hx hb hK hP hD hS 3 0 rfl rfl (by omega) (by decide) (aI_up _ _ _) d_Bk_add_69 (fun H locs hP hD hS => ?_)
            have hP : va_P (dC, dI) vwCl [(h, .inr (1, [.ref a1, .ref a2, .ref a3, .ref a4, .int (nI n)])), (a1, .inl (cI, 30, .inl (aI (va_up sh n j10)))), (a2, .inl (cI, 30, .inl (aI (va_up dy n j17)))), (a3, .inl (cI, 30, .inl (aI (va_up kd n j24)))), (a4, .inl (cL, 30, .inr (.inl (aL gr))))] H := hP
            have hD : va_D A [(h, .inr (1, [.ref a1, .ref a2, .ref a3, .ref a4, .int (nI n)])), (a1, .inl (cI, 30, .inl (aI (va_up sh n j10)))), (a2, .inl (cI, 30, .inl (aI (va_up dy n j17)))), (a3, .inl (cI, 30, .inl (aI (va_up kd n j24)))), (a4, .inl (cL, 30, .inr (.inl (aL gr))))] := hD
            refine lv_aload_n hx hb d_Bk_add_70 rfl (lv_at hl 1 rfl) ?_
            refine va_get (D := (dC, dI)) (ci := 1) (v := .ref a4) (C := R_Bk) (T := F_Bk) (N := 5) hx hb htg iw_Bk hown hK hP 0 rfl rfl 3 (by decide) (htg _ k1_36) (fun _ h9 => h9) rfl d_Bk_add_71 ?_
            refine lv_iload hx hb d_Bk_add_74 (lv_at hl 0 rfl) ?_
            refine lv_lload hx hb d_Bk_add_76 (lv_at hl 5 rfl) ?_
            refine bk_topl (y := lN j32) hx32 ?_
            refine bk_last (x := lN j32) (f2 := aL (va_up gr n j32)) hx hb hK hP hD hS 4 1 rfl rfl (by omega) (by decide) (aL_up _ _ _) d_Bk_add_78 (fun H locs hP hD hS => ?_)
            have hP : va_P (dC, dI) vwCl [(h, .inr (1, [.ref a1, .ref a2, .ref a3, .ref a4, .int (nI n)])), (a1, .inl (cI, 30, .inl (aI (va_up sh n j10)))), (a2, .inl (cI, 30, .inl (aI (va_up dy n j17)))), (a3, .inl (cI, 30, .inl (aI (va_up kd n j24)))), (a4, .inl (cL, 30, .inr (.inl (aL (va_up gr n j32)))))] H := hP
            have hD : va_D A [(h, .inr (1, [.ref a1, .ref a2, .ref a3, .ref a4, .int (nI n)])), (a1, .inl (cI, 30, .inl (aI (va_up sh n j10)))), (a2, .inl (cI, 30, .inl (aI (va_up dy n j17)))), (a3, .inl (cI, 30, .inl (aI (va_up kd n j24)))), (a4, .inl (cL, 30, .inr (.inl (aL (va_up gr n j32)))))] := hD
            refine lv_aload_n hx hb d_Bk_add_79 rfl (lv_at hl 1 rfl) ?_
            refine lv_iload hx hb d_Bk_add_80 (lv_at hl 0 rfl) ?_
            refine lv_iconst (v := nI 1) hx hb d_Bk_add_82 (by decide +kernel) ?_
            refine bk_iadd hx hb d_Bk_add_83 ?_
            refine va_put (D := (dC, dI)) (ci := 1) (v := .int (nI (n + 1))) (ty := (t_Bk 4)) (C := R_Bk) (T := F_Bk) (N := 5) hx hb htg iw_Bk t_Bk tk_Bk nm_Bk hown hK hP hD hS 0 rfl rfl 4 (by decide) (htg _ k1_38) (fun _ h9 => h9) rfl (by decide +kernel) rfl rfl (Nat.le_of_ble_eq_true rfl) d_Bk_add_84 (fun H locs hP hD hS => ?_)
            have hP : va_P (dC, dI) vwCl [(h, .inr (1, [.ref a1, .ref a2, .ref a3, .ref a4, .int (nI (n + 1))])), (a1, .inl (cI, 30, .inl (aI (va_up sh n j10)))), (a2, .inl (cI, 30, .inl (aI (va_up dy n j17)))), (a3, .inl (cI, 30, .inl (aI (va_up kd n j24)))), (a4, .inl (cL, 30, .inr (.inl (aL (va_up gr n j32)))))] H := hP
            have hD : va_D A [(h, .inr (1, [.ref a1, .ref a2, .ref a3, .ref a4, .int (nI (n + 1))])), (a1, .inl (cI, 30, .inl (aI (va_up sh n j10)))), (a2, .inl (cI, 30, .inl (aI (va_up dy n j17)))), (a3, .inl (cI, 30, .inl (aI (va_up kd n j24)))), (a4, .inl (cL, 30, .inr (.inl (aL (va_up gr n j32)))))] := hD
            refine lv_iload hx hb d_Bk_add_87 (lv_at hl 0 rfl) ?_
            have hP9 := hP.sub (ws' := [(h, .inr (1, [.ref a1, .ref a2, .ref a3, .ref a4, .int (nI (n + 1))])), (a1, .inl (cI, 30, .inl (aI (va_up sh n j10)))), (a2, .inl (cI, 30, .inl (aI (va_up dy n j17)))), (a3, .inl (cI, 30, .inl (aI (va_up kd n j24)))), (a4, .inl (cL, 30, .inr (.inl (aL (va_up gr n j32)))))]) [0, 1, 2, 3, 4] rfl
            have hD9 := hD.sub (ws' := [(h, .inr (1, [.ref a1, .ref a2, .ref a3, .ref a4, .int (nI (n + 1))])), (a1, .inl (cI, 30, .inl (aI (va_up sh n j10)))), (a2, .inl (cI, 30, .inl (aI (va_up dy n j17)))), (a3, .inl (cI, 30, .inl (aI (va_up kd n j24)))), (a4, .inl (cL, 30, .inr (.inl (aL (va_up gr n j32)))))]) [0, 1, 2, 3, 4] (by decide) rfl
            exact W.iret (v := nI n) hx hb hr (fun t9 ht9 hW9 => ⟨⟨nI n, (n + 1, va_up sh n j10, va_up dy n j17, va_up kd n j24, va_up gr n j32), rfl, Or.inl ⟨⟨by omega, ⟨j10, hj10, hx10⟩, ⟨j17, hj17, hx17⟩, ⟨j24, hj24, hx24⟩, ⟨j32, ha32, hj32, hx32⟩⟩, rfl, by rw [hx10, hx17, hx24, hx32, tn_nI (by omega), tn_nI (by omega), tn_nI (by omega), tl_lN (by omega)]⟩, by rw [ht9]; exact hP9, va_K.moved hW9.alike hK, hD9⟩, hS.F ht9⟩) hS.2.2 d_Bk_add_89
          · refine bk_if_ne (a := 0) (tgt := 40) hx hb (by omega) d_Bk_add_35 (by decide) (fun c35 => absurd c35 (by decide)) (fun c35 => ?_)
            refine lv_iconst (v := oI none) hx hb d_Bk_add_38 (by decide +kernel) ?_
            have hP9 := hP.sub (ws' := [(h, .inr (1, [.ref a1, .ref a2, .ref a3, .ref a4, .int (nI n)])), (a1, .inl (cI, 30, .inl (aI sh))), (a2, .inl (cI, 30, .inl (aI dy))), (a3, .inl (cI, 30, .inl (aI kd))), (a4, .inl (cL, 30, .inr (.inl (aL gr))))]) [0, 1, 2, 3, 4] rfl
            have hD9 := hD.sub (ws' := [(h, .inr (1, [.ref a1, .ref a2, .ref a3, .ref a4, .int (nI n)])), (a1, .inl (cI, 30, .inl (aI sh))), (a2, .inl (cI, 30, .inl (aI dy))), (a3, .inl (cI, 30, .inl (aI kd))), (a4, .inl (cL, 30, .inr (.inl (aL gr))))]) [0, 1, 2, 3, 4] (by decide) rfl
            exact W.iret (v := oI none) hx hb hr (fun t9 ht9 hW9 => ⟨⟨oI none, (n, sh, dy, kd, gr), rfl, Or.inr ⟨fun q => by obtain ⟨q1, q2, q3, q4, q5⟩ := q; first | omega | contradiction, rfl, rfl⟩, by rw [ht9]; exact hP9, va_K.moved hW9.alike hK, hD9⟩, hS.F ht9⟩) hS.2.2 d_Bk_add_39
        · refine bk_if_eq (a := 0) (tgt := 38) hx hb (by omega) d_Bk_add_27 (by decide) (fun c27 => ?_) (fun c27 => absurd c27 (by decide))
          refine lv_iconst (v := oI none) hx hb d_Bk_add_38 (by decide +kernel) ?_
          have hP9 := hP.sub (ws' := [(h, .inr (1, [.ref a1, .ref a2, .ref a3, .ref a4, .int (nI n)])), (a1, .inl (cI, 30, .inl (aI sh))), (a2, .inl (cI, 30, .inl (aI dy))), (a3, .inl (cI, 30, .inl (aI kd))), (a4, .inl (cL, 30, .inr (.inl (aL gr))))]) [0, 1, 2, 3, 4] rfl
          have hD9 := hD.sub (ws' := [(h, .inr (1, [.ref a1, .ref a2, .ref a3, .ref a4, .int (nI n)])), (a1, .inl (cI, 30, .inl (aI sh))), (a2, .inl (cI, 30, .inl (aI dy))), (a3, .inl (cI, 30, .inl (aI kd))), (a4, .inl (cL, 30, .inr (.inl (aL gr))))]) [0, 1, 2, 3, 4] (by decide) rfl
          exact W.iret (v := oI none) hx hb hr (fun t9 ht9 hW9 => ⟨⟨oI none, (n, sh, dy, kd, gr), rfl, Or.inr ⟨fun q => by obtain ⟨q1, q2, q3, q4, q5⟩ := q; first | omega | contradiction, rfl, rfl⟩, by rw [ht9]; exact hP9, va_K.moved hW9.alike hK, hD9⟩, hS.F ht9⟩) hS.2.2 d_Bk_add_39
      · refine bk_if_eq (a := 0) (tgt := 38) hx hb (by omega) d_Bk_add_20 (by decide) (fun c20 => ?_) (fun c20 => absurd c20 (by decide))
        refine lv_iconst (v := oI none) hx hb d_Bk_add_38 (by decide +kernel) ?_
        have hP9 := hP.sub (ws' := [(h, .inr (1, [.ref a1, .ref a2, .ref a3, .ref a4, .int (nI n)])), (a1, .inl (cI, 30, .inl (aI sh))), (a2, .inl (cI, 30, .inl (aI dy))), (a3, .inl (cI, 30, .inl (aI kd))), (a4, .inl (cL, 30, .inr (.inl (aL gr))))]) [0, 1, 2, 3, 4] rfl
        have hD9 := hD.sub (ws' := [(h, .inr (1, [.ref a1, .ref a2, .ref a3, .ref a4, .int (nI n)])), (a1, .inl (cI, 30, .inl (aI sh))), (a2, .inl (cI, 30, .inl (aI dy))), (a3, .inl (cI, 30, .inl (aI kd))), (a4, .inl (cL, 30, .inr (.inl (aL gr))))]) [0, 1, 2, 3, 4] (by decide) rfl
        exact W.iret (v := oI none) hx hb hr (fun t9 ht9 hW9 => ⟨⟨oI none, (n, sh, dy, kd, gr), rfl, Or.inr ⟨fun q => by obtain ⟨q1, q2, q3, q4, q5⟩ := q; first | omega | contradiction, rfl, rfl⟩, by rw [ht9]; exact hP9, va_K.moved hW9.alike hK, hD9⟩, hS.F ht9⟩) hS.2.2 d_Bk_add_39
    · refine bk_if_eq (a := 0) (tgt := 38) hx hb (by omega) d_Bk_add_13 (by decide) (fun c13 => ?_) (fun c13 => absurd c13 (by decide))
      refine lv_iconst (v := oI none) hx hb d_Bk_add_38 (by decide +kernel) ?_
      have hP9 := hP.sub (ws' := [(h, .inr (1, [.ref a1, .ref a2, .ref a3, .ref a4, .int (nI n)])), (a1, .inl (cI, 30, .inl (aI sh))), (a2, .inl (cI, 30, .inl (aI dy))), (a3, .inl (cI, 30, .inl (aI kd))), (a4, .inl (cL, 30, .inr (.inl (aL gr))))]) [0, 1, 2, 3, 4] rfl
      have hD9 := hD.sub (ws' := [(h, .inr (1, [.ref a1, .ref a2, .ref a3, .ref a4, .int (nI n)])), (a1, .inl (cI, 30, .inl (aI sh))), (a2, .inl (cI, 30, .inl (aI dy))), (a3, .inl (cI, 30, .inl (aI kd))), (a4, .inl (cL, 30, .inr (.inl (aL gr))))]) [0, 1, 2, 3, 4] (by decide) rfl
      exact W.iret (v := oI none) hx hb hr (fun t9 ht9 hW9 => ⟨⟨oI none, (n, sh, dy, kd, gr), rfl, Or.inr ⟨fun q => by obtain ⟨q1, q2, q3, q4, q5⟩ := q; first | omega | contradiction, rfl, rfl⟩, by rw [ht9]; exact hP9, va_K.moved hW9.alike hK, hD9⟩, hS.F ht9⟩) hS.2.2 d_Bk_add_39
set_option maxHeartbeats 4000000 in
set_option maxRecDepth 100000 in
theorem c_Bk_lostByGrams (l : Launch) (dC : Nat → ClassId) (dI : Nat → Nat → Nat) (cI cL cZ : ClassId) (a b : Nat) (h1 : 1 ≤ a) (h2 : a ≤ 1000000000) (h3 : 1 ≤ b) (h4 : b ≤ 1000000000) : Met l y_Bk_lostByGrams ws_Bk_lostByGrams { frames := 1, cells := 0, slots := 0, locals := 24 } (va_Pc [.long (lN a), .long (lN b)] (fun _ => True)) (vp_Si (fun r => r = nI (lostG a b))) 0 0 (fun _ => False) := by
  refine Met.ofW (cc := b_Bk_lostByGrams) (maxL := 6) (ret := (some .int)) (by decide) rfl ?_
  intro pr en s m args below meth c s₁ B hml hv
  obtain ⟨rfl, -⟩ := hv
  have hx := B.exec
  have hb := B.bytes
  have hr := B.returns
  have hts := atoms_spec (ws := ws_Bk_lostByGrams) B.pre
  have htg : ∀ w ∈ gW, w.before _ s = true := fun w h => hts w (List.mem_cons_of_mem _ h)
  have hown : s.vm.findClass R_Bk = some m.cls := findClass_of_methodNamed B.named
  have hlocks := B.notSynchronized
  have hl := lv_entry ([.long (lN a), .long (lN b)]) (n := 6) (Nat.le_of_ble_eq_true rfl)
  rw [lg_entry_eq]
  generalize (lg_sl ([.long (lN a), .long (lN b)]) ++ List.replicate (6 - (lg_sl ([.long (lN a), .long (lN b)])).length) Slot.unset).toArray = ls at hl ⊢
  have hl : lv_has ls 6 [(0, .long (lN a)), (2, .long (lN b))] := hl
  refine lv_lload_n hx hb d_Bk_lostByGrams_0 rfl (lv_at hl 0 rfl) ?_
  refine lv_lload_n hx hb d_Bk_lostByGrams_1 rfl (lv_at hl 1 rfl) ?_
  refine va_mmax_long hx hb (by rw [hml]; exact hl.1.symm) hown (htg _ k1_237) (htg _ k1_238) (htg _ k1_10) (htg _ k1_239) (Nat.le_of_ble_eq_true rfl) (Nat.le_of_ble_eq_true rfl) (Nat.le_of_ble_eq_true rfl) (Nat.le_of_ble_eq_true rfl) d_Bk_lostByGrams_2 ?_
  refine bk_topl (y := lN (max a b)) (bk_maxL (by omega) (by omega)) ?_
  refine lv_lstore (lv' := [(4, .long (lN (max a b))), (0, .long (lN a)), (2, .long (lN b))]) hx hb d_Bk_lostByGrams_5 hl (by decide) rfl (fun ls hl => ?_)
  refine lv_lload hx hb d_Bk_lostByGrams_7 (lv_at hl 0 rfl) ?_
  refine lv_lconst (v := lN 0) hx hb d_Bk_lostByGrams_9 (by decide +kernel) ?_
  refine bk_ncmp_le (a := max a b) (b := 0) (tgt := 31) hx hb (by omega) (by omega) d_Bk_lostByGrams_10 d_Bk_lostByGrams_11 (by decide) (fun c10 => by exfalso; omega) (fun c10 => ?_)
  refine lv_ldc2 (own := R_Bk) (v := 900) hx hb hown (htg _ k2_0) d_Bk_lostByGrams_14 ?_
  refine bk_topl (y := lN 900) (by decide +kernel) ?_
  refine lv_lload_n hx hb d_Bk_lostByGrams_17 rfl (lv_at hl 1 rfl) ?_
  refine lv_lload_n hx hb d_Bk_lostByGrams_18 rfl (lv_at hl 2 rfl) ?_
  refine lv_lsub hx hb d_Bk_lostByGrams_19 ?_
  refine va_mabs_long hx hb (by rw [hml]; exact hl.1.symm) hown (htg _ k2_1) (htg _ k2_2) (htg _ k1_10) (htg _ k2_3) (Nat.le_of_ble_eq_true rfl) (Nat.le_of_ble_eq_true rfl) (Nat.le_of_ble_eq_true rfl) (Nat.le_of_ble_eq_true rfl) d_Bk_lostByGrams_20 ?_
  refine bk_topl (y := lN (max a b - min a b)) (bk_absL (by omega) (by omega)) ?_
  refine bk_lmul hx hb d_Bk_lostByGrams_23 ?_
  refine lv_lload hx hb d_Bk_lostByGrams_24 (lv_at hl 0 rfl) ?_
  refine bk_ldiv hx hb (by omega) (by omega) (by omega) d_Bk_lostByGrams_26 ?_
  refine bk_l2i hx hb d_Bk_lostByGrams_27 ?_
  refine lv_goto (tgt := 32) hx hb d_Bk_lostByGrams_28 (by decide) ?_
  exact W.iret (v := nI ((900 * (max a b - min a b)) / (max a b))) hx hb hr (fun t9 ht9 hW9 => ⟨nI ((900 * (max a b - min a b)) / (max a b)), rfl, rfl, ht9⟩) (fun q h => nomatch h) d_Bk_lostByGrams_32
set_option maxHeartbeats 4000000 in
set_option maxRecDepth 100000 in
theorem c_Bk_fitWith (l : Launch) (dC : Nat → ClassId) (dI : Nat → Nat → Nat) (cI cL cZ : ClassId) (h a1 a2 a3 a4 n : Nat) (sh dy kd gr : Nat → Nat) (h2 a12 a22 a32 a42 n2 : Nat) (sh2 dy2 kd2 gr2 : Nat → Nat) (p q : Nat) (hi : bkI n sh dy kd gr) (hi2 : bkI n2 sh2 dy2 kd2 gr2) (hp : p < n) (hq : q < n2) : Met l y_Bk_fitWith ws_Bk_fitWith { frames := 2, cells := 0, slots := 0, locals := 49 } (va_Pc [.ref h, .int (nI p), .ref h2, .int (nI q)] (rdP (dC, dI) vwCl [(cI, .int), (cL, .long), (cZ, .boolean)] [(h, .inr (1, [.ref a1, .ref a2, .ref a3, .ref a4, .int (nI n)])), (a1, .inl (cI, 30, .inl (aI sh))), (a2, .inl (cI, 30, .inl (aI dy))), (a3, .inl (cI, 30, .inl (aI kd))), (a4, .inl (cL, 30, .inr (.inl (aL gr)))), (h2, .inr (1, [.ref a12, .ref a22, .ref a32, .ref a42, .int (nI n2)])), (a12, .inl (cI, 30, .inl (aI sh2))), (a22, .inl (cI, 30, .inl (aI dy2))), (a32, .inl (cI, 30, .inl (aI kd2))), (a42, .inl (cL, 30, .inr (.inl (aL gr2))))])) (vp_Si (fun r => r = nI (ptOf sh dy kd gr sh2 dy2 kd2 gr2 p q))) 0 0 (fun _ => False) := by
  refine Met.ofW (cc := b_Bk_fitWith) (maxL := 6) (ret := (some .int)) (by decide) rfl ?_
  intro pr en s m args below meth c s₁ B hml hv
  obtain ⟨rfl, hN, hP, hK⟩ := hv
  have hx := B.exec
  have hb := B.bytes
  have hr := B.returns
  have hts := atoms_spec (ws := ws_Bk_fitWith) B.pre
  have htg : ∀ w ∈ gW, w.before _ s = true := fun w h => hts w (List.mem_cons_of_mem _ h)
  have hown : s.vm.findClass R_Bk = some m.cls := findClass_of_methodNamed B.named
  have hlocks := B.notSynchronized
  have hl := lv_entry ([.ref h, .int (nI p), .ref h2, .int (nI q)]) (n := 6) (Nat.le_of_ble_eq_true rfl)
  rw [lg_entry_eq]
  generalize (lg_sl ([.ref h, .int (nI p), .ref h2, .int (nI q)]) ++ List.replicate (6 - (lg_sl ([.ref h, .int (nI p), .ref h2, .int (nI q)])).length) Slot.unset).toArray = ls at hl ⊢
  have hl : lv_has ls 6 [(0, .ref h), (1, .int (nI p)), (2, .ref h2), (3, .int (nI q))] := hl
  have hn := hi.1
  have hn2 := hi2.1
  obtain ⟨f1, f2, f3, f4, f5⟩ := hi.2 p hp
  obtain ⟨g1, g2, g3, g4, g5⟩ := hi2.2 q hq
  have hlo := lostG_le (a := gr p) (b := gr2 q)
  refine lv_aload_n hx hb d_Bk_fitWith_0 rfl (lv_at hl 0 rfl) ?_
  refine lv_iload_n hx hb d_Bk_fitWith_1 rfl (lv_at hl 1 rfl) ?_
  refine vp_callSi (va_runV (As := [.int (nI p)]) (rest := []) ⟨hx, hb, hml, hown, htg⟩ (c_Bk_has l dC dI cI cL cZ h a1 a2 a3 a4 n (nI p) (by omega)) (cwV 1 htg (gdV k1_230 k1_231 k1_232 k1_2 kc_Bk_has) rfl rfl rfl (by decide +kernel) ⟨Nat.le_of_ble_eq_true rfl, Nat.le_of_ble_eq_true rfl⟩) ⟨bk_blind, va_recv hK hP (ci := 1) (q0 := 0) rfl rfl, fun U hU hW => ⟨rfl, nw_warm hW hN, by rw [hU]; exact hP.sub [0] rfl, va_K.moved hW.alike hK⟩⟩ rfl rfl hl.1 rfl (lv_room (Nat.le_of_ble_eq_true rfl)) d_Bk_fitWith_2 ⟨Nat.le_of_ble_eq_true rfl, Nat.le_of_ble_eq_true rfl⟩).run (fun r2 e2 => ?_)
  obtain ⟨-, rfl⟩ := e2.resolve_right (fun z9 => z9.1 ⟨p, hp, rfl⟩)
  refine bk_if_eq (a := 1) (tgt := 16) hx hb (by omega) d_Bk_fitWith_5 (by decide) (fun c5 => absurd c5 (by decide)) (fun c5 => ?_)
  refine lv_aload_n hx hb d_Bk_fitWith_8 rfl (lv_at hl 2 rfl) ?_
  refine lv_iload_n hx hb d_Bk_fitWith_9 rfl (lv_at hl 3 rfl) ?_
  refine vp_callSi (va_runV (As := [.int (nI q)]) (rest := []) ⟨hx, hb, hml, hown, htg⟩ (c_Bk_has l dC dI cI cL cZ h2 a12 a22 a32 a42 n2 (nI q) (by omega)) (cwV 1 htg (gdV k1_230 k1_231 k1_232 k1_2 kc_Bk_has) rfl rfl rfl (by decide +kernel) ⟨Nat.le_of_ble_eq_true rfl, Nat.le_of_ble_eq_true rfl⟩) ⟨bk_blind, va_recv hK hP (ci := 1) (q0 := 5) rfl rfl, fun U hU hW => ⟨rfl, nw_warm hW hN, by rw [hU]; exact hP.sub [5] rfl, va_K.moved hW.alike hK⟩⟩ rfl rfl hl.1 rfl (lv_room (Nat.le_of_ble_eq_true rfl)) d_Bk_fitWith_10 ⟨Nat.le_of_ble_eq_true rfl, Nat.le_of_ble_eq_true rfl⟩).run (fun r10 e10 => ?_)
  obtain ⟨-, rfl⟩ := e10.resolve_right (fun z9 => z9.1 ⟨q, hq, rfl⟩)
  refine bk_if_ne (a := 1) (tgt := 18) hx hb (by omega) d_Bk_fitWith_13 (by decide) (fun c13 => ?_) (fun c13 => absurd c13 (by decide))
  refine lv_aload_n hx hb d_Bk_fitWith_18 rfl (lv_at hl 2 rfl) ?_
  refine va_get (D := (dC, dI)) (ci := 1) (v := .ref a22) (C := R_Bk) (T := F_Bk) (N := 5) hx hb htg iw_Bk hown hK hP 5 rfl rfl 1 (by decide) (htg _ k1_33) (fun _ h9 => h9) rfl d_Bk_fitWith_19 ?_
  refine lv_iload_n hx hb d_Bk_fitWith_22 rfl (lv_at hl 3 rfl) ?_
  refine bk_iald (v := nI (dy2 q)) hx hb hK hP 7 0 rfl rfl (by omega) (by decide) rfl d_Bk_fitWith_23 ?_
  refine lv_aload_n hx hb d_Bk_fitWith_24 rfl (lv_at hl 0 rfl) ?_
  refine va_get (D := (dC, dI)) (ci := 1) (v := .ref a2) (C := R_Bk) (T := F_Bk) (N := 5) hx hb htg iw_Bk hown hK hP 0 rfl rfl 1 (by decide) (htg _ k1_33) (fun _ h9 => h9) rfl d_Bk_fitWith_25 ?_
  refine lv_iload_n hx hb d_Bk_fitWith_28 rfl (lv_at hl 1 rfl) ?_
  refine bk_iald (v := nI (dy p)) hx hb hK hP 2 0 rfl rfl (by omega) (by decide) rfl d_Bk_fitWith_29 ?_
  rcases Nat.lt_or_ge (dy2 q) (dy p) with h30 | h30
  · refine lv_isub hx hb d_Bk_fitWith_30 ?_
    refine lv_istore (lv' := [(4, .int ((nI (dy2 q)) - (nI (dy p)))), (0, .ref h), (1, .int (nI p)), (2, .ref h2), (3, .int (nI q))]) hx hb d_Bk_fitWith_31 hl (by decide) rfl (fun ls hl => ?_)
    refine lv_aload_n hx hb d_Bk_fitWith_33 rfl (lv_at hl 1 rfl) ?_
    refine va_get (D := (dC, dI)) (ci := 1) (v := .ref a1) (C := R_Bk) (T := F_Bk) (N := 5) hx hb htg iw_Bk hown hK hP 0 rfl rfl 0 (by decide) (htg _ k1_30) (fun _ h9 => h9) rfl d_Bk_fitWith_34 ?_
    refine lv_iload_n hx hb d_Bk_fitWith_37 rfl (lv_at hl 2 rfl) ?_
    refine bk_iald (v := nI (sh p)) hx hb hK hP 1 0 rfl rfl (by omega) (by decide) rfl d_Bk_fitWith_38 ?_
    refine lv_aload_n hx hb d_Bk_fitWith_39 rfl (lv_at hl 3 rfl) ?_
    refine va_get (D := (dC, dI)) (ci := 1) (v := .ref a12) (C := R_Bk) (T := F_Bk) (N := 5) hx hb htg iw_Bk hown hK hP 5 rfl rfl 0 (by decide) (htg _ k1_30) (fun _ h9 => h9) rfl d_Bk_fitWith_40 ?_
    refine lv_iload_n hx hb d_Bk_fitWith_43 rfl (lv_at hl 4 rfl) ?_
    refine bk_iald (v := nI (sh2 q)) hx hb hK hP 6 0 rfl rfl (by omega) (by decide) rfl d_Bk_fitWith_44 ?_
    refine bk_icmp_ne (a := sh p) (b := sh2 q) (tgt := 67) hx hb (by omega) (by omega) d_Bk_fitWith_45 (by decide) (fun c45 => ?_) (fun c45 => ?_)
    · refine lv_iconst (v := nI 0) hx hb d_Bk_fitWith_67 (by decide +kernel) ?_
      refine lv_istore (lv' := [(5, .int (nI 0)), (4, .int ((nI (dy2 q)) - (nI (dy p)))), (0, .ref h), (1, .int (nI p)), (2, .ref h2), (3, .int (nI q))]) hx hb d_Bk_fitWith_68 hl (by decide) rfl (fun ls hl => ?_)
      refine lv_iload hx hb d_Bk_fitWith_70 (lv_at hl 0 rfl) ?_
      refine bk_if_eq (a := 0) (tgt := 86) hx hb (by omega) d_Bk_fitWith_72 (by decide) (fun c72 => ?_) (fun c72 => absurd c72 (by decide))
      refine lv_iconst (v := nI 0) hx hb d_Bk_fitWith_86 (by decide +kernel) ?_
      exact W.iret (v := nI 0) hx hb hr (fun t9 ht9 hW9 => ⟨nI 0, rfl, (by rw [ptOf, pts, if_neg (by omega)]), ht9⟩) (fun q h => nomatch h) d_Bk_fitWith_87
    · refine lv_aload_n hx hb d_Bk_fitWith_48 rfl (lv_at hl 1 rfl) ?_
      refine va_get (D := (dC, dI)) (ci := 1) (v := .ref a3) (C := R_Bk) (T := F_Bk) (N := 5) hx hb htg iw_Bk hown hK hP 0 rfl rfl 2 (by decide) (htg _ k1_35) (fun _ h9 => h9) rfl d_Bk_fitWith_49 ?_
      refine lv_iload_n hx hb d_Bk_fitWith_52 rfl (lv_at hl 2 rfl) ?_
      refine bk_iald (v := nI (kd p)) hx hb hK hP 3 0 rfl rfl (by omega) (by decide) rfl d_Bk_fitWith_53 ?_
      refine lv_aload_n hx hb d_Bk_fitWith_54 rfl (lv_at hl 3 rfl) ?_
      refine va_get (D := (dC, dI)) (ci := 1) (v := .ref a32) (C := R_Bk) (T := F_Bk) (N := 5) hx hb htg iw_Bk hown hK hP 5 rfl rfl 2 (by decide) (htg _ k1_35) (fun _ h9 => h9) rfl d_Bk_fitWith_55 ?_
      refine lv_iload_n hx hb d_Bk_fitWith_58 rfl (lv_at hl 4 rfl) ?_
      refine bk_iald (v := nI (kd2 q)) hx hb hK hP 8 0 rfl rfl (by omega) (by decide) rfl d_Bk_fitWith_59 ?_
      refine bk_icmp_ne (a := kd p) (b := kd2 q) (tgt := 67) hx hb (by omega) (by omega) d_Bk_fitWith_60 (by decide) (fun c60 => ?_) (fun c60 => ?_)
      · refine lv_iconst (v := nI 0) hx hb d_Bk_fitWith_67 (by decide +kernel) ?_
        refine lv_istore (lv' := [(5, .int (nI 0)), (4, .int ((nI (dy2 q)) - (nI (dy p)))), (0, .ref h), (1, .int (nI p)), (2, .ref h2), (3, .int (nI q))]) hx hb d_Bk_fitWith_68 hl (by decide) rfl (fun ls hl => ?_)
        refine lv_iload hx hb d_Bk_fitWith_70 (lv_at hl 0 rfl) ?_
        refine bk_if_eq (a := 0) (tgt := 86) hx hb (by omega) d_Bk_fitWith_72 (by decide) (fun c72 => ?_) (fun c72 => absurd c72 (by decide))
        refine lv_iconst (v := nI 0) hx hb d_Bk_fitWith_86 (by decide +kernel) ?_
        exact W.iret (v := nI 0) hx hb hr (fun t9 ht9 hW9 => ⟨nI 0, rfl, (by rw [ptOf, pts, if_neg (by omega)]), ht9⟩) (fun q h => nomatch h) d_Bk_fitWith_87
      · refine lv_iconst (v := nI 1) hx hb d_Bk_fitWith_63 (by decide +kernel) ?_
        refine lv_goto (tgt := 68) hx hb d_Bk_fitWith_64 (by decide) ?_
        refine lv_istore (lv' := [(5, .int (nI 1)), (4, .int ((nI (dy2 q)) - (nI (dy p)))), (0, .ref h), (1, .int (nI p)), (2, .ref h2), (3, .int (nI q))]) hx hb d_Bk_fitWith_68 hl (by decide) rfl (fun ls hl => ?_)
        refine lv_iload hx hb d_Bk_fitWith_70 (lv_at hl 0 rfl) ?_
        refine bk_if_eq (a := 1) (tgt := 86) hx hb (by omega) d_Bk_fitWith_72 (by decide) (fun c72 => absurd c72 (by decide)) (fun c72 => ?_)
        refine lv_iload hx hb d_Bk_fitWith_75 (lv_at hl 1 rfl) ?_
        refine lv_if_lt (x := ((nI (dy2 q)) - (nI (dy p)))) (tgt := 86) hx hb d_Bk_fitWith_77 (by decide) (fun c77 => ?_) (fun c77 => absurd (pk_sneg (by omega) h30) c77)
        refine lv_iconst (v := nI 0) hx hb d_Bk_fitWith_86 (by decide +kernel) ?_
        exact W.iret (v := nI 0) hx hb hr (fun t9 ht9 hW9 => ⟨nI 0, rfl, (by rw [ptOf, pts, if_neg (by omega)]), ht9⟩) (fun q h => nomatch h) d_Bk_fitWith_87
  · refine bk_isub hx hb h30 d_Bk_fitWith_30 ?_
    refine lv_istore (lv' := [(4, .int (nI ((dy2 q) - (dy p)))), (0, .ref h), (1, .int (nI p)), (2, .ref h2), (3, .int (nI q))]) hx hb d_Bk_fitWith_31 hl (by decide) rfl (fun ls hl => ?_)
    refine lv_aload_n hx hb d_Bk_fitWith_33 rfl (lv_at hl 1 rfl) ?_
    refine va_get (D := (dC, dI)) (ci := 1) (v := .ref a1) (C := R_Bk) (T := F_Bk) (N := 5) hx hb htg iw_Bk hown hK hP 0 rfl rfl 0 (by decide) (htg _ k1_30) (fun _ h9 => h9) rfl d_Bk_fitWith_34 ?_
    refine lv_iload_n hx hb d_Bk_fitWith_37 rfl (lv_at hl 2 rfl) ?_
    refine bk_iald (v := nI (sh p)) hx hb hK hP 1 0 rfl rfl (by omega) (by decide) rfl d_Bk_fitWith_38 ?_
    refine lv_aload_n hx hb d_Bk_fitWith_39 rfl (lv_at hl 3 rfl) ?_
    refine va_get (D := (dC, dI)) (ci := 1) (v := .ref a12) (C := R_Bk) (T := F_Bk) (N := 5) hx hb htg iw_Bk hown hK hP 5 rfl rfl 0 (by decide) (htg _ k1_30) (fun _ h9 => h9) rfl d_Bk_fitWith_40 ?_
    refine lv_iload_n hx hb d_Bk_fitWith_43 rfl (lv_at hl 4 rfl) ?_
    refine bk_iald (v := nI (sh2 q)) hx hb hK hP 6 0 rfl rfl (by omega) (by decide) rfl d_Bk_fitWith_44 ?_
    refine bk_icmp_ne (a := sh p) (b := sh2 q) (tgt := 67) hx hb (by omega) (by omega) d_Bk_fitWith_45 (by decide) (fun c45 => ?_) (fun c45 => ?_)
    · refine lv_iconst (v := nI 0) hx hb d_Bk_fitWith_67 (by decide +kernel) ?_
      refine lv_istore (lv' := [(5, .int (nI 0)), (4, .int (nI ((dy2 q) - (dy p)))), (0, .ref h), (1, .int (nI p)), (2, .ref h2), (3, .int (nI q))]) hx hb d_Bk_fitWith_68 hl (by decide) rfl (fun ls hl => ?_)
      refine lv_iload hx hb d_Bk_fitWith_70 (lv_at hl 0 rfl) ?_
      refine bk_if_eq (a := 0) (tgt := 86) hx hb (by omega) d_Bk_fitWith_72 (by decide) (fun c72 => ?_) (fun c72 => absurd c72 (by decide))
      refine lv_iconst (v := nI 0) hx hb d_Bk_fitWith_86 (by decide +kernel) ?_
      exact W.iret (v := nI 0) hx hb hr (fun t9 ht9 hW9 => ⟨nI 0, rfl, (by rw [ptOf, pts, if_neg (by omega)]), ht9⟩) (fun q h => nomatch h) d_Bk_fitWith_87
    · refine lv_aload_n hx hb d_Bk_fitWith_48 rfl (lv_at hl 1 rfl) ?_
      refine va_get (D := (dC, dI)) (ci := 1) (v := .ref a3) (C := R_Bk) (T := F_Bk) (N := 5) hx hb htg iw_Bk hown hK hP 0 rfl rfl 2 (by decide) (htg _ k1_35) (fun _ h9 => h9) rfl d_Bk_fitWith_49 ?_
      refine lv_iload_n hx hb d_Bk_fitWith_52 rfl (lv_at hl 2 rfl) ?_
      refine bk_iald (v := nI (kd p)) hx hb hK hP 3 0 rfl rfl (by omega) (by decide) rfl d_Bk_fitWith_53 ?_
      refine lv_aload_n hx hb d_Bk_fitWith_54 rfl (lv_at hl 3 rfl) ?_
      refine va_get (D := (dC, dI)) (ci := 1) (v := .ref a32) (C := R_Bk) (T := F_Bk) (N := 5) hx hb htg iw_Bk hown hK hP 5 rfl rfl 2 (by decide) (htg _ k1_35) (fun _ h9 => h9) rfl d_Bk_fitWith_55 ?_
      refine lv_iload_n hx hb d_Bk_fitWith_58 rfl (lv_at hl 4 rfl) ?_
      refine bk_iald (v := nI (kd2 q)) hx hb hK hP 8 0 rfl rfl (by omega) (by decide) rfl d_Bk_fitWith_59 ?_
      refine bk_icmp_ne (a := kd p) (b := kd2 q) (tgt := 67) hx hb (by omega) (by omega) d_Bk_fitWith_60 (by decide) (fun c60 => ?_) (fun c60 => ?_)
      · refine lv_iconst (v := nI 0) hx hb d_Bk_fitWith_67 (by decide +kernel) ?_
        refine lv_istore (lv' := [(5, .int (nI 0)), (4, .int (nI ((dy2 q) - (dy p)))), (0, .ref h), (1, .int (nI p)), (2, .ref h2), (3, .int (nI q))]) hx hb d_Bk_fitWith_68 hl (by decide) rfl (fun ls hl => ?_)
        refine lv_iload hx hb d_Bk_fitWith_70 (lv_at hl 0 rfl) ?_
        refine bk_if_eq (a := 0) (tgt := 86) hx hb (by omega) d_Bk_fitWith_72 (by decide) (fun c72 => ?_) (fun c72 => absurd c72 (by decide))
        refine lv_iconst (v := nI 0) hx hb d_Bk_fitWith_86 (by decide +kernel) ?_
        exact W.iret (v := nI 0) hx hb hr (fun t9 ht9 hW9 => ⟨nI 0, rfl, (by rw [ptOf, pts, if_neg (by omega)]), ht9⟩) (fun q h => nomatch h) d_Bk_fitWith_87
      · refine lv_iconst (v := nI 1) hx hb d_Bk_fitWith_63 (by decide +kernel) ?_
        refine lv_goto (tgt := 68) hx hb d_Bk_fitWith_64 (by decide) ?_
        refine lv_istore (lv' := [(5, .int (nI 1)), (4, .int (nI ((dy2 q) - (dy p)))), (0, .ref h), (1, .int (nI p)), (2, .ref h2), (3, .int (nI q))]) hx hb d_Bk_fitWith_68 hl (by decide) rfl (fun ls hl => ?_)
        refine lv_iload hx hb d_Bk_fitWith_70 (lv_at hl 0 rfl) ?_
        refine bk_if_eq (a := 1) (tgt := 86) hx hb (by omega) d_Bk_fitWith_72 (by decide) (fun c72 => absurd c72 (by decide)) (fun c72 => ?_)
        refine lv_iload hx hb d_Bk_fitWith_75 (lv_at hl 1 rfl) ?_
        refine bk_if_lt (a := (dy2 q) - (dy p)) (tgt := 86) hx hb (by omega) d_Bk_fitWith_77 (by decide) (fun c77 => c77.elim) (fun c77 => ?_)
        refine lv_iload hx hb d_Bk_fitWith_80 (lv_at hl 1 rfl) ?_
        refine lv_iconst (v := nI 5) hx hb d_Bk_fitWith_82 (by decide +kernel) ?_
        refine bk_icmp_le (a := (dy2 q) - (dy p)) (b := 5) (tgt := 88) hx hb (by omega) (by omega) d_Bk_fitWith_83 (by decide) (fun c83 => ?_) (fun c83 => ?_)
        · refine lv_iconst (v := nI 0) hx hb d_Bk_fitWith_88 (by decide +kernel) ?_
          refine lv_sipush (v := nI 1000) hx hb d_Bk_fitWith_89 (by decide +kernel) ?_
          refine lv_bipush (v := nI 100) hx hb d_Bk_fitWith_92 (by decide +kernel) ?_
          refine lv_iload hx hb d_Bk_fitWith_94 (lv_at hl 1 rfl) ?_
          refine bk_imul hx hb d_Bk_fitWith_96 ?_
          refine bk_isub hx hb (by omega) d_Bk_fitWith_97 ?_
          refine lv_aload_n hx hb d_Bk_fitWith_98 rfl (lv_at hl 2 rfl) ?_
          refine va_get (D := (dC, dI)) (ci := 1) (v := .ref a4) (C := R_Bk) (T := F_Bk) (N := 5) hx hb htg iw_Bk hown hK hP 0 rfl rfl 3 (by decide) (htg _ k1_36) (fun _ h9 => h9) rfl d_Bk_fitWith_99 ?_
          refine lv_iload_n hx hb d_Bk_fitWith_102 rfl (lv_at hl 3 rfl) ?_
          refine bk_lald (v := lN (gr p)) hx hb hK hP 4 1 rfl rfl (by omega) (by decide) rfl d_Bk_fitWith_103 ?_
          refine lv_aload_n hx hb d_Bk_fitWith_104 rfl (lv_at hl 4 rfl) ?_
          refine va_get (D := (dC, dI)) (ci := 1) (v := .ref a42) (C := R_Bk) (T := F_Bk) (N := 5) hx hb htg iw_Bk hown hK hP 5 rfl rfl 3 (by decide) (htg _ k1_36) (fun _ h9 => h9) rfl d_Bk_fitWith_105 ?_
          refine lv_iload_n hx hb d_Bk_fitWith_108 rfl (lv_at hl 5 rfl) ?_
          refine bk_lald (v := lN (gr2 q)) hx hb hK hP 9 1 rfl rfl (by omega) (by decide) rfl d_Bk_fitWith_109 ?_
          refine vp_callSi (va_runS (As := [.long (lN (gr p)), .long (lN (gr2 q))]) (rest := [.int (nI (1000 - (100 * ((dy2 q) - (dy p))))), .int (nI 0)]) ⟨hx, hb, hml, hown, htg⟩ (c_Bk_lostByGrams l dC dI cI cL cZ (gr p) (gr2 q) (by omega) (by omega) (by omega) (by omega)) (va_cwS 2 htg (gdS k1_234 k1_235 k1_2 kc_Bk_lostByGrams) rfl rfl rfl (by decide +kernel) ⟨Nat.le_of_ble_eq_true rfl, Nat.le_of_ble_eq_true rfl⟩) ⟨bk_blind0, fun U hU hW => ⟨rfl, trivial⟩⟩ rfl rfl hl.1 rfl (lv_room (Nat.le_of_ble_eq_true rfl)) d_Bk_fitWith_110 ⟨Nat.le_of_ble_eq_true rfl, Nat.le_of_ble_eq_true rfl⟩).run (fun r110 e110 => ?_)
          subst e110
          refine lv_isub hx hb d_Bk_fitWith_113 ?_
          refine va_mmax hx hb (by rw [hml]; exact hl.1.symm) hown (htg _ k2_4) (htg _ k2_5) (htg _ k1_10) (htg _ k2_6) (Nat.le_of_ble_eq_true rfl) (Nat.le_of_ble_eq_true rfl) (Nat.le_of_ble_eq_true rfl) (Nat.le_of_ble_eq_true rfl) d_Bk_fitWith_114 ?_
          refine bk_topi (y := nI (1000 - 100 * (dy2 q - dy p) - lostG (gr p) (gr2 q))) (bk_max0 (by omega) (by omega)) ?_
          exact W.iret (v := nI (1000 - 100 * (dy2 q - dy p) - lostG (gr p) (gr2 q))) hx hb hr (fun t9 ht9 hW9 => ⟨nI (1000 - 100 * (dy2 q - dy p) - lostG (gr p) (gr2 q)), rfl, (by rw [ptOf, pts, if_pos (by omega)]), ht9⟩) (fun q h => nomatch h) d_Bk_fitWith_117
        · refine lv_iconst (v := nI 0) hx hb d_Bk_fitWith_86 (by decide +kernel) ?_
          exact W.iret (v := nI 0) hx hb hr (fun t9 ht9 hW9 => ⟨nI 0, rfl, (by rw [ptOf, pts, if_neg (by omega)]), ht9⟩) (fun q h => nomatch h) d_Bk_fitWith_87
end
section
set_option maxHeartbeats 4000000 in
set_option maxRecDepth 100000 in
theorem c_Jo_partAll (l : Launch) (dC : Nat → ClassId) (dI : Nat → Nat → Nat) (cI cL cZ : ClassId) (sz : Nat) (h a1 a2 : Nat) (sp ps : Nat → Option Nat) : Met l y_Jo_partAll ws_Jo_partAll { frames := 0, cells := 0, slots := 0, locals := 0 } (va_Pc [.ref h] (wrP (dC, dI) vwCl [(cI, .int), (cL, .long), (cZ, .boolean)] [(h, .inr (2, [.ref a1, .ref a2])), (a1, .inl (cI, 30, .inl (aO sp))), (a2, .inl (cI, 30, .inl (aO ps)))] sz)) (va_Qv (fun (u : Unit) => True) (fun (u : Unit) => wrQ (dC, dI) vwCl [(cI, .int), (cL, .long), (cZ, .boolean)] (va_A [(h, .inr (2, [.ref a1, .ref a2])), (a1, .inl (cI, 30, .inl (aO sp))), (a2, .inl (cI, 30, .inl (aO ps)))] sz) [(h, .inr (2, [.ref a1, .ref a2])), (a1, .inl (cI, 30, .inl (aO (fun _ => none)))), (a2, .inl (cI, 30, .inl (aO (fun _ => none))))]) (va_A [(h, .inr (2, [.ref a1, .ref a2])), (a1, .inl (cI, 30, .inl (aO sp))), (a2, .inl (cI, 30, .inl (aO ps)))] sz)) 0 0 (va_A [(h, .inr (2, [.ref a1, .ref a2])), (a1, .inl (cI, 30, .inl (aO sp))), (a2, .inl (cI, 30, .inl (aO ps)))] sz) := by
  refine Met.ofW (cc := b_Jo_partAll) (maxL := 2) (ret := none) (by decide) rfl ?_
  intro pr en s m args below meth c s₁ B hml hv
  obtain ⟨rfl, hN, hsz, hP, hK, hD0⟩ := hv
  have hx := B.exec
  have hb := B.bytes
  have hr := B.returns
  have hts := atoms_spec (ws := ws_Jo_partAll) B.pre
  have htg : ∀ w ∈ gW, w.before _ s = true := fun w h => hts w (List.mem_cons_of_mem _ h)
  have hown : s.vm.findClass R_Jo = some m.cls := findClass_of_methodNamed B.named
  have hlocks := B.notSynchronized
  subst hsz
  have hD := hD0.self (sz := s.heap.size)
  generalize hAe : va_A [(h, .inr (2, [.ref a1, .ref a2])), (a1, .inl (cI, 30, .inl (aO sp))), (a2, .inl (cI, 30, .inl (aO ps)))] s.heap.size = A at hD ⊢
  have hA : ∀ q : Nat, s.heap.size ≤ q → A q := fun q h => by rw [← hAe]; exact Or.inr h
  have hS : va_S A s.heap s.heap [] := va_S.rf
  have hP : va_P (dC, dI) vwCl [(h, .inr (2, [.ref a1, .ref a2])), (a1, .inl (cI, 30, .inl (aO sp))), (a2, .inl (cI, 30, .inl (aO ps)))] s.heap := hP
  have hl := lv_entry ([.ref h]) (n := 2) (Nat.le_of_ble_eq_true rfl)
  rw [lg_entry_eq]
  generalize (lg_sl ([.ref h]) ++ List.replicate (2 - (lg_sl ([.ref h])).length) Slot.unset).toArray = ls at hl ⊢
  have hl : lv_has ls 2 [(0, .ref h)] := hl
  refine lv_iconst (v := nI 0) hx hb d_Jo_partAll_0 (by decide +kernel) ?_
  refine lv_istore_n (lv' := [(1, .int (nI 0)), (0, .ref h)]) hx hb d_Jo_partAll_1 rfl hl (by decide) rfl (fun ls hl => ?_)
  have J2 : ∀ (k : Nat) (i : Nat) (sq : Nat → Option Nat) (pq : Nat → Option Nat), (i + k = 30) → (∀ j, j < i → sq j = none) → (∀ j, j < i → pq j = none) → ∀ (H : Heap) (locs : List Loc), va_P (dC, dI) vwCl [(h, .inr (2, [.ref a1, .ref a2])), (a1, .inl (cI, 30, .inl (aO sq))), (a2, .inl (cI, 30, .inl (aO pq)))] H → va_D A [(h, .inr (2, [.ref a1, .ref a2])), (a1, .inl (cI, 30, .inl (aO sq))), (a2, .inl (cI, 30, .inl (aO pq)))] → va_S A s.heap H locs → ∀ (ls : Array Slot), lv_has ls 2 [(0, .ref h), (1, .int (nI i))] → W pr l en (headSpec ws_Jo_partAll { frames := 0, cells := 0, slots := 0, locals := 0 }).room s m ([.ref h] : List Value).toArray below meth c H locs 0 0 (MQ below (va_Qv (fun (u : Unit) => True) (fun (u : Unit) => wrQ (dC, dI) vwCl [(cI, .int), (cL, .long), (cZ, .boolean)] A [(h, .inr (2, [.ref a1, .ref a2])), (a1, .inl (cI, 30, .inl (aO (fun _ => none)))), (a2, .inl (cI, 30, .inl (aO (fun _ => none))))]) A) ([.ref h] : List Value).toArray s 0 0 A) (F0 m 2 ls []) := by
    intro k
    induction k with
    | zero =>
      intro i sq pq hk hs hq H locs hP hD hS ls hl
      refine lv_iload_n hx hb d_Jo_partAll_2 rfl (lv_at hl 1 rfl) ?_
      refine lv_bipush (v := nI 30) hx hb d_Jo_partAll_3 (by decide +kernel) ?_
      refine bk_icmp_ge (a := i) (b := 30) (tgt := 28) hx hb (by omega) (by omega) d_Jo_partAll_5 (by decide) (fun c5 => ?_) (fun c5 => by exfalso; omega)
      have hP := ext_P hP 1 (y := (30, .inl (aO (fun _ => none)))) rfl (cell_int (fun j hj => by rw [aO, hs j (by omega)]; rfl))
      have hD := ext_D hD 1 (e2 := .inl (cI, 30, .inl (aO (fun _ => none)))) rfl
      have hP : va_P (dC, dI) vwCl [(h, .inr (2, [.ref a1, .ref a2])), (a1, .inl (cI, 30, .inl (aO (fun _ => none)))), (a2, .inl (cI, 30, .inl (aO pq)))] H := hP
      have hD : va_D A [(h, .inr (2, [.ref a1, .ref a2])), (a1, .inl (cI, 30, .inl (aO (fun _ => none)))), (a2, .inl (cI, 30, .inl (aO pq)))] := hD
      have hP := ext_P hP 2 (y := (30, .inl (aO (fun _ => none)))) rfl (cell_int (fun j hj => by rw [aO, hq j (by omega)]; rfl))
      have hD := ext_D hD 2 (e2 := .inl (cI, 30, .inl (aO (fun _ => none)))) rfl
      have hP : va_P (dC, dI) vwCl [(h, .inr (2, [.ref a1, .ref a2])), (a1, .inl (cI, 30, .inl (aO (fun _ => none)))), (a2, .inl (cI, 30, .inl (aO (fun _ => none))))] H := hP
      have hD : va_D A [(h, .inr (2, [.ref a1, .ref a2])), (a1, .inl (cI, 30, .inl (aO (fun _ => none)))), (a2, .inl (cI, 30, .inl (aO (fun _ => none))))] := hD
      have hP9 := hP.sub (ws' := [(h, .inr (2, [.ref a1, .ref a2])), (a1, .inl (cI, 30, .inl (aO (fun _ => none)))), (a2, .inl (cI, 30, .inl (aO (fun _ => none))))]) [0, 1, 2] rfl
      have hD9 := hD.sub (ws' := [(h, .inr (2, [.ref a1, .ref a2])), (a1, .inl (cI, 30, .inl (aO (fun _ => none)))), (a2, .inl (cI, 30, .inl (aO (fun _ => none))))]) [0, 1, 2] (by decide) rfl
      exact W.vret hx hb hr (fun t9 ht9 hW9 => ⟨⟨(), rfl, trivial, by rw [ht9]; exact hP9, va_K.moved hW9.alike hK, hD9⟩, hS.F ht9⟩) hS.2.2 d_Jo_partAll_28
    | succ k ih2 =>
      intro i sq pq hk hs hq H locs hP hD hS ls hl
      refine lv_iload_n hx hb d_Jo_partAll_2 rfl (lv_at hl 1 rfl) ?_
      refine lv_bipush (v := nI 30) hx hb d_Jo_partAll_3 (by decide +kernel) ?_
      refine bk_icmp_ge (a := i) (b := 30) (tgt := 28) hx hb (by omega) (by omega) d_Jo_partAll_5 (by decide) (fun c5 => by exfalso; omega) (fun c5 => ?_)
      refine lv_aload_n hx hb d_Jo_partAll_8 rfl (lv_at hl 0 rfl) ?_
      refine va_get (D := (dC, dI)) (ci := 2) (v := .ref a1) (C := R_Jo) (T := F_Jo) (N := 2) hx hb htg iw_Jo hown hK hP 0 rfl rfl 0 (by decide) (htg _ k1_66) (fun _ h9 => h9) rfl d_Jo_partAll_9 ?_
      refine lv_iload_n hx hb d_Jo_partAll_12 rfl (lv_at hl 1 rfl) ?_
      refine lv_iconst (v := oI none) hx hb d_Jo_partAll_13 (by decide +kernel) ?_
      refine bk_iast (x := oI none) (f2 := aO (va_up sq i none)) hx hb hK hP hD hS 1 0 rfl rfl (by omega) (by decide) (aO_up _ _ none) d_Jo_partAll_14 (fun H locs hP hD hS => ?_)
      have hP : va_P (dC, dI) vwCl [(h, .inr (2, [.ref a1, .ref a2])), (a1, .inl (cI, 30, .inl (aO (va_up sq i none)))), (a2, .inl (cI, 30, .inl (aO pq)))] H := hP
      have hD : va_D A [(h, .inr (2, [.ref a1, .ref a2])), (a1, .inl (cI, 30, .inl (aO (va_up sq i none)))), (a2, .inl (cI, 30, .inl (aO pq)))] := hD
      refine lv_aload_n hx hb d_Jo_partAll_15 rfl (lv_at hl 0 rfl) ?_
      refine va_get (D := (dC, dI)) (ci := 2) (v := .ref a2) (C := R_Jo) (T := F_Jo) (N := 2) hx hb htg iw_Jo hown hK hP 0 rfl rfl 1 (by decide) (htg _ k1_67) (fun _ h9 => h9) rfl d_Jo_partAll_16 ?_
      refine lv_iload_n hx hb d_Jo_partAll_19 rfl (lv_at hl 1 rfl) ?_
      refine lv_iconst (v := oI none) hx hb d_Jo_partAll_20 (by decide +kernel) ?_
      refine bk_iast (x := oI none) (f2 := aO (va_up pq i none)) hx hb hK hP hD hS 2 0 rfl rfl (by omega) (by decide) (aO_up _ _ none) d_Jo_partAll_21 (fun H locs hP hD hS => ?_)
      have hP : va_P (dC, dI) vwCl [(h, .inr (2, [.ref a1, .ref a2])), (a1, .inl (cI, 30, .inl (aO (va_up sq i none)))), (a2, .inl (cI, 30, .inl (aO (va_up pq i none))))] H := hP
      have hD : va_D A [(h, .inr (2, [.ref a1, .ref a2])), (a1, .inl (cI, 30, .inl (aO (va_up sq i none)))), (a2, .inl (cI, 30, .inl (aO (va_up pq i none))))] := hD
      refine lv_iinc (v := nI (i + 1)) (lv' := [(1, .int (nI (i + 1))), (0, .ref h)]) hx hb d_Jo_partAll_22 hl (k := 1) rfl (bk_inc i) (by decide) rfl (fun ls hl => ?_)
      refine lv_goto (tgt := 2) hx hb d_Jo_partAll_25 (by decide) ?_
      exact ih2 (i + 1) (va_up sq i none) (va_up pq i none) (by omega) (none_up hs) (none_up hq) _ _ (hP.sub [0, 1, 2] rfl) (hD.sub [0, 1, 2] (by decide) rfl) hS ls (lv_sub hl [1, 0] rfl)
  exact J2 30 0 sp ps (by omega) (fun j hj => absurd hj (by omega)) (fun j hj => absurd hj (by omega)) _ _ (hP.sub [0, 1, 2] rfl) (hD.sub [0, 1, 2] (by decide) rfl) hS ls (lv_sub hl [1, 0] rfl)
set_option maxHeartbeats 4000000 in
set_option maxRecDepth 100000 in
theorem c_Jo_saleOf (l : Launch) (dC : Nat → ClassId) (dI : Nat → Nat → Nat) (cI cL cZ : ClassId) (h a1 a2 : Nat) (sp : Nat → Option Nat) (x : Int32) : Met l y_Jo_saleOf ws_Jo_saleOf { frames := 0, cells := 0, slots := 0, locals := 0 } (va_Pc [.ref h, .int x] (rdP (dC, dI) vwCl [(cI, .int), (cL, .long), (cZ, .boolean)] [(h, .inr (2, [.ref a1, .ref a2])), (a1, .inl (cI, 30, .inl (aO sp)))])) (vp_Si (fun r => (∃ j, j < 30 ∧ x = nI j ∧ r = oI (sp j)) ∨ (¬ inR 30 x ∧ r = oI none))) 0 0 (fun _ => False) := by
  refine Met.ofW (cc := b_Jo_saleOf) (maxL := 2) (ret := (some .int)) (by decide) rfl ?_
  intro pr en s m args below meth c s₁ B hml hv
  obtain ⟨rfl, hN, hP, hK⟩ := hv
  have hx := B.exec
  have hb := B.bytes
  have hr := B.returns
  have hts := atoms_spec (ws := ws_Jo_saleOf) B.pre
  have htg : ∀ w ∈ gW, w.before _ s = true := fun w h => hts w (List.mem_cons_of_mem _ h)
  have hown : s.vm.findClass R_Jo = some m.cls := findClass_of_methodNamed B.named
  have hlocks := B.notSynchronized
  have hl := lv_entry ([.ref h, .int x]) (n := 2) (Nat.le_of_ble_eq_true rfl)
  rw [lg_entry_eq]
  generalize (lg_sl ([.ref h, .int x]) ++ List.replicate (2 - (lg_sl ([.ref h, .int x])).length) Slot.unset).toArray = ls at hl ⊢
  have hl : lv_has ls 2 [(0, .ref h), (1, .int x)] := hl
  refine lv_iload_n hx hb d_Jo_saleOf_0 rfl (lv_at hl 1 rfl) ?_
  refine lv_if_lt (x := x) (tgt := 19) hx hb d_Jo_saleOf_1 (by decide) (fun c1 => ?_) (fun c1 => ?_)
  · refine lv_iconst (v := oI none) hx hb d_Jo_saleOf_19 (by decide +kernel) ?_
    exact W.iret (v := oI none) hx hb hr (fun t9 ht9 hW9 => ⟨oI none, rfl, Or.inr ⟨by first | exact inR_neg (by decide) (by assumption) | exact inR_big (by decide) (by assumption), rfl⟩, ht9⟩) (fun q h => nomatch h) d_Jo_saleOf_20
  · refine lv_iload_n hx hb d_Jo_saleOf_4 rfl (lv_at hl 1 rfl) ?_
    refine lv_bipush (v := nI 30) hx hb d_Jo_saleOf_5 (by decide +kernel) ?_
    refine lv_icmp_ge (x := x) (y := nI 30) (tgt := 19) hx hb d_Jo_saleOf_7 (by decide) (fun c7 => ?_) (fun c7 => ?_)
    · refine lv_iconst (v := oI none) hx hb d_Jo_saleOf_19 (by decide +kernel) ?_
      exact W.iret (v := oI none) hx hb hr (fun t9 ht9 hW9 => ⟨oI none, rfl, Or.inr ⟨by first | exact inR_neg (by decide) (by assumption) | exact inR_big (by decide) (by assumption), rfl⟩, ht9⟩) (fun q h => nomatch h) d_Jo_saleOf_20
    · obtain ⟨j, hj, hxj⟩ := inR_of (n := 30) (by decide) c1 c7
      refine lv_aload_n hx hb d_Jo_saleOf_10 rfl (lv_at hl 0 rfl) ?_
      refine va_get (D := (dC, dI)) (ci := 2) (v := .ref a1) (C := R_Jo) (T := F_Jo) (N := 2) hx hb htg iw_Jo hown hK hP 0 rfl rfl 0 (by decide) (htg _ k1_66) (fun _ h9 => h9) rfl d_Jo_saleOf_11 ?_
      refine lv_iload_n hx hb d_Jo_saleOf_14 rfl (lv_at hl 1 rfl) ?_
      refine bk_topi (y := nI j) hxj ?_
      refine bk_iald (v := oI (sp j)) hx hb hK hP 1 0 rfl rfl (by omega) (by decide) rfl d_Jo_saleOf_15 ?_
      refine lv_goto (tgt := 20) hx hb d_Jo_saleOf_16 (by decide) ?_
      exact W.iret (v := oI (sp j)) hx hb hr (fun t9 ht9 hW9 => ⟨oI (sp j), rfl, Or.inl ⟨j, hj, hxj, rfl⟩, ht9⟩) (fun q h => nomatch h) d_Jo_saleOf_20
set_option maxHeartbeats 4000000 in
set_option maxRecDepth 100000 in
theorem c_Jo_waiting (l : Launch) (dC : Nat → ClassId) (dI : Nat → Nat → Nat) (cI cL cZ : ClassId) (h a1 a2 : Nat) (sp : Nat → Option Nat) (hb0 b1 b2 b3 b4 n : Nat) (sh dy kd gr : Nat → Nat) (x y : Int32) (hi : bkI n sh dy kd gr) (hsp : ∀ p k, sp p = some k → k < 30) : Met l y_Jo_waiting ws_Jo_waiting { frames := 0, cells := 0, slots := 0, locals := 0 } (va_Pc [.ref h, .ref hb0, .int x, .int y] (rdP (dC, dI) vwCl [(cI, .int), (cL, .long), (cZ, .boolean)] [(h, .inr (2, [.ref a1, .ref a2])), (a1, .inl (cI, 30, .inl (aO sp))), (hb0, .inr (1, [.ref b1, .ref b2, .ref b3, .ref b4, .int (nI n)])), (b1, .inl (cI, 30, .inl (aI sh))), (b2, .inl (cI, 30, .inl (aI dy))), (b3, .inl (cI, 30, .inl (aI kd))), (b4, .inl (cL, 30, .inr (.inl (aL gr))))])) (vp_Si (fun r => ∃ o, r = oI o ∧ kth (wB sp dy x) n y o)) 0 0 (fun _ => False) := by
  refine Met.ofW (cc := b_Jo_waiting) (maxL := 8) (ret := (some .int)) (by decide) rfl ?_
  intro pr en s m args below meth c s₁ B hml hv
  obtain ⟨rfl, hN, hP, hK⟩ := hv
  have hx := B.exec
  have hb := B.bytes
  have hr := B.returns
  have hts := atoms_spec (ws := ws_Jo_waiting) B.pre
  have htg : ∀ w ∈ gW, w.before _ s = true := fun w h => hts w (List.mem_cons_of_mem _ h)
  have hown : s.vm.findClass R_Jo = some m.cls := findClass_of_methodNamed B.named
  have hlocks := B.notSynchronized
  have hl := lv_entry ([.ref h, .ref hb0, .int x, .int y]) (n := 8) (Nat.le_of_ble_eq_true rfl)
  rw [lg_entry_eq]
  generalize (lg_sl ([.ref h, .ref hb0, .int x, .int y]) ++ List.replicate (8 - (lg_sl ([.ref h, .ref hb0, .int x, .int y])).length) Slot.unset).toArray = ls at hl ⊢
  have hl : lv_has ls 8 [(0, .ref h), (1, .ref hb0), (2, .int x), (3, .int y)] := hl
  have hn := hi.1
  refine lv_iconst (v := nI 0) hx hb d_Jo_waiting_0 (by decide +kernel) ?_
  refine lv_istore (lv' := [(4, .int (nI 0)), (0, .ref h), (1, .ref hb0), (2, .int x), (3, .int y)]) hx hb d_Jo_waiting_1 hl (by decide) rfl (fun ls hl => ?_)
  refine lv_iconst (v := nI 0) hx hb d_Jo_waiting_3 (by decide +kernel) ?_
  refine lv_istore (lv' := [(5, .int (nI 0)), (4, .int (nI 0)), (0, .ref h), (1, .ref hb0), (2, .int x), (3, .int y)]) hx hb d_Jo_waiting_4 hl (by decide) rfl (fun ls hl => ?_)
  have J6 : ∀ (k : Nat) (i : Nat) (b : Nat), (i + k = n) → (b = cntB (wB sp dy x) i) → (noYet (wB sp dy x) y i) → ∀ (ls : Array Slot), lv_has ls 8 [(0, .ref h), (1, .ref hb0), (2, .int x), (3, .int y), (4, .int (nI b)), (5, .int (nI i))] → W pr l en (headSpec ws_Jo_waiting { frames := 0, cells := 0, slots := 0, locals := 0 }).room s m ([.ref h, .ref hb0, .int x, .int y] : List Value).toArray below meth c s.heap [] 0 0 (MQ below (vp_Si (fun r => ∃ o, r = oI o ∧ kth (wB sp dy x) n y o)) ([.ref h, .ref hb0, .int x, .int y] : List Value).toArray s 0 0 (fun _ => False)) (F0 m 6 ls []) := by
    intro k
    induction k with
    | zero =>
      intro i b hk hc hy ls hl
      refine lv_iload hx hb d_Jo_waiting_6 (lv_at hl 5 rfl) ?_
      refine lv_aload_n hx hb d_Jo_waiting_8 rfl (lv_at hl 1 rfl) ?_
      refine va_get (D := (dC, dI)) (ci := 1) (v := .int (nI n)) (C := R_Bk) (T := F_Bk) (N := 5) hx hb htg iw_Bk hown hK hP 2 rfl rfl 4 (by decide) (htg _ k1_41) (fun _ h9 => h9) rfl d_Jo_waiting_9 ?_
      refine bk_icmp_ge (a := i) (b := n) (tgt := 73) hx hb (by omega) (by omega) d_Jo_waiting_12 (by decide) (fun c12 => ?_) (fun c12 => by exfalso; omega)
      refine lv_iconst (v := oI none) hx hb d_Jo_waiting_73 (by decide +kernel) ?_
      exact W.iret (v := oI none) hx hb hr (fun t9 ht9 hW9 => ⟨oI none, rfl, ⟨none, rfl, by rw [show i = n by omega] at hy; exact hy⟩, ht9⟩) (fun q h => nomatch h) d_Jo_waiting_74
    | succ k ih6 =>
      intro i b hk hc hy ls hl
      have hd := (hi.2 i (by omega)).2.1
      have hle := cntB_le (wB sp dy x) i
      refine lv_iload hx hb d_Jo_waiting_6 (lv_at hl 5 rfl) ?_
      refine lv_aload_n hx hb d_Jo_waiting_8 rfl (lv_at hl 1 rfl) ?_
      refine va_get (D := (dC, dI)) (ci := 1) (v := .int (nI n)) (C := R_Bk) (T := F_Bk) (N := 5) hx hb htg iw_Bk hown hK hP 2 rfl rfl 4 (by decide) (htg _ k1_41) (fun _ h9 => h9) rfl d_Jo_waiting_9 ?_
      refine bk_icmp_ge (a := i) (b := n) (tgt := 73) hx hb (by omega) (by omega) d_Jo_waiting_12 (by decide) (fun c12 => by exfalso; omega) (fun c12 => ?_)
      refine lv_iload_n hx hb d_Jo_waiting_15 rfl (lv_at hl 2 rfl) ?_
      refine lv_i2l (v := (x).toInt64) hx hb d_Jo_waiting_16 rfl ?_
      refine lv_aload_n hx hb d_Jo_waiting_17 rfl (lv_at hl 1 rfl) ?_
      refine va_get (D := (dC, dI)) (ci := 1) (v := .ref b2) (C := R_Bk) (T := F_Bk) (N := 5) hx hb htg iw_Bk hown hK hP 2 rfl rfl 1 (by decide) (htg _ k1_34) (fun _ h9 => h9) rfl d_Jo_waiting_18 ?_
      refine lv_iload hx hb d_Jo_waiting_21 (lv_at hl 5 rfl) ?_
      refine bk_iald (v := nI (dy i)) hx hb hK hP 4 0 rfl rfl (by omega) (by decide) rfl d_Jo_waiting_23 ?_
      refine bk_i2l hx hb (by omega) d_Jo_waiting_24 ?_
      refine lv_lsub hx hb d_Jo_waiting_25 ?_
      refine lv_lstore (lv' := [(6, .long (((x).toInt64) - (lN (dy i)))), (0, .ref h), (1, .ref hb0), (2, .int x), (3, .int y), (4, .int (nI b)), (5, .int (nI i))]) hx hb d_Jo_waiting_26 hl (by decide) rfl (fun ls hl => ?_)
      refine lv_aload_n hx hb d_Jo_waiting_28 rfl (lv_at hl 1 rfl) ?_
      refine va_get (D := (dC, dI)) (ci := 2) (v := .ref a1) (C := R_Jo) (T := F_Jo) (N := 2) hx hb htg iw_Jo hown hK hP 0 rfl rfl 0 (by decide) (htg _ k1_66) (fun _ h9 => h9) rfl d_Jo_waiting_29 ?_
      refine lv_iload hx hb d_Jo_waiting_32 (lv_at hl 6 rfl) ?_
      refine bk_iald (v := oI (sp i)) hx hb hK hP 1 0 rfl rfl (by omega) (by decide) rfl d_Jo_waiting_34 ?_
      refine lv_iconst (v := oI none) hx hb d_Jo_waiting_35 (by decide +kernel) ?_
      refine bk_ocmp_ne (r := sp i) (tgt := 67) hx hb (fun k h => by have := hsp _ k h; omega) d_Jo_waiting_36 (by decide) (fun c36 => ?_) (fun c36 => ?_)
      · refine lv_iinc (v := nI (i + 1)) (lv' := [(5, .int (nI (i + 1))), (6, .long (((x).toInt64) - (lN (dy i)))), (0, .ref h), (1, .ref hb0), (2, .int x), (3, .int y), (4, .int (nI b))]) hx hb d_Jo_waiting_67 hl (k := 6) rfl (bk_inc i) (by decide) rfl (fun ls hl => ?_)
        refine lv_goto (tgt := 6) hx hb d_Jo_waiting_70 (by decide) ?_
        exact ih6 (i + 1) b (by omega) (by first | exact cntB_no hc (w_no1 c36) | exact cntB_no hc (w_no2 hd c42) | exact cntB_no hc (w_no3 hd c51) | exact cntB_yes hc (w_yes hd c36 c42 c51)) (by first | exact noYet_no hy (w_no1 c36) | exact noYet_no hy (w_no2 hd c42) | exact noYet_no hy (w_no3 hd c51) | exact noYet_ne hy hc c58) ls (lv_sub hl [2, 3, 4, 5, 6, 0] rfl)
      · refine lv_lload hx hb d_Jo_waiting_39 (lv_at hl 0 rfl) ?_
        refine lv_lconst (v := lN 0) hx hb d_Jo_waiting_41 (by decide +kernel) ?_
        refine bk_lcmp_lt (x := (((x).toInt64) - (lN (dy i)))) (y := lN 0) (tgt := 67) hx hb d_Jo_waiting_42 d_Jo_waiting_43 (by decide) (fun c42 => ?_) (fun c42 => ?_)
        · refine lv_iinc (v := nI (i + 1)) (lv' := [(5, .int (nI (i + 1))), (6, .long (((x).toInt64) - (lN (dy i)))), (0, .ref h), (1, .ref hb0), (2, .int x), (3, .int y), (4, .int (nI b))]) hx hb d_Jo_waiting_67 hl (k := 6) rfl (bk_inc i) (by decide) rfl (fun ls hl => ?_)
          refine lv_goto (tgt := 6) hx hb d_Jo_waiting_70 (by decide) ?_
          exact ih6 (i + 1) b (by omega) (by first | exact cntB_no hc (w_no1 c36) | exact cntB_no hc (w_no2 hd c42) | exact cntB_no hc (w_no3 hd c51) | exact cntB_yes hc (w_yes hd c36 c42 c51)) (by first | exact noYet_no hy (w_no1 c36) | exact noYet_no hy (w_no2 hd c42) | exact noYet_no hy (w_no3 hd c51) | exact noYet_ne hy hc c58) ls (lv_sub hl [2, 3, 4, 5, 6, 0] rfl)
        · refine lv_lload hx hb d_Jo_waiting_46 (lv_at hl 0 rfl) ?_
          refine lv_ldc2 (own := R_Jo) (v := 5) hx hb hown (htg _ k2_36) d_Jo_waiting_48 ?_
          refine bk_topl (y := lN 5) (by decide +kernel) ?_
          refine bk_lcmp_gt (x := (((x).toInt64) - (lN (dy i)))) (y := lN 5) (tgt := 67) hx hb d_Jo_waiting_51 d_Jo_waiting_52 (by decide) (fun c51 => ?_) (fun c51 => ?_)
          · refine lv_iinc (v := nI (i + 1)) (lv' := [(5, .int (nI (i + 1))), (6, .long (((x).toInt64) - (lN (dy i)))), (0, .ref h), (1, .ref hb0), (2, .int x), (3, .int y), (4, .int (nI b))]) hx hb d_Jo_waiting_67 hl (k := 6) rfl (bk_inc i) (by decide) rfl (fun ls hl => ?_)
            refine lv_goto (tgt := 6) hx hb d_Jo_waiting_70 (by decide) ?_
            exact ih6 (i + 1) b (by omega) (by first | exact cntB_no hc (w_no1 c36) | exact cntB_no hc (w_no2 hd c42) | exact cntB_no hc (w_no3 hd c51) | exact cntB_yes hc (w_yes hd c36 c42 c51)) (by first | exact noYet_no hy (w_no1 c36) | exact noYet_no hy (w_no2 hd c42) | exact noYet_no hy (w_no3 hd c51) | exact noYet_ne hy hc c58) ls (lv_sub hl [2, 3, 4, 5, 6, 0] rfl)
          · refine lv_iload hx hb d_Jo_waiting_55 (lv_at hl 5 rfl) ?_
            refine lv_iload_n hx hb d_Jo_waiting_57 rfl (lv_at hl 4 rfl) ?_
            refine lv_icmp_ne (x := nI b) (y := y) (tgt := 64) hx hb d_Jo_waiting_58 (by decide) (fun c58 => ?_) (fun c58 => ?_)
            · refine lv_iinc (v := nI (b + 1)) (lv' := [(4, .int (nI (b + 1))), (6, .long (((x).toInt64) - (lN (dy i)))), (0, .ref h), (1, .ref hb0), (2, .int x), (3, .int y), (5, .int (nI i))]) hx hb d_Jo_waiting_64 hl (k := 5) rfl (bk_inc b) (by decide) rfl (fun ls hl => ?_)
              refine lv_iinc (v := nI (i + 1)) (lv' := [(5, .int (nI (i + 1))), (4, .int (nI (b + 1))), (6, .long (((x).toInt64) - (lN (dy i)))), (0, .ref h), (1, .ref hb0), (2, .int x), (3, .int y)]) hx hb d_Jo_waiting_67 hl (k := 6) rfl (bk_inc i) (by decide) rfl (fun ls hl => ?_)
              refine lv_goto (tgt := 6) hx hb d_Jo_waiting_70 (by decide) ?_
              exact ih6 (i + 1) (b + 1) (by omega) (by first | exact cntB_no hc (w_no1 c36) | exact cntB_no hc (w_no2 hd c42) | exact cntB_no hc (w_no3 hd c51) | exact cntB_yes hc (w_yes hd c36 c42 c51)) (by first | exact noYet_no hy (w_no1 c36) | exact noYet_no hy (w_no2 hd c42) | exact noYet_no hy (w_no3 hd c51) | exact noYet_ne hy hc c58) ls (lv_sub hl [3, 4, 5, 6, 1, 0] rfl)
            · refine lv_iload hx hb d_Jo_waiting_61 (lv_at hl 6 rfl) ?_
              exact W.iret (v := nI i) hx hb hr (fun t9 ht9 hW9 => ⟨nI i, rfl, ⟨some i, rfl, by omega, w_yes hd c36 c42 c51, by rw [← hc]; exact c58⟩, ht9⟩) (fun q h => nomatch h) d_Jo_waiting_63
  exact J6 n 0 0 (by omega) rfl noYet_0 ls (lv_sub hl [2, 3, 4, 5, 1, 0] rfl)
set_option maxHeartbeats 4000000 in
set_option maxRecDepth 100000 in
theorem c_Jo_joinBest (l : Launch) (dC : Nat → ClassId) (dI : Nat → Nat → Nat) (cI cL cZ : ClassId) (sz : Nat) (h a1 a2 : Nat) (sp ps : Nat → Option Nat) (hbk b1 b2 b3 b4 n : Nat) (sh dy kd gr : Nat → Nat) (hsl s1 s2 s3 s4 n2 : Nat) (sh2 dy2 kd2 gr2 : Nat → Nat) (hi : bkI n sh dy kd gr) (hi2 : bkI n2 sh2 dy2 kd2 gr2) (hsp : ∀ p k, sp p = some k → k < 30) (hps : ∀ p k, ps p = some k → k < 30) : Met l y_Jo_joinBest ws_Jo_joinBest { frames := 3, cells := 0, slots := 0, locals := 74 } (va_Pc [.ref h, .ref hbk, .ref hsl] (wrP (dC, dI) vwCl [(cI, .int), (cL, .long), (cZ, .boolean)] [(h, .inr (2, [.ref a1, .ref a2])), (a1, .inl (cI, 30, .inl (aO sp))), (a2, .inl (cI, 30, .inl (aO ps))), (hbk, .inr (1, [.ref b1, .ref b2, .ref b3, .ref b4, .int (nI n)])), (b1, .inl (cI, 30, .inl (aI sh))), (b2, .inl (cI, 30, .inl (aI dy))), (b3, .inl (cI, 30, .inl (aI kd))), (b4, .inl (cL, 30, .inr (.inl (aL gr)))), (hsl, .inr (1, [.ref s1, .ref s2, .ref s3, .ref s4, .int (nI n2)])), (s1, .inl (cI, 30, .inl (aI sh2))), (s2, .inl (cI, 30, .inl (aI dy2))), (s3, .inl (cI, 30, .inl (aI kd2))), (s4, .inl (cL, 30, .inr (.inl (aL gr2))))] sz)) (va_Qi (fun (r : Int32) (u : (Nat → Option Nat) × (Nat → Option Nat)) => ((jbest (ptOf sh dy kd gr sh2 dy2 kd2 gr2) n n2 (sp, sdO ps)).1 = 0 ∧ r = nI 0 ∧ u = (sp, ps)) ∨ ((jbest (ptOf sh dy kd gr sh2 dy2 kd2 gr2) n n2 (sp, sdO ps)).1 ≠ 0 ∧ r = nI 1 ∧ u = (va_up sp (jbest (ptOf sh dy kd gr sh2 dy2 kd2 gr2) n n2 (sp, sdO ps)).2.1 (some (jbest (ptOf sh dy kd gr sh2 dy2 kd2 gr2) n n2 (sp, sdO ps)).2.2), va_up ps (jbest (ptOf sh dy kd gr sh2 dy2 kd2 gr2) n n2 (sp, sdO ps)).2.2 (some (jbest (ptOf sh dy kd gr sh2 dy2 kd2 gr2) n n2 (sp, sdO ps)).2.1)))) (fun (u : (Nat → Option Nat) × (Nat → Option Nat)) => wrQ (dC, dI) vwCl [(cI, .int), (cL, .long), (cZ, .boolean)] (va_A [(h, .inr (2, [.ref a1, .ref a2])), (a1, .inl (cI, 30, .inl (aO sp))), (a2, .inl (cI, 30, .inl (aO ps))), (hbk, .inr (1, [.ref b1, .ref b2, .ref b3, .ref b4, .int (nI n)])), (b1, .inl (cI, 30, .inl (aI sh))), (b2, .inl (cI, 30, .inl (aI dy))), (b3, .inl (cI, 30, .inl (aI kd))), (b4, .inl (cL, 30, .inr (.inl (aL gr)))), (hsl, .inr (1, [.ref s1, .ref s2, .ref s3, .ref s4, .int (nI n2)])), (s1, .inl (cI, 30, .inl (aI sh2))), (s2, .inl (cI, 30, .inl (aI dy2))), (s3, .inl (cI, 30, .inl (aI kd2))), (s4, .inl (cL, 30, .inr (.inl (aL gr2))))] sz) [(h, .inr (2, [.ref a1, .ref a2])), (a1, .inl (cI, 30, .inl (aO u.1))), (a2, .inl (cI, 30, .inl (aO u.2))), (hbk, .inr (1, [.ref b1, .ref b2, .ref b3, .ref b4, .int (nI n)])), (b1, .inl (cI, 30, .inl (aI sh))), (b2, .inl (cI, 30, .inl (aI dy))), (b3, .inl (cI, 30, .inl (aI kd))), (b4, .inl (cL, 30, .inr (.inl (aL gr)))), (hsl, .inr (1, [.ref s1, .ref s2, .ref s3, .ref s4, .int (nI n2)])), (s1, .inl (cI, 30, .inl (aI sh2))), (s2, .inl (cI, 30, .inl (aI dy2))), (s3, .inl (cI, 30, .inl (aI kd2))), (s4, .inl (cL, 30, .inr (.inl (aL gr2))))]) (va_A [(h, .inr (2, [.ref a1, .ref a2])), (a1, .inl (cI, 30, .inl (aO sp))), (a2, .inl (cI, 30, .inl (aO ps))), (hbk, .inr (1, [.ref b1, .ref b2, .ref b3, .ref b4, .int (nI n)])), (b1, .inl (cI, 30, .inl (aI sh))), (b2, .inl (cI, 30, .inl (aI dy))), (b3, .inl (cI, 30, .inl (aI kd))), (b4, .inl (cL, 30, .inr (.inl (aL gr)))), (hsl, .inr (1, [.ref s1, .ref s2, .ref s3, .ref s4, .int (nI n2)])), (s1, .inl (cI, 30, .inl (aI sh2))), (s2, .inl (cI, 30, .inl (aI dy2))), (s3, .inl (cI, 30, .inl (aI kd2))), (s4, .inl (cL, 30, .inr (.inl (aL gr2))))] sz)) 0 0 (va_A [(h, .inr (2, [.ref a1, .ref a2])), (a1, .inl (cI, 30, .inl (aO sp))), (a2, .inl (cI, 30, .inl (aO ps))), (hbk, .inr (1, [.ref b1, .ref b2, .ref b3, .ref b4, .int (nI n)])), (b1, .inl (cI, 30, .inl (aI sh))), (b2, .inl (cI, 30, .inl (aI dy))), (b3, .inl (cI, 30, .inl (aI kd))), (b4, .inl (cL, 30, .inr (.inl (aL gr)))), (hsl, .inr (1, [.ref s1, .ref s2, .ref s3, .ref s4, .int (nI n2)])), (s1, .inl (cI, 30, .inl (aI sh2))), (s2, .inl (cI, 30, .inl (aI dy2))), (s3, .inl (cI, 30, .inl (aI kd2))), (s4, .inl (cL, 30, .inr (.inl (aL gr2))))] sz) := by
  refine Met.ofW (cc := b_Jo_joinBest) (maxL := 9) (ret := (some .boolean)) (by decide) rfl ?_
  intro pr en s m args below meth c s₁ B hml hv
  obtain ⟨rfl, hN, hsz, hP, hK, hD0⟩ := hv
  have hx := B.exec
  have hb := B.bytes
  have hr := B.returns
  have hts := atoms_spec (ws := ws_Jo_joinBest) B.pre
  have htg : ∀ w ∈ gW, w.before _ s = true := fun w h => hts w (List.mem_cons_of_mem _ h)
  have hown : s.vm.findClass R_Jo = some m.cls := findClass_of_methodNamed B.named
  have hlocks := B.notSynchronized
  subst hsz
  have hD := hD0.self (sz := s.heap.size)
  generalize hAe : va_A [(h, .inr (2, [.ref a1, .ref a2])), (a1, .inl (cI, 30, .inl (aO sp))), (a2, .inl (cI, 30, .inl (aO ps))), (hbk, .inr (1, [.ref b1, .ref b2, .ref b3, .ref b4, .int (nI n)])), (b1, .inl (cI, 30, .inl (aI sh))), (b2, .inl (cI, 30, .inl (aI dy))), (b3, .inl (cI, 30, .inl (aI kd))), (b4, .inl (cL, 30, .inr (.inl (aL gr)))), (hsl, .inr (1, [.ref s1, .ref s2, .ref s3, .ref s4, .int (nI n2)])), (s1, .inl (cI, 30, .inl (aI sh2))), (s2, .inl (cI, 30, .inl (aI dy2))), (s3, .inl (cI, 30, .inl (aI kd2))), (s4, .inl (cL, 30, .inr (.inl (aL gr2))))] s.heap.size = A at hD ⊢
  have hA : ∀ q : Nat, s.heap.size ≤ q → A q := fun q h => by rw [← hAe]; exact Or.inr h
  have hS : va_S A s.heap s.heap [] := va_S.rf
  have hP : va_P (dC, dI) vwCl [(h, .inr (2, [.ref a1, .ref a2])), (a1, .inl (cI, 30, .inl (aO sp))), (a2, .inl (cI, 30, .inl (aO ps))), (hbk, .inr (1, [.ref b1, .ref b2, .ref b3, .ref b4, .int (nI n)])), (b1, .inl (cI, 30, .inl (aI sh))), (b2, .inl (cI, 30, .inl (aI dy))), (b3, .inl (cI, 30, .inl (aI kd))), (b4, .inl (cL, 30, .inr (.inl (aL gr)))), (hsl, .inr (1, [.ref s1, .ref s2, .ref s3, .ref s4, .int (nI n2)])), (s1, .inl (cI, 30, .inl (aI sh2))), (s2, .inl (cI, 30, .inl (aI dy2))), (s3, .inl (cI, 30, .inl (aI kd2))), (s4, .inl (cL, 30, .inr (.inl (aL gr2))))] s.heap := hP
  have hl := lv_entry ([.ref h, .ref hbk, .ref hsl]) (n := 9) (Nat.le_of_ble_eq_true rfl)
  rw [lg_entry_eq]
  generalize (lg_sl ([.ref h, .ref hbk, .ref hsl]) ++ List.replicate (9 - (lg_sl ([.ref h, .ref hbk, .ref hsl])).length) Slot.unset).toArray = ls at hl ⊢
  have hl : lv_has ls 9 [(0, .ref h), (1, .ref hbk), (2, .ref hsl)] := hl
  have hn := hi.1
  have hn2 := hi2.1
  refine lv_iconst (v := nI 0) hx hb d_Jo_joinBest_0 (by decide +kernel) ?_
  refine lv_istore_n (lv' := [(3, .int (nI 0)), (0, .ref h), (1, .ref hbk), (2, .ref hsl)]) hx hb d_Jo_joinBest_1 rfl hl (by decide) rfl (fun ls hl => ?_)
  refine lv_iconst (v := oI none) hx hb d_Jo_joinBest_2 (by decide +kernel) ?_
  refine lv_istore (lv' := [(4, .int (oI none)), (3, .int (nI 0)), (0, .ref h), (1, .ref hbk), (2, .ref hsl)]) hx hb d_Jo_joinBest_3 hl (by decide) rfl (fun ls hl => ?_)
  refine lv_iconst (v := oI none) hx hb d_Jo_joinBest_5 (by decide +kernel) ?_
  refine lv_istore (lv' := [(5, .int (oI none)), (4, .int (oI none)), (3, .int (nI 0)), (0, .ref h), (1, .ref hbk), (2, .ref hsl)]) hx hb d_Jo_joinBest_6 hl (by decide) rfl (fun ls hl => ?_)
  refine lv_iconst (v := nI 0) hx hb d_Jo_joinBest_8 (by decide +kernel) ?_
  refine lv_istore (lv' := [(6, .int (nI 0)), (5, .int (oI none)), (4, .int (oI none)), (3, .int (nI 0)), (0, .ref h), (1, .ref hbk), (2, .ref hsl)]) hx hb d_Jo_joinBest_9 hl (by decide) rfl (fun ls hl => ?_)
  have J11 : ∀ (k : Nat) (p : Nat) (b : Nat × Nat × Nat), (p + k = n) → (b = scO (vv (ptOf sh dy kd gr sh2 dy2 kd2 gr2) sp (sdO ps)) n2 p) → (b.1 ≤ 1000) → ∀ (H : Heap) (locs : List Loc), va_P (dC, dI) vwCl [(h, .inr (2, [.ref a1, .ref a2])), (a1, .inl (cI, 30, .inl (aO sp))), (a2, .inl (cI, 30, .inl (aO ps))), (hbk, .inr (1, [.ref b1, .ref b2, .ref b3, .ref b4, .int (nI n)])), (b1, .inl (cI, 30, .inl (aI sh))), (b2, .inl (cI, 30, .inl (aI dy))), (b3, .inl (cI, 30, .inl (aI kd))), (b4, .inl (cL, 30, .inr (.inl (aL gr)))), (hsl, .inr (1, [.ref s1, .ref s2, .ref s3, .ref s4, .int (nI n2)])), (s1, .inl (cI, 30, .inl (aI sh2))), (s2, .inl (cI, 30, .inl (aI dy2))), (s3, .inl (cI, 30, .inl (aI kd2))), (s4, .inl (cL, 30, .inr (.inl (aL gr2))))] H → va_D A [(h, .inr (2, [.ref a1, .ref a2])), (a1, .inl (cI, 30, .inl (aO sp))), (a2, .inl (cI, 30, .inl (aO ps))), (hbk, .inr (1, [.ref b1, .ref b2, .ref b3, .ref b4, .int (nI n)])), (b1, .inl (cI, 30, .inl (aI sh))), (b2, .inl (cI, 30, .inl (aI dy))), (b3, .inl (cI, 30, .inl (aI kd))), (b4, .inl (cL, 30, .inr (.inl (aL gr)))), (hsl, .inr (1, [.ref s1, .ref s2, .ref s3, .ref s4, .int (nI n2)])), (s1, .inl (cI, 30, .inl (aI sh2))), (s2, .inl (cI, 30, .inl (aI dy2))), (s3, .inl (cI, 30, .inl (aI kd2))), (s4, .inl (cL, 30, .inr (.inl (aL gr2))))] → va_S A s.heap H locs → ∀ (ls : Array Slot), lv_has ls 9 [(0, .ref h), (1, .ref hbk), (2, .ref hsl), (3, .int (nI b.1)), (4, .int (oI (bO b.1 b.2.1))), (5, .int (oI (bO b.1 b.2.2))), (6, .int (nI p))] → W pr l en (headSpec ws_Jo_joinBest { frames := 3, cells := 0, slots := 0, locals := 74 }).room s m ([.ref h, .ref hbk, .ref hsl] : List Value).toArray below meth c H locs 0 0 (MQ below (va_Qi (fun (r : Int32) (u : (Nat → Option Nat) × (Nat → Option Nat)) => ((jbest (ptOf sh dy kd gr sh2 dy2 kd2 gr2) n n2 (sp, sdO ps)).1 = 0 ∧ r = nI 0 ∧ u = (sp, ps)) ∨ ((jbest (ptOf sh dy kd gr sh2 dy2 kd2 gr2) n n2 (sp, sdO ps)).1 ≠ 0 ∧ r = nI 1 ∧ u = (va_up sp (jbest (ptOf sh dy kd gr sh2 dy2 kd2 gr2) n n2 (sp, sdO ps)).2.1 (some (jbest (ptOf sh dy kd gr sh2 dy2 kd2 gr2) n n2 (sp, sdO ps)).2.2), va_up ps (jbest (ptOf sh dy kd gr sh2 dy2 kd2 gr2) n n2 (sp, sdO ps)).2.2 (some (jbest (ptOf sh dy kd gr sh2 dy2 kd2 gr2) n n2 (sp, sdO ps)).2.1)))) (fun (u : (Nat → Option Nat) × (Nat → Option Nat)) => wrQ (dC, dI) vwCl [(cI, .int), (cL, .long), (cZ, .boolean)] A [(h, .inr (2, [.ref a1, .ref a2])), (a1, .inl (cI, 30, .inl (aO u.1))), (a2, .inl (cI, 30, .inl (aO u.2))), (hbk, .inr (1, [.ref b1, .ref b2, .ref b3, .ref b4, .int (nI n)])), (b1, .inl (cI, 30, .inl (aI sh))), (b2, .inl (cI, 30, .inl (aI dy))), (b3, .inl (cI, 30, .inl (aI kd))), (b4, .inl (cL, 30, .inr (.inl (aL gr)))), (hsl, .inr (1, [.ref s1, .ref s2, .ref s3, .ref s4, .int (nI n2)])), (s1, .inl (cI, 30, .inl (aI sh2))), (s2, .inl (cI, 30, .inl (aI dy2))), (s3, .inl (cI, 30, .inl (aI kd2))), (s4, .inl (cL, 30, .inr (.inl (aL gr2))))]) A) ([.ref h, .ref hbk, .ref hsl] : List Value).toArray s 0 0 A) (F0 m 11 ls []) := by
    intro k
    induction k with
    | zero =>
      intro p b hk hbb hm H locs hP hD hS ls hl
      refine lv_iload hx hb d_Jo_joinBest_11 (lv_at hl 6 rfl) ?_
      refine lv_aload_n hx hb d_Jo_joinBest_13 rfl (lv_at hl 1 rfl) ?_
      refine va_get (D := (dC, dI)) (ci := 1) (v := .int (nI n)) (C := R_Bk) (T := F_Bk) (N := 5) hx hb htg iw_Bk hown hK hP 3 rfl rfl 4 (by decide) (htg _ k1_41) (fun _ h9 => h9) rfl d_Jo_joinBest_14 ?_
      refine bk_icmp_ge (a := p) (b := n) (tgt := 101) hx hb (by omega) (by omega) d_Jo_joinBest_17 (by decide) (fun c17 => ?_) (fun c17 => by exfalso; omega)
      rcases Nat.eq_zero_or_pos b.1 with h0 | h0
      · rw [show bO b.1 b.2.1 = none from if_pos h0, show bO b.1 b.2.2 = none from if_pos h0] at hl
        refine lv_iload hx hb d_Jo_joinBest_101 (lv_at hl 4 rfl) ?_
        refine lv_iconst (v := oI none) hx hb d_Jo_joinBest_103 (by decide +kernel) ?_
        refine bk_ocmp_eq (r := none) (tgt := 113) hx hb (by intro k h; cases h) d_Jo_joinBest_104 (by decide) (fun c104 => ?_) (fun c104 => absurd rfl c104)
        refine lv_iconst (v := nI 0) hx hb d_Jo_joinBest_113 (by decide +kernel) ?_
        have hP9 := hP.sub (ws' := [(h, .inr (2, [.ref a1, .ref a2])), (a1, .inl (cI, 30, .inl (aO sp))), (a2, .inl (cI, 30, .inl (aO ps))), (hbk, .inr (1, [.ref b1, .ref b2, .ref b3, .ref b4, .int (nI n)])), (b1, .inl (cI, 30, .inl (aI sh))), (b2, .inl (cI, 30, .inl (aI dy))), (b3, .inl (cI, 30, .inl (aI kd))), (b4, .inl (cL, 30, .inr (.inl (aL gr)))), (hsl, .inr (1, [.ref s1, .ref s2, .ref s3, .ref s4, .int (nI n2)])), (s1, .inl (cI, 30, .inl (aI sh2))), (s2, .inl (cI, 30, .inl (aI dy2))), (s3, .inl (cI, 30, .inl (aI kd2))), (s4, .inl (cL, 30, .inr (.inl (aL gr2))))]) [0, 1, 2, 3, 4, 5, 6, 7, 8, 9, 10, 11, 12] rfl
        have hD9 := hD.sub (ws' := [(h, .inr (2, [.ref a1, .ref a2])), (a1, .inl (cI, 30, .inl (aO sp))), (a2, .inl (cI, 30, .inl (aO ps))), (hbk, .inr (1, [.ref b1, .ref b2, .ref b3, .ref b4, .int (nI n)])), (b1, .inl (cI, 30, .inl (aI sh))), (b2, .inl (cI, 30, .inl (aI dy))), (b3, .inl (cI, 30, .inl (aI kd))), (b4, .inl (cL, 30, .inr (.inl (aL gr)))), (hsl, .inr (1, [.ref s1, .ref s2, .ref s3, .ref s4, .int (nI n2)])), (s1, .inl (cI, 30, .inl (aI sh2))), (s2, .inl (cI, 30, .inl (aI dy2))), (s3, .inl (cI, 30, .inl (aI kd2))), (s4, .inl (cL, 30, .inr (.inl (aL gr2))))]) [0, 1, 2, 3, 4, 5, 6, 7, 8, 9, 10, 11, 12] (by decide) rfl
        exact W.zret (v := nI 0) (ty := .boolean) hx hb hr rfl (fun t9 ht9 hW9 => ⟨⟨nI 0, (sp, ps), rfl, (by rw [show p = n by omega] at hbb; subst hbb; exact Or.inl ⟨h0, rfl, rfl⟩), by rw [ht9]; exact hP9, va_K.moved hW9.alike hK, hD9⟩, hS.F ht9⟩) hS.2.2 d_Jo_joinBest_114
      · rw [show bO b.1 b.2.1 = some b.2.1 from if_neg (by omega), show bO b.1 b.2.2 = some b.2.2 from if_neg (by omega)] at hl
        have hl : lv_has ls 9 [(0, .ref h), (1, .ref hbk), (2, .ref hsl), (3, .int (nI b.1)), (4, .int (nI b.2.1)), (5, .int (nI b.2.2)), (6, .int (nI p))] := hl
        have hpn : p = n := by omega
        obtain ⟨hv1, hv2, -⟩ : b.2.1 < n ∧ b.2.2 < n2 ∧ True := by
          have := scO_val (vv (ptOf sh dy kd gr sh2 dy2 kd2 gr2) sp (sdO ps)) n2 n
          rw [← hpn, ← hbb] at this
          rcases this with e | ⟨e1, e2, -⟩
          · omega
          · exact ⟨by omega, e2, trivial⟩
        refine lv_iload hx hb d_Jo_joinBest_101 (lv_at hl 4 rfl) ?_
        refine lv_iconst (v := oI none) hx hb d_Jo_joinBest_103 (by decide +kernel) ?_
        refine bk_ocmp_eq (r := some b.2.1) (tgt := 113) hx hb (by intro k h; cases h; omega) d_Jo_joinBest_104 (by decide) (fun c104 => nomatch c104) (fun c104 => ?_)
        refine lv_iload hx hb d_Jo_joinBest_107 (lv_at hl 5 rfl) ?_
        refine lv_iconst (v := oI none) hx hb d_Jo_joinBest_109 (by decide +kernel) ?_
        refine bk_ocmp_ne (r := some b.2.2) (tgt := 115) hx hb (by intro k h; cases h; omega) d_Jo_joinBest_110 (by decide) (fun c110 => ?_) (fun c110 => nomatch c110)
        refine lv_aload_n hx hb d_Jo_joinBest_115 rfl (lv_at hl 0 rfl) ?_
        refine va_get (D := (dC, dI)) (ci := 2) (v := .ref a1) (C := R_Jo) (T := F_Jo) (N := 2) hx hb htg iw_Jo hown hK hP 0 rfl rfl 0 (by decide) (htg _ k1_66) (fun _ h9 => h9) rfl d_Jo_joinBest_116 ?_
        refine lv_iload hx hb d_Jo_joinBest_119 (lv_at hl 4 rfl) ?_
        refine lv_iload hx hb d_Jo_joinBest_121 (lv_at hl 5 rfl) ?_
        refine bk_iast (x := nI b.2.2) (f2 := aO (va_up sp b.2.1 (some b.2.2))) hx hb hK hP hD hS 1 0 rfl rfl (by omega) (by decide) (aO_up _ _ (some b.2.2)) d_Jo_joinBest_123 (fun H locs hP hD hS => ?_)
        have hP : va_P (dC, dI) vwCl [(h, .inr (2, [.ref a1, .ref a2])), (a1, .inl (cI, 30, .inl (aO (va_up sp b.2.1 (some b.2.2))))), (a2, .inl (cI, 30, .inl (aO ps))), (hbk, .inr (1, [.ref b1, .ref b2, .ref b3, .ref b4, .int (nI n)])), (b1, .inl (cI, 30, .inl (aI sh))), (b2, .inl (cI, 30, .inl (aI dy))), (b3, .inl (cI, 30, .inl (aI kd))), (b4, .inl (cL, 30, .inr (.inl (aL gr)))), (hsl, .inr (1, [.ref s1, .ref s2, .ref s3, .ref s4, .int (nI n2)])), (s1, .inl (cI, 30, .inl (aI sh2))), (s2, .inl (cI, 30, .inl (aI dy2))), (s3, .inl (cI, 30, .inl (aI kd2))), (s4, .inl (cL, 30, .inr (.inl (aL gr2))))] H := hP
        have hD : va_D A [(h, .inr (2, [.ref a1, .ref a2])), (a1, .inl (cI, 30, .inl (aO (va_up sp b.2.1 (some b.2.2))))), (a2, .inl (cI, 30, .inl (aO ps))), (hbk, .inr (1, [.ref b1, .ref b2, .ref b3, .ref b4, .int (nI n)])), (b1, .inl (cI, 30, .inl (aI sh))), (b2, .inl (cI, 30, .inl (aI dy))), (b3, .inl (cI, 30, .inl (aI kd))), (b4, .inl (cL, 30, .inr (.inl (aL gr)))), (hsl, .inr (1, [.ref s1, .ref s2, .ref s3, .ref s4, .int (nI n2)])), (s1, .inl (cI, 30, .inl (aI sh2))), (s2, .inl (cI, 30, .inl (aI dy2))), (s3, .inl (cI, 30, .inl (aI kd2))), (s4, .inl (cL, 30, .inr (.inl (aL gr2))))] := hD
        refine lv_aload_n hx hb d_Jo_joinBest_124 rfl (lv_at hl 0 rfl) ?_
        refine va_get (D := (dC, dI)) (ci := 2) (v := .ref a2) (C := R_Jo) (T := F_Jo) (N := 2) hx hb htg iw_Jo hown hK hP 0 rfl rfl 1 (by decide) (htg _ k1_67) (fun _ h9 => h9) rfl d_Jo_joinBest_125 ?_
        refine lv_iload hx hb d_Jo_joinBest_128 (lv_at hl 5 rfl) ?_
        refine lv_iload hx hb d_Jo_joinBest_130 (lv_at hl 4 rfl) ?_
        refine bk_iast (x := nI b.2.1) (f2 := aO (va_up ps b.2.2 (some b.2.1))) hx hb hK hP hD hS 2 0 rfl rfl (by omega) (by decide) (aO_up _ _ (some b.2.1)) d_Jo_joinBest_132 (fun H locs hP hD hS => ?_)
        have hP : va_P (dC, dI) vwCl [(h, .inr (2, [.ref a1, .ref a2])), (a1, .inl (cI, 30, .inl (aO (va_up sp b.2.1 (some b.2.2))))), (a2, .inl (cI, 30, .inl (aO (va_up ps b.2.2 (some b.2.1))))), (hbk, .inr (1, [.ref b1, .ref b2, .ref b3, .ref b4, .int (nI n)])), (b1, .inl (cI, 30, .inl (aI sh))), (b2, .inl (cI, 30, .inl (aI dy))), (b3, .inl (cI, 30, .inl (aI kd))), (b4, .inl (cL, 30, .inr (.inl (aL gr)))), (hsl, .inr (1, [.ref s1, .ref s2, .ref s3, .ref s4, .int (nI n2)])), (s1, .inl (cI, 30, .inl (aI sh2))), (s2, .inl (cI, 30, .inl (aI dy2))), (s3, .inl (cI, 30, .inl (aI kd2))), (s4, .inl (cL, 30, .inr (.inl (aL gr2))))] H := hP
        have hD : va_D A [(h, .inr (2, [.ref a1, .ref a2])), (a1, .inl (cI, 30, .inl (aO (va_up sp b.2.1 (some b.2.2))))), (a2, .inl (cI, 30, .inl (aO (va_up ps b.2.2 (some b.2.1))))), (hbk, .inr (1, [.ref b1, .ref b2, .ref b3, .ref b4, .int (nI n)])), (b1, .inl (cI, 30, .inl (aI sh))), (b2, .inl (cI, 30, .inl (aI dy))), (b3, .inl (cI, 30, .inl (aI kd))), (b4, .inl (cL, 30, .inr (.inl (aL gr)))), (hsl, .inr (1, [.ref s1, .ref s2, .ref s3, .ref s4, .int (nI n2)])), (s1, .inl (cI, 30, .inl (aI sh2))), (s2, .inl (cI, 30, .inl (aI dy2))), (s3, .inl (cI, 30, .inl (aI kd2))), (s4, .inl (cL, 30, .inr (.inl (aL gr2))))] := hD
        refine lv_iconst (v := nI 1) hx hb d_Jo_joinBest_133 (by decide +kernel) ?_
        have hP9 := hP.sub (ws' := [(h, .inr (2, [.ref a1, .ref a2])), (a1, .inl (cI, 30, .inl (aO (va_up sp b.2.1 (some b.2.2))))), (a2, .inl (cI, 30, .inl (aO (va_up ps b.2.2 (some b.2.1))))), (hbk, .inr (1, [.ref b1, .ref b2, .ref b3, .ref b4, .int (nI n)])), (b1, .inl (cI, 30, .inl (aI sh))), (b2, .inl (cI, 30, .inl (aI dy))), (b3, .inl (cI, 30, .inl (aI kd))), (b4, .inl (cL, 30, .inr (.inl (aL gr)))), (hsl, .inr (1, [.ref s1, .ref s2, .ref s3, .ref s4, .int (nI n2)])), (s1, .inl (cI, 30, .inl (aI sh2))), (s2, .inl (cI, 30, .inl (aI dy2))), (s3, .inl (cI, 30, .inl (aI kd2))), (s4, .inl (cL, 30, .inr (.inl (aL gr2))))]) [0, 1, 2, 3, 4, 5, 6, 7, 8, 9, 10, 11, 12] rfl
        have hD9 := hD.sub (ws' := [(h, .inr (2, [.ref a1, .ref a2])), (a1, .inl (cI, 30, .inl (aO (va_up sp b.2.1 (some b.2.2))))), (a2, .inl (cI, 30, .inl (aO (va_up ps b.2.2 (some b.2.1))))), (hbk, .inr (1, [.ref b1, .ref b2, .ref b3, .ref b4, .int (nI n)])), (b1, .inl (cI, 30, .inl (aI sh))), (b2, .inl (cI, 30, .inl (aI dy))), (b3, .inl (cI, 30, .inl (aI kd))), (b4, .inl (cL, 30, .inr (.inl (aL gr)))), (hsl, .inr (1, [.ref s1, .ref s2, .ref s3, .ref s4, .int (nI n2)])), (s1, .inl (cI, 30, .inl (aI sh2))), (s2, .inl (cI, 30, .inl (aI dy2))), (s3, .inl (cI, 30, .inl (aI kd2))), (s4, .inl (cL, 30, .inr (.inl (aL gr2))))]) [0, 1, 2, 3, 4, 5, 6, 7, 8, 9, 10, 11, 12] (by decide) rfl
        exact W.zret (v := nI 1) (ty := .boolean) hx hb hr rfl (fun t9 ht9 hW9 => ⟨⟨nI 1, (va_up sp b.2.1 (some b.2.2), va_up ps b.2.2 (some b.2.1)), rfl, (by rw [show p = n by omega] at hbb; subst hbb; exact Or.inr ⟨Nat.pos_iff_ne_zero.mp h0, rfl, rfl⟩), by rw [ht9]; exact hP9, va_K.moved hW9.alike hK, hD9⟩, hS.F ht9⟩) hS.2.2 d_Jo_joinBest_134
    | succ k ih11 =>
      intro p b hk hbb hm H locs hP hD hS ls hl
      refine lv_iload hx hb d_Jo_joinBest_11 (lv_at hl 6 rfl) ?_
      refine lv_aload_n hx hb d_Jo_joinBest_13 rfl (lv_at hl 1 rfl) ?_
      refine va_get (D := (dC, dI)) (ci := 1) (v := .int (nI n)) (C := R_Bk) (T := F_Bk) (N := 5) hx hb htg iw_Bk hown hK hP 3 rfl rfl 4 (by decide) (htg _ k1_41) (fun _ h9 => h9) rfl d_Jo_joinBest_14 ?_
      refine bk_icmp_ge (a := p) (b := n) (tgt := 101) hx hb (by omega) (by omega) d_Jo_joinBest_17 (by decide) (fun c17 => by exfalso; omega) (fun c17 => ?_)
      refine lv_aload_n hx hb d_Jo_joinBest_20 rfl (lv_at hl 0 rfl) ?_
      refine va_get (D := (dC, dI)) (ci := 2) (v := .ref a1) (C := R_Jo) (T := F_Jo) (N := 2) hx hb htg iw_Jo hown hK hP 0 rfl rfl 0 (by decide) (htg _ k1_66) (fun _ h9 => h9) rfl d_Jo_joinBest_21 ?_
      refine lv_iload hx hb d_Jo_joinBest_24 (lv_at hl 6 rfl) ?_
      refine bk_iald (v := oI (sp p)) hx hb hK hP 1 0 rfl rfl (by omega) (by decide) rfl d_Jo_joinBest_26 ?_
      refine lv_iconst (v := oI none) hx hb d_Jo_joinBest_27 (by decide +kernel) ?_
      refine bk_ocmp_eq (r := sp p) (tgt := 34) hx hb (fun k h => by have := hsp _ k h; omega) d_Jo_joinBest_28 (by decide) (fun c28 => ?_) (fun c28 => ?_)
      · refine lv_iconst (v := nI 0) hx hb d_Jo_joinBest_34 (by decide +kernel) ?_
        refine lv_istore (lv' := [(7, .int (nI 0)), (0, .ref h), (1, .ref hbk), (2, .ref hsl), (3, .int (nI b.1)), (4, .int (oI (bO b.1 b.2.1))), (5, .int (oI (bO b.1 b.2.2))), (6, .int (nI p))]) hx hb d_Jo_joinBest_35 hl (by decide) rfl (fun ls hl => ?_)
        have J37 : ∀ (k2 : Nat) (q : Nat) (b : Nat × Nat × Nat), (q + k2 = n2) → (b = scI ((vv (ptOf sh dy kd gr sh2 dy2 kd2 gr2) sp (sdO ps)) p) p (scO (vv (ptOf sh dy kd gr sh2 dy2 kd2 gr2) sp (sdO ps)) n2 p) q) → (b.1 ≤ 1000) → ∀ (H : Heap) (locs : List Loc), va_P (dC, dI) vwCl [(h, .inr (2, [.ref a1, .ref a2])), (a1, .inl (cI, 30, .inl (aO sp))), (a2, .inl (cI, 30, .inl (aO ps))), (hbk, .inr (1, [.ref b1, .ref b2, .ref b3, .ref b4, .int (nI n)])), (b1, .inl (cI, 30, .inl (aI sh))), (b2, .inl (cI, 30, .inl (aI dy))), (b3, .inl (cI, 30, .inl (aI kd))), (b4, .inl (cL, 30, .inr (.inl (aL gr)))), (hsl, .inr (1, [.ref s1, .ref s2, .ref s3, .ref s4, .int (nI n2)])), (s1, .inl (cI, 30, .inl (aI sh2))), (s2, .inl (cI, 30, .inl (aI dy2))), (s3, .inl (cI, 30, .inl (aI kd2))), (s4, .inl (cL, 30, .inr (.inl (aL gr2))))] H → va_D A [(h, .inr (2, [.ref a1, .ref a2])), (a1, .inl (cI, 30, .inl (aO sp))), (a2, .inl (cI, 30, .inl (aO ps))), (hbk, .inr (1, [.ref b1, .ref b2, .ref b3, .ref b4, .int (nI n)])), (b1, .inl (cI, 30, .inl (aI sh))), (b2, .inl (cI, 30, .inl (aI dy))), (b3, .inl (cI, 30, .inl (aI kd))), (b4, .inl (cL, 30, .inr (.inl (aL gr)))), (hsl, .inr (1, [.ref s1, .ref s2, .ref s3, .ref s4, .int (nI n2)])), (s1, .inl (cI, 30, .inl (aI sh2))), (s2, .inl (cI, 30, .inl (aI dy2))), (s3, .inl (cI, 30, .inl (aI kd2))), (s4, .inl (cL, 30, .inr (.inl (aL gr2))))] → va_S A s.heap H locs → ∀ (ls : Array Slot), lv_has ls 9 [(0, .ref h), (1, .ref hbk), (2, .ref hsl), (3, .int (nI b.1)), (4, .int (oI (bO b.1 b.2.1))), (5, .int (oI (bO b.1 b.2.2))), (6, .int (nI p)), (7, .int (nI q))] → W pr l en (headSpec ws_Jo_joinBest { frames := 3, cells := 0, slots := 0, locals := 74 }).room s m ([.ref h, .ref hbk, .ref hsl] : List Value).toArray below meth c H locs 0 0 (MQ below (va_Qi (fun (r : Int32) (u : (Nat → Option Nat) × (Nat → Option Nat)) => ((jbest (ptOf sh dy kd gr sh2 dy2 kd2 gr2) n n2 (sp, sdO ps)).1 = 0 ∧ r = nI 0 ∧ u = (sp, ps)) ∨ ((jbest (ptOf sh dy kd gr sh2 dy2 kd2 gr2) n n2 (sp, sdO ps)).1 ≠ 0 ∧ r = nI 1 ∧ u = (va_up sp (jbest (ptOf sh dy kd gr sh2 dy2 kd2 gr2) n n2 (sp, sdO ps)).2.1 (some (jbest (ptOf sh dy kd gr sh2 dy2 kd2 gr2) n n2 (sp, sdO ps)).2.2), va_up ps (jbest (ptOf sh dy kd gr sh2 dy2 kd2 gr2) n n2 (sp, sdO ps)).2.2 (some (jbest (ptOf sh dy kd gr sh2 dy2 kd2 gr2) n n2 (sp, sdO ps)).2.1)))) (fun (u : (Nat → Option Nat) × (Nat → Option Nat)) => wrQ (dC, dI) vwCl [(cI, .int), (cL, .long), (cZ, .boolean)] A [(h, .inr (2, [.ref a1, .ref a2])), (a1, .inl (cI, 30, .inl (aO u.1))), (a2, .inl (cI, 30, .inl (aO u.2))), (hbk, .inr (1, [.ref b1, .ref b2, .ref b3, .ref b4, .int (nI n)])), (b1, .inl (cI, 30, .inl (aI sh))), (b2, .inl (cI, 30, .inl (aI dy))), (b3, .inl (cI, 30, .inl (aI kd))), (b4, .inl (cL, 30, .inr (.inl (aL gr)))), (hsl, .inr (1, [.ref s1, .ref s2, .ref s3, .ref s4, .int (nI n2)])), (s1, .inl (cI, 30, .inl (aI sh2))), (s2, .inl (cI, 30, .inl (aI dy2))), (s3, .inl (cI, 30, .inl (aI kd2))), (s4, .inl (cL, 30, .inr (.inl (aL gr2))))]) A) ([.ref h, .ref hbk, .ref hsl] : List Value).toArray s 0 0 A) (F0 m 37 ls []) := by
          intro k2
          induction k2 with
          | zero =>
            intro q b hk2 hb2 hm H locs hP hD hS ls hl
            refine lv_iload hx hb d_Jo_joinBest_37 (lv_at hl 7 rfl) ?_
            refine lv_aload_n hx hb d_Jo_joinBest_39 rfl (lv_at hl 2 rfl) ?_
            refine va_get (D := (dC, dI)) (ci := 1) (v := .int (nI n2)) (C := R_Bk) (T := F_Bk) (N := 5) hx hb htg iw_Bk hown hK hP 8 rfl rfl 4 (by decide) (htg _ k1_41) (fun _ h9 => h9) rfl d_Jo_joinBest_40 ?_
            refine bk_icmp_ge (a := q) (b := n2) (tgt := 95) hx hb (by omega) (by omega) d_Jo_joinBest_43 (by decide) (fun c43 => ?_) (fun c43 => by exfalso; omega)
            refine lv_iinc (v := nI (p + 1)) (lv' := [(6, .int (nI (p + 1))), (0, .ref h), (1, .ref hbk), (2, .ref hsl), (3, .int (nI b.1)), (4, .int (oI (bO b.1 b.2.1))), (5, .int (oI (bO b.1 b.2.2))), (7, .int (nI q))]) hx hb d_Jo_joinBest_95 hl (k := 6) rfl (bk_inc p) (by decide) rfl (fun ls hl => ?_)
            refine lv_goto (tgt := 11) hx hb d_Jo_joinBest_98 (by decide) ?_
            exact ih11 (p + 1) b (by omega) (by first | (rw [scO_skip c28]; exact hbb; done) | (rw [hb2, show q = n2 by omega]; rfl)) hm _ _ (hP.sub [0, 1, 2, 3, 4, 5, 6, 7, 8, 9, 10, 11, 12] rfl) (hD.sub [0, 1, 2, 3, 4, 5, 6, 7, 8, 9, 10, 11, 12] (by decide) rfl) hS ls (lv_sub hl [1, 2, 3, 4, 5, 6, 0] rfl)
          | succ k2 ih37 =>
            intro q b hk2 hb2 hm H locs hP hD hS ls hl
            refine lv_iload hx hb d_Jo_joinBest_37 (lv_at hl 7 rfl) ?_
            refine lv_aload_n hx hb d_Jo_joinBest_39 rfl (lv_at hl 2 rfl) ?_
            refine va_get (D := (dC, dI)) (ci := 1) (v := .int (nI n2)) (C := R_Bk) (T := F_Bk) (N := 5) hx hb htg iw_Bk hown hK hP 8 rfl rfl 4 (by decide) (htg _ k1_41) (fun _ h9 => h9) rfl d_Jo_joinBest_40 ?_
            refine bk_icmp_ge (a := q) (b := n2) (tgt := 95) hx hb (by omega) (by omega) d_Jo_joinBest_43 (by decide) (fun c43 => by exfalso; omega) (fun c43 => ?_)
            refine lv_aload_n hx hb d_Jo_joinBest_46 rfl (lv_at hl 0 rfl) ?_
            refine va_get (D := (dC, dI)) (ci := 2) (v := .ref a2) (C := R_Jo) (T := F_Jo) (N := 2) hx hb htg iw_Jo hown hK hP 0 rfl rfl 1 (by decide) (htg _ k1_67) (fun _ h9 => h9) rfl d_Jo_joinBest_47 ?_
            refine lv_iload hx hb d_Jo_joinBest_50 (lv_at hl 7 rfl) ?_
            refine bk_iald (v := oI (ps q)) hx hb hK hP 2 0 rfl rfl (by omega) (by decide) rfl d_Jo_joinBest_52 ?_
            refine lv_iconst (v := oI none) hx hb d_Jo_joinBest_53 (by decide +kernel) ?_
            refine bk_ocmp_ne (r := ps q) (tgt := 69) hx hb (fun k h => by have := hps _ k h; omega) d_Jo_joinBest_54 (by decide) (fun c54 => ?_) (fun c54 => ?_)
            · refine lv_iconst (v := nI 0) hx hb d_Jo_joinBest_69 (by decide +kernel) ?_
              refine lv_istore (lv' := [(8, .int (nI 0)), (0, .ref h), (1, .ref hbk), (2, .ref hsl), (3, .int (nI b.1)), (4, .int (oI (bO b.1 b.2.1))), (5, .int (oI (bO b.1 b.2.2))), (6, .int (nI p)), (7, .int (nI q))]) hx hb d_Jo_joinBest_70 hl (by decide) rfl (fun ls hl => ?_)
              refine lv_iload hx hb d_Jo_joinBest_72 (lv_at hl 0 rfl) ?_
              refine lv_iload_n hx hb d_Jo_joinBest_74 rfl (lv_at hl 4 rfl) ?_
              refine bk_icmp_le (a := 0) (b := b.1) (tgt := 89) hx hb (by omega) (by omega) d_Jo_joinBest_75 (by decide) (fun c75 => ?_) (fun c75 => by exfalso; omega)
              refine lv_iinc (v := nI (q + 1)) (lv' := [(7, .int (nI (q + 1))), (8, .int (nI 0)), (0, .ref h), (1, .ref hbk), (2, .ref hsl), (3, .int (nI b.1)), (4, .int (oI (bO b.1 b.2.1))), (5, .int (oI (bO b.1 b.2.2))), (6, .int (nI p))]) hx hb d_Jo_joinBest_89 hl (k := 8) rfl (bk_inc q) (by decide) rfl (fun ls hl => ?_)
              refine lv_goto (tgt := 37) hx hb d_Jo_joinBest_92 (by decide) ?_
              exact ih37 (q + 1) b (by omega) (by first | exact scI_keep hb2 (vv_sold c54) (Nat.zero_le _) | exact scI_keep hb2 (vv_free c28 c54) c75) hm _ _ (hP.sub [0, 1, 2, 3, 4, 5, 6, 7, 8, 9, 10, 11, 12] rfl) (hD.sub [0, 1, 2, 3, 4, 5, 6, 7, 8, 9, 10, 11, 12] (by decide) rfl) hS ls (lv_sub hl [2, 3, 4, 5, 6, 7, 8, 0] rfl)
            · refine lv_aload_n hx hb d_Jo_joinBest_57 rfl (lv_at hl 1 rfl) ?_
              refine lv_iload hx hb d_Jo_joinBest_58 (lv_at hl 6 rfl) ?_
              refine lv_aload_n hx hb d_Jo_joinBest_60 rfl (lv_at hl 2 rfl) ?_
              refine lv_iload hx hb d_Jo_joinBest_61 (lv_at hl 7 rfl) ?_
              refine vp_callSi (va_runV (As := [.int (nI p), .ref hsl, .int (nI q)]) (rest := []) ⟨hx, hb, hml, hown, htg⟩ (c_Bk_fitWith l dC dI cI cL cZ hbk b1 b2 b3 b4 n sh dy kd gr hsl s1 s2 s3 s4 n2 sh2 dy2 kd2 gr2 p q hi hi2 (by omega) (by omega)) (cwV 3 htg (gdV k1_226 k1_227 k1_228 k1_2 kc_Bk_fitWith) rfl rfl rfl (by decide +kernel) ⟨Nat.le_of_ble_eq_true rfl, Nat.le_of_ble_eq_true rfl⟩) ⟨bk_blind, va_recv hK hP (ci := 1) (q0 := 3) rfl rfl, fun U hU hW => ⟨rfl, nw_warm hW hN, by rw [hU]; exact hP.sub [3, 4, 5, 6, 7, 8, 9, 10, 11, 12] rfl, va_K.moved hW.alike hK⟩⟩ rfl rfl hl.1 rfl (lv_room (Nat.le_of_ble_eq_true rfl)) d_Jo_joinBest_63 ⟨Nat.le_of_ble_eq_true rfl, Nat.le_of_ble_eq_true rfl⟩).run (fun r63 e63 => ?_)
              subst e63
              have hpt := ptOf_le (sh := sh) (dy := dy) (kd := kd) (gr := gr) (sh2 := sh2) (dy2 := dy2) (kd2 := kd2) (gr2 := gr2) (p := p) (q := q)
              refine lv_goto (tgt := 70) hx hb d_Jo_joinBest_66 (by decide) ?_
              refine lv_istore (lv' := [(8, .int (nI (ptOf sh dy kd gr sh2 dy2 kd2 gr2 p q))), (0, .ref h), (1, .ref hbk), (2, .ref hsl), (3, .int (nI b.1)), (4, .int (oI (bO b.1 b.2.1))), (5, .int (oI (bO b.1 b.2.2))), (6, .int (nI p)), (7, .int (nI q))]) hx hb d_Jo_joinBest_70 hl (by decide) rfl (fun ls hl => ?_)
              refine lv_iload hx hb d_Jo_joinBest_72 (lv_at hl 0 rfl) ?_
              refine lv_iload_n hx hb d_Jo_joinBest_74 rfl (lv_at hl 4 rfl) ?_
              refine bk_icmp_le (a := ptOf sh dy kd gr sh2 dy2 kd2 gr2 p q) (b := b.1) (tgt := 89) hx hb (by omega) (by omega) d_Jo_joinBest_75 (by decide) (fun c75 => ?_) (fun c75 => ?_)
              · refine lv_iinc (v := nI (q + 1)) (lv' := [(7, .int (nI (q + 1))), (8, .int (nI (ptOf sh dy kd gr sh2 dy2 kd2 gr2 p q))), (0, .ref h), (1, .ref hbk), (2, .ref hsl), (3, .int (nI b.1)), (4, .int (oI (bO b.1 b.2.1))), (5, .int (oI (bO b.1 b.2.2))), (6, .int (nI p))]) hx hb d_Jo_joinBest_89 hl (k := 8) rfl (bk_inc q) (by decide) rfl (fun ls hl => ?_)
                refine lv_goto (tgt := 37) hx hb d_Jo_joinBest_92 (by decide) ?_
                exact ih37 (q + 1) b (by omega) (by first | exact scI_keep hb2 (vv_sold c54) (Nat.zero_le _) | exact scI_keep hb2 (vv_free c28 c54) c75) hm _ _ (hP.sub [0, 1, 2, 3, 4, 5, 6, 7, 8, 9, 10, 11, 12] rfl) (hD.sub [0, 1, 2, 3, 4, 5, 6, 7, 8, 9, 10, 11, 12] (by decide) rfl) hS ls (lv_sub hl [2, 3, 4, 5, 6, 7, 8, 0] rfl)
              · refine lv_iload hx hb d_Jo_joinBest_78 (lv_at hl 0 rfl) ?_
                refine lv_istore_n (lv' := [(3, .int (nI (ptOf sh dy kd gr sh2 dy2 kd2 gr2 p q))), (8, .int (nI (ptOf sh dy kd gr sh2 dy2 kd2 gr2 p q))), (0, .ref h), (1, .ref hbk), (2, .ref hsl), (4, .int (oI (bO b.1 b.2.1))), (5, .int (oI (bO b.1 b.2.2))), (6, .int (nI p)), (7, .int (nI q))]) hx hb d_Jo_joinBest_80 rfl hl (by decide) rfl (fun ls hl => ?_)
                refine lv_iload hx hb d_Jo_joinBest_81 (lv_at hl 7 rfl) ?_
                refine bk_topi (y := oI (bO ((ptOf sh dy kd gr sh2 dy2 kd2 gr2) p q) p)) (by rw [bO, if_neg (by omega)]; rfl) ?_
                refine lv_istore (lv' := [(4, .int (oI (bO ((ptOf sh dy kd gr sh2 dy2 kd2 gr2) p q) p))), (3, .int (nI (ptOf sh dy kd gr sh2 dy2 kd2 gr2 p q))), (8, .int (nI (ptOf sh dy kd gr sh2 dy2 kd2 gr2 p q))), (0, .ref h), (1, .ref hbk), (2, .ref hsl), (5, .int (oI (bO b.1 b.2.2))), (6, .int (nI p)), (7, .int (nI q))]) hx hb d_Jo_joinBest_83 hl (by decide) rfl (fun ls hl => ?_)
                refine lv_iload hx hb d_Jo_joinBest_85 (lv_at hl 8 rfl) ?_
                refine bk_topi (y := oI (bO ((ptOf sh dy kd gr sh2 dy2 kd2 gr2) p q) q)) (by rw [bO, if_neg (by omega)]; rfl) ?_
                refine lv_istore (lv' := [(5, .int (oI (bO ((ptOf sh dy kd gr sh2 dy2 kd2 gr2) p q) q))), (4, .int (oI (bO ((ptOf sh dy kd gr sh2 dy2 kd2 gr2) p q) p))), (3, .int (nI (ptOf sh dy kd gr sh2 dy2 kd2 gr2 p q))), (8, .int (nI (ptOf sh dy kd gr sh2 dy2 kd2 gr2 p q))), (0, .ref h), (1, .ref hbk), (2, .ref hsl), (6, .int (nI p)), (7, .int (nI q))]) hx hb d_Jo_joinBest_87 hl (by decide) rfl (fun ls hl => ?_)
                refine lv_iinc (v := nI (q + 1)) (lv' := [(7, .int (nI (q + 1))), (5, .int (oI (bO ((ptOf sh dy kd gr sh2 dy2 kd2 gr2) p q) q))), (4, .int (oI (bO ((ptOf sh dy kd gr sh2 dy2 kd2 gr2) p q) p))), (3, .int (nI (ptOf sh dy kd gr sh2 dy2 kd2 gr2 p q))), (8, .int (nI (ptOf sh dy kd gr sh2 dy2 kd2 gr2 p q))), (0, .ref h), (1, .ref hbk), (2, .ref hsl), (6, .int (nI p))]) hx hb d_Jo_joinBest_89 hl (k := 8) rfl (bk_inc q) (by decide) rfl (fun ls hl => ?_)
                refine lv_goto (tgt := 37) hx hb d_Jo_joinBest_92 (by decide) ?_
                exact ih37 (q + 1) (ptOf sh dy kd gr sh2 dy2 kd2 gr2 p q, p, q) (by omega) (scI_take hb2 (vv_free c28 c54) c75) ptOf_le _ _ (hP.sub [0, 1, 2, 3, 4, 5, 6, 7, 8, 9, 10, 11, 12] rfl) (hD.sub [0, 1, 2, 3, 4, 5, 6, 7, 8, 9, 10, 11, 12] (by decide) rfl) hS ls (lv_sub hl [5, 6, 7, 3, 2, 1, 8, 0] rfl)
        exact J37 n2 0 b (by omega) (by rw [hbb]; rfl) hm _ _ (hP.sub [0, 1, 2, 3, 4, 5, 6, 7, 8, 9, 10, 11, 12] rfl) (hD.sub [0, 1, 2, 3, 4, 5, 6, 7, 8, 9, 10, 11, 12] (by decide) rfl) hS ls (lv_sub hl [1, 2, 3, 4, 5, 6, 7, 0] rfl)
      · refine lv_goto (tgt := 95) hx hb d_Jo_joinBest_31 (by decide) ?_
        refine lv_iinc (v := nI (p + 1)) (lv' := [(6, .int (nI (p + 1))), (0, .ref h), (1, .ref hbk), (2, .ref hsl), (3, .int (nI b.1)), (4, .int (oI (bO b.1 b.2.1))), (5, .int (oI (bO b.1 b.2.2)))]) hx hb d_Jo_joinBest_95 hl (k := 6) rfl (bk_inc p) (by decide) rfl (fun ls hl => ?_)
        refine lv_goto (tgt := 11) hx hb d_Jo_joinBest_98 (by decide) ?_
        exact ih11 (p + 1) b (by omega) (by first | (rw [scO_skip c28]; exact hbb; done) | (rw [hb2, show q = n2 by omega]; rfl)) hm _ _ (hP.sub [0, 1, 2, 3, 4, 5, 6, 7, 8, 9, 10, 11, 12] rfl) (hD.sub [0, 1, 2, 3, 4, 5, 6, 7, 8, 9, 10, 11, 12] (by decide) rfl) hS ls (lv_sub hl [1, 2, 3, 4, 5, 6, 0] rfl)
  exact J11 n 0 (0, 0, 0) (by omega) rfl (Nat.zero_le _) _ _ (hP.sub [0, 1, 2, 3, 4, 5, 6, 7, 8, 9, 10, 11, 12] rfl) (hD.sub [0, 1, 2, 3, 4, 5, 6, 7, 8, 9, 10, 11, 12] (by decide) rfl) hS ls (lv_sub hl [4, 5, 6, 3, 2, 1, 0] rfl)
set_option maxHeartbeats 4000000 in
set_option maxRecDepth 100000 in
theorem c_Jo_joinAnew (l : Launch) (dC : Nat → ClassId) (dI : Nat → Nat → Nat) (cI cL cZ : ClassId) (sz : Nat) (h a1 a2 : Nat) (sp ps : Nat → Option Nat) (hbk b1 b2 b3 b4 n : Nat) (sh dy kd gr : Nat → Nat) (hsl s1 s2 s3 s4 n2 : Nat) (sh2 dy2 kd2 gr2 : Nat → Nat) (hi : bkI n sh dy kd gr) (hi2 : bkI n2 sh2 dy2 kd2 gr2) : Met l y_Jo_joinAnew ws_Jo_joinAnew { frames := 4, cells := 0, slots := 0, locals := 102 } (va_Pc [.ref h, .ref hbk, .ref hsl] (wrP (dC, dI) vwCl [(cI, .int), (cL, .long), (cZ, .boolean)] [(h, .inr (2, [.ref a1, .ref a2])), (a1, .inl (cI, 30, .inl (aO sp))), (a2, .inl (cI, 30, .inl (aO ps))), (hbk, .inr (1, [.ref b1, .ref b2, .ref b3, .ref b4, .int (nI n)])), (b1, .inl (cI, 30, .inl (aI sh))), (b2, .inl (cI, 30, .inl (aI dy))), (b3, .inl (cI, 30, .inl (aI kd))), (b4, .inl (cL, 30, .inr (.inl (aL gr)))), (hsl, .inr (1, [.ref s1, .ref s2, .ref s3, .ref s4, .int (nI n2)])), (s1, .inl (cI, 30, .inl (aI sh2))), (s2, .inl (cI, 30, .inl (aI dy2))), (s3, .inl (cI, 30, .inl (aI kd2))), (s4, .inl (cL, 30, .inr (.inl (aL gr2))))] sz)) (va_Qi (fun (r : Int32) (u : (Nat → Option Nat) × (Nat → Option Nat)) => ∃ i, r = nI i ∧ i ≤ 30 ∧ isRun (ptOf sh dy kd gr sh2 dy2 kd2 gr2) n n2 i ∧ u.1 = (JS (ptOf sh dy kd gr sh2 dy2 kd2 gr2) n n2 i).1 ∧ ∀ p k, u.1 p = some k → p < n ∧ k < n2) (fun (u : (Nat → Option Nat) × (Nat → Option Nat)) => wrQ (dC, dI) vwCl [(cI, .int), (cL, .long), (cZ, .boolean)] (va_A [(h, .inr (2, [.ref a1, .ref a2])), (a1, .inl (cI, 30, .inl (aO sp))), (a2, .inl (cI, 30, .inl (aO ps))), (hbk, .inr (1, [.ref b1, .ref b2, .ref b3, .ref b4, .int (nI n)])), (b1, .inl (cI, 30, .inl (aI sh))), (b2, .inl (cI, 30, .inl (aI dy))), (b3, .inl (cI, 30, .inl (aI kd))), (b4, .inl (cL, 30, .inr (.inl (aL gr)))), (hsl, .inr (1, [.ref s1, .ref s2, .ref s3, .ref s4, .int (nI n2)])), (s1, .inl (cI, 30, .inl (aI sh2))), (s2, .inl (cI, 30, .inl (aI dy2))), (s3, .inl (cI, 30, .inl (aI kd2))), (s4, .inl (cL, 30, .inr (.inl (aL gr2))))] sz) [(h, .inr (2, [.ref a1, .ref a2])), (a1, .inl (cI, 30, .inl (aO u.1))), (a2, .inl (cI, 30, .inl (aO u.2))), (hbk, .inr (1, [.ref b1, .ref b2, .ref b3, .ref b4, .int (nI n)])), (b1, .inl (cI, 30, .inl (aI sh))), (b2, .inl (cI, 30, .inl (aI dy))), (b3, .inl (cI, 30, .inl (aI kd))), (b4, .inl (cL, 30, .inr (.inl (aL gr)))), (hsl, .inr (1, [.ref s1, .ref s2, .ref s3, .ref s4, .int (nI n2)])), (s1, .inl (cI, 30, .inl (aI sh2))), (s2, .inl (cI, 30, .inl (aI dy2))), (s3, .inl (cI, 30, .inl (aI kd2))), (s4, .inl (cL, 30, .inr (.inl (aL gr2))))]) (va_A [(h, .inr (2, [.ref a1, .ref a2])), (a1, .inl (cI, 30, .inl (aO sp))), (a2, .inl (cI, 30, .inl (aO ps))), (hbk, .inr (1, [.ref b1, .ref b2, .ref b3, .ref b4, .int (nI n)])), (b1, .inl (cI, 30, .inl (aI sh))), (b2, .inl (cI, 30, .inl (aI dy))), (b3, .inl (cI, 30, .inl (aI kd))), (b4, .inl (cL, 30, .inr (.inl (aL gr)))), (hsl, .inr (1, [.ref s1, .ref s2, .ref s3, .ref s4, .int (nI n2)])), (s1, .inl (cI, 30, .inl (aI sh2))), (s2, .inl (cI, 30, .inl (aI dy2))), (s3, .inl (cI, 30, .inl (aI kd2))), (s4, .inl (cL, 30, .inr (.inl (aL gr2))))] sz)) 0 0 (va_A [(h, .inr (2, [.ref a1, .ref a2])), (a1, .inl (cI, 30, .inl (aO sp))), (a2, .inl (cI, 30, .inl (aO ps))), (hbk, .inr (1, [.ref b1, .ref b2, .ref b3, .ref b4, .int (nI n)])), (b1, .inl (cI, 30, .inl (aI sh))), (b2, .inl (cI, 30, .inl (aI dy))), (b3, .inl (cI, 30, .inl (aI kd))), (b4, .inl (cL, 30, .inr (.inl (aL gr)))), (hsl, .inr (1, [.ref s1, .ref s2, .ref s3, .ref s4, .int (nI n2)])), (s1, .inl (cI, 30, .inl (aI sh2))), (s2, .inl (cI, 30, .inl (aI dy2))), (s3, .inl (cI, 30, .inl (aI kd2))), (s4, .inl (cL, 30, .inr (.inl (aL gr2))))] sz) := by
  refine Met.ofW (cc := b_Jo_joinAnew) (maxL := 5) (ret := (some .int)) (by decide) rfl ?_
  intro pr en s m args below meth c s₁ B hml hv
  obtain ⟨rfl, hN, hsz, hP, hK, hD0⟩ := hv
  have hx := B.exec
  have hb := B.bytes
  have hr := B.returns
  have hts := atoms_spec (ws := ws_Jo_joinAnew) B.pre
  have htg : ∀ w ∈ gW, w.before _ s = true := fun w h => hts w (List.mem_cons_of_mem _ h)
  have hown : s.vm.findClass R_Jo = some m.cls := findClass_of_methodNamed B.named
  have hlocks := B.notSynchronized
  subst hsz
  have hD := hD0.self (sz := s.heap.size)
  generalize hAe : va_A [(h, .inr (2, [.ref a1, .ref a2])), (a1, .inl (cI, 30, .inl (aO sp))), (a2, .inl (cI, 30, .inl (aO ps))), (hbk, .inr (1, [.ref b1, .ref b2, .ref b3, .ref b4, .int (nI n)])), (b1, .inl (cI, 30, .inl (aI sh))), (b2, .inl (cI, 30, .inl (aI dy))), (b3, .inl (cI, 30, .inl (aI kd))), (b4, .inl (cL, 30, .inr (.inl (aL gr)))), (hsl, .inr (1, [.ref s1, .ref s2, .ref s3, .ref s4, .int (nI n2)])), (s1, .inl (cI, 30, .inl (aI sh2))), (s2, .inl (cI, 30, .inl (aI dy2))), (s3, .inl (cI, 30, .inl (aI kd2))), (s4, .inl (cL, 30, .inr (.inl (aL gr2))))] s.heap.size = A at hD ⊢
  have hA : ∀ q : Nat, s.heap.size ≤ q → A q := fun q h => by rw [← hAe]; exact Or.inr h
  have hS : va_S A s.heap s.heap [] := va_S.rf
  have hP : va_P (dC, dI) vwCl [(h, .inr (2, [.ref a1, .ref a2])), (a1, .inl (cI, 30, .inl (aO sp))), (a2, .inl (cI, 30, .inl (aO ps))), (hbk, .inr (1, [.ref b1, .ref b2, .ref b3, .ref b4, .int (nI n)])), (b1, .inl (cI, 30, .inl (aI sh))), (b2, .inl (cI, 30, .inl (aI dy))), (b3, .inl (cI, 30, .inl (aI kd))), (b4, .inl (cL, 30, .inr (.inl (aL gr)))), (hsl, .inr (1, [.ref s1, .ref s2, .ref s3, .ref s4, .int (nI n2)])), (s1, .inl (cI, 30, .inl (aI sh2))), (s2, .inl (cI, 30, .inl (aI dy2))), (s3, .inl (cI, 30, .inl (aI kd2))), (s4, .inl (cL, 30, .inr (.inl (aL gr2))))] s.heap := hP
  have hl := lv_entry ([.ref h, .ref hbk, .ref hsl]) (n := 5) (Nat.le_of_ble_eq_true rfl)
  rw [lg_entry_eq]
  generalize (lg_sl ([.ref h, .ref hbk, .ref hsl]) ++ List.replicate (5 - (lg_sl ([.ref h, .ref hbk, .ref hsl])).length) Slot.unset).toArray = ls at hl ⊢
  have hl : lv_has ls 5 [(0, .ref h), (1, .ref hbk), (2, .ref hsl)] := hl
  have hn := hi.1
  have hn2 := hi2.1
  refine lv_aload_n hx hb d_Jo_joinAnew_0 rfl (lv_at hl 0 rfl) ?_
  have hPc := hP.sub (ws' := [(h, .inr (2, [.ref a1, .ref a2])), (a1, .inl (cI, 30, .inl (aO sp))), (a2, .inl (cI, 30, .inl (aO ps)))]) [0, 1, 2] rfl
  have hDc := hD.sub (ws' := [(h, .inr (2, [.ref a1, .ref a2])), (a1, .inl (cI, 30, .inl (aO sp))), (a2, .inl (cI, 30, .inl (aO ps)))]) [0, 1, 2] (by decide) rfl
  have hFc := va_free (wc := [(h, .inr (2, [.ref a1, .ref a2])), (a1, .inl (cI, 30, .inl (aO sp))), (a2, .inl (cI, 30, .inl (aO ps)))]) hD hS hA [0, 1, 2] rfl
  refine va_callv (va_runV (As := []) (rest := []) ⟨hx, hb, hml, hown, htg⟩ (c_Jo_partAll l dC dI cI cL cZ s.heap.size h a1 a2 sp ps ) (cwV 0 htg (gdV k1_62 k1_64 ks_Jo_partAll k1_3 kc_Jo_partAll) rfl rfl rfl (by decide +kernel) ⟨Nat.le_of_ble_eq_true rfl, Nat.le_of_ble_eq_true rfl⟩) ⟨bk_blindW, va_recv hK hP (ci := 2) (q0 := 0) rfl rfl, fun U hU hW => ⟨rfl, nw_warm hW hN, by rw [hU], by rw [hU]; exact hPc, va_K.moved hW.alike hK, hDc.weaken (fun _ _ _ _ => trivial)⟩⟩ rfl rfl hl.1 rfl (lv_room (Nat.le_of_ble_eq_true rfl)) d_Jo_joinAnew_1 ⟨Nat.le_of_ble_eq_true rfl, Nat.le_of_ble_eq_true rfl⟩) hS (fun q _ h => hFc q h) hFc (fun u t H1 locs ht hvm e1 hB hz1 hk1 hS => ?_)
  obtain ⟨hP1, hK1, hD1⟩ := hB
  rw [ht] at hP1
  try dsimp only at e1
  obtain ⟨hP, hD⟩ := va_join (wr := [(hbk, .inr (1, [.ref b1, .ref b2, .ref b3, .ref b4, .int (nI n)])), (b1, .inl (cI, 30, .inl (aI sh))), (b2, .inl (cI, 30, .inl (aI dy))), (b3, .inl (cI, 30, .inl (aI kd))), (b4, .inl (cL, 30, .inr (.inl (aL gr)))), (hsl, .inr (1, [.ref s1, .ref s2, .ref s3, .ref s4, .int (nI n2)])), (s1, .inl (cI, 30, .inl (aI sh2))), (s2, .inl (cI, 30, .inl (aI dy2))), (s3, .inl (cI, 30, .inl (aI kd2))), (s4, .inl (cL, 30, .inr (.inl (aL gr2))))]) (w1 := [(h, .inr (2, [.ref a1, .ref a2])), (a1, .inl (cI, 30, .inl (aO (fun _ => none)))), (a2, .inl (cI, 30, .inl (aO (fun _ => none))))]) hP hD [0, 1, 2] [3, 4, 5, 6, 7, 8, 9, 10, 11, 12] rfl rfl (by decide) (by decide) hk1 hFc hP1 hD1
  generalize H1 = H at hP hS ⊢
  have hP : va_P (dC, dI) vwCl [(h, .inr (2, [.ref a1, .ref a2])), (a1, .inl (cI, 30, .inl (aO (fun _ => none)))), (a2, .inl (cI, 30, .inl (aO (fun _ => none)))), (hbk, .inr (1, [.ref b1, .ref b2, .ref b3, .ref b4, .int (nI n)])), (b1, .inl (cI, 30, .inl (aI sh))), (b2, .inl (cI, 30, .inl (aI dy))), (b3, .inl (cI, 30, .inl (aI kd))), (b4, .inl (cL, 30, .inr (.inl (aL gr)))), (hsl, .inr (1, [.ref s1, .ref s2, .ref s3, .ref s4, .int (nI n2)])), (s1, .inl (cI, 30, .inl (aI sh2))), (s2, .inl (cI, 30, .inl (aI dy2))), (s3, .inl (cI, 30, .inl (aI kd2))), (s4, .inl (cL, 30, .inr (.inl (aL gr2))))] H := hP.sub [10, 11, 12, 0, 1, 2, 3, 4, 5, 6, 7, 8, 9] rfl
  have hD : va_D A [(h, .inr (2, [.ref a1, .ref a2])), (a1, .inl (cI, 30, .inl (aO (fun _ => none)))), (a2, .inl (cI, 30, .inl (aO (fun _ => none)))), (hbk, .inr (1, [.ref b1, .ref b2, .ref b3, .ref b4, .int (nI n)])), (b1, .inl (cI, 30, .inl (aI sh))), (b2, .inl (cI, 30, .inl (aI dy))), (b3, .inl (cI, 30, .inl (aI kd))), (b4, .inl (cL, 30, .inr (.inl (aL gr)))), (hsl, .inr (1, [.ref s1, .ref s2, .ref s3, .ref s4, .int (nI n2)])), (s1, .inl (cI, 30, .inl (aI sh2))), (s2, .inl (cI, 30, .inl (aI dy2))), (s3, .inl (cI, 30, .inl (aI kd2))), (s4, .inl (cL, 30, .inr (.inl (aL gr2))))] := hD.sub [10, 11, 12, 0, 1, 2, 3, 4, 5, 6, 7, 8, 9] (by decide) rfl
  refine lv_iconst (v := nI 0) hx hb d_Jo_joinAnew_4 (by decide +kernel) ?_
  refine lv_istore_n (lv' := [(3, .int (nI 0)), (0, .ref h), (1, .ref hbk), (2, .ref hsl)]) hx hb d_Jo_joinAnew_5 rfl hl (by decide) rfl (fun ls hl => ?_)
  refine lv_iconst (v := nI 0) hx hb d_Jo_joinAnew_6 (by decide +kernel) ?_
  refine lv_istore (lv' := [(4, .int (nI 0)), (3, .int (nI 0)), (0, .ref h), (1, .ref hbk), (2, .ref hsl)]) hx hb d_Jo_joinAnew_7 hl (by decide) rfl (fun ls hl => ?_)
  have J9 : ∀ (k : Nat) (i : Nat) (sq : Nat → Option Nat) (pq : Nat → Option Nat), (i + k = 30) → ((sq, sdO pq) = JS (ptOf sh dy kd gr sh2 dy2 kd2 gr2) n n2 i) → (more (ptOf sh dy kd gr sh2 dy2 kd2 gr2) n n2 i) → (∀ p k, sq p = some k → p < n ∧ k < n2) → (∀ p k, pq p = some k → k < 30) → ∀ (H : Heap) (locs : List Loc), va_P (dC, dI) vwCl [(h, .inr (2, [.ref a1, .ref a2])), (a1, .inl (cI, 30, .inl (aO sq))), (a2, .inl (cI, 30, .inl (aO pq))), (hbk, .inr (1, [.ref b1, .ref b2, .ref b3, .ref b4, .int (nI n)])), (b1, .inl (cI, 30, .inl (aI sh))), (b2, .inl (cI, 30, .inl (aI dy))), (b3, .inl (cI, 30, .inl (aI kd))), (b4, .inl (cL, 30, .inr (.inl (aL gr)))), (hsl, .inr (1, [.ref s1, .ref s2, .ref s3, .ref s4, .int (nI n2)])), (s1, .inl (cI, 30, .inl (aI sh2))), (s2, .inl (cI, 30, .inl (aI dy2))), (s3, .inl (cI, 30, .inl (aI kd2))), (s4, .inl (cL, 30, .inr (.inl (aL gr2))))] H → va_D A [(h, .inr (2, [.ref a1, .ref a2])), (a1, .inl (cI, 30, .inl (aO sq))), (a2, .inl (cI, 30, .inl (aO pq))), (hbk, .inr (1, [.ref b1, .ref b2, .ref b3, .ref b4, .int (nI n)])), (b1, .inl (cI, 30, .inl (aI sh))), (b2, .inl (cI, 30, .inl (aI dy))), (b3, .inl (cI, 30, .inl (aI kd))), (b4, .inl (cL, 30, .inr (.inl (aL gr)))), (hsl, .inr (1, [.ref s1, .ref s2, .ref s3, .ref s4, .int (nI n2)])), (s1, .inl (cI, 30, .inl (aI sh2))), (s2, .inl (cI, 30, .inl (aI dy2))), (s3, .inl (cI, 30, .inl (aI kd2))), (s4, .inl (cL, 30, .inr (.inl (aL gr2))))] → va_S A s.heap H locs → ∀ (ls : Array Slot), lv_has ls 5 [(0, .ref h), (1, .ref hbk), (2, .ref hsl), (3, .int (nI i)), (4, .int (nI i))] → W pr l en (headSpec ws_Jo_joinAnew { frames := 4, cells := 0, slots := 0, locals := 102 }).room s m ([.ref h, .ref hbk, .ref hsl] : List Value).toArray below meth c H locs 0 0 (MQ below (va_Qi (fun (r : Int32) (u : (Nat → Option Nat) × (Nat → Option Nat)) => ∃ i, r = nI i ∧ i ≤ 30 ∧ isRun (ptOf sh dy kd gr sh2 dy2 kd2 gr2) n n2 i ∧ u.1 = (JS (ptOf sh dy kd gr sh2 dy2 kd2 gr2) n n2 i).1 ∧ ∀ p k, u.1 p = some k → p < n ∧ k < n2) (fun (u : (Nat → Option Nat) × (Nat → Option Nat)) => wrQ (dC, dI) vwCl [(cI, .int), (cL, .long), (cZ, .boolean)] A [(h, .inr (2, [.ref a1, .ref a2])), (a1, .inl (cI, 30, .inl (aO u.1))), (a2, .inl (cI, 30, .inl (aO u.2))), (hbk, .inr (1, [.ref b1, .ref b2, .ref b3, .ref b4, .int (nI n)])), (b1, .inl (cI, 30, .inl (aI sh))), (b2, .inl (cI, 30, .inl (aI dy))), (b3, .inl (cI, 30, .inl (aI kd))), (b4, .inl (cL, 30, .inr (.inl (aL gr)))), (hsl, .inr (1, [.ref s1, .ref s2, .ref s3, .ref s4, .int (nI n2)])), (s1, .inl (cI, 30, .inl (aI sh2))), (s2, .inl (cI, 30, .inl (aI dy2))), (s3, .inl (cI, 30, .inl (aI kd2))), (s4, .inl (cL, 30, .inr (.inl (aL gr2))))]) A) ([.ref h, .ref hbk, .ref hsl] : List Value).toArray s 0 0 A) (F0 m 9 ls []) := by
    intro k
    induction k with
    | zero =>
      intro i sq pq hk hj hmo hsp hps H locs hP hD hS ls hl
      refine lv_iload hx hb d_Jo_joinAnew_9 (lv_at hl 4 rfl) ?_
      refine lv_bipush (v := nI 30) hx hb d_Jo_joinAnew_11 (by decide +kernel) ?_
      refine bk_icmp_ge (a := i) (b := 30) (tgt := 34) hx hb (by omega) (by omega) d_Jo_joinAnew_13 (by decide) (fun c13 => ?_) (fun c13 => by exfalso; omega)
      refine lv_iload_n hx hb d_Jo_joinAnew_34 rfl (lv_at hl 3 rfl) ?_
      have hP9 := hP.sub (ws' := [(h, .inr (2, [.ref a1, .ref a2])), (a1, .inl (cI, 30, .inl (aO sq))), (a2, .inl (cI, 30, .inl (aO pq))), (hbk, .inr (1, [.ref b1, .ref b2, .ref b3, .ref b4, .int (nI n)])), (b1, .inl (cI, 30, .inl (aI sh))), (b2, .inl (cI, 30, .inl (aI dy))), (b3, .inl (cI, 30, .inl (aI kd))), (b4, .inl (cL, 30, .inr (.inl (aL gr)))), (hsl, .inr (1, [.ref s1, .ref s2, .ref s3, .ref s4, .int (nI n2)])), (s1, .inl (cI, 30, .inl (aI sh2))), (s2, .inl (cI, 30, .inl (aI dy2))), (s3, .inl (cI, 30, .inl (aI kd2))), (s4, .inl (cL, 30, .inr (.inl (aL gr2))))]) [0, 1, 2, 3, 4, 5, 6, 7, 8, 9, 10, 11, 12] rfl
      have hD9 := hD.sub (ws' := [(h, .inr (2, [.ref a1, .ref a2])), (a1, .inl (cI, 30, .inl (aO sq))), (a2, .inl (cI, 30, .inl (aO pq))), (hbk, .inr (1, [.ref b1, .ref b2, .ref b3, .ref b4, .int (nI n)])), (b1, .inl (cI, 30, .inl (aI sh))), (b2, .inl (cI, 30, .inl (aI dy))), (b3, .inl (cI, 30, .inl (aI kd))), (b4, .inl (cL, 30, .inr (.inl (aL gr)))), (hsl, .inr (1, [.ref s1, .ref s2, .ref s3, .ref s4, .int (nI n2)])), (s1, .inl (cI, 30, .inl (aI sh2))), (s2, .inl (cI, 30, .inl (aI dy2))), (s3, .inl (cI, 30, .inl (aI kd2))), (s4, .inl (cL, 30, .inr (.inl (aL gr2))))]) [0, 1, 2, 3, 4, 5, 6, 7, 8, 9, 10, 11, 12] (by decide) rfl
      exact W.iret (v := nI i) hx hb hr (fun t9 ht9 hW9 => ⟨⟨nI i, (sq, pq), rfl, ⟨i, rfl, by omega, ⟨by first | exact js_end hmo (by omega) | (rw [← hj]; exact z19), hmo⟩, by rw [← hj], hsp⟩, by rw [ht9]; exact hP9, va_K.moved hW9.alike hK, hD9⟩, hS.F ht9⟩) hS.2.2 d_Jo_joinAnew_35
    | succ k ih9 =>
      intro i sq pq hk hj hmo hsp hps H locs hP hD hS ls hl
      refine lv_iload hx hb d_Jo_joinAnew_9 (lv_at hl 4 rfl) ?_
      refine lv_bipush (v := nI 30) hx hb d_Jo_joinAnew_11 (by decide +kernel) ?_
      refine bk_icmp_ge (a := i) (b := 30) (tgt := 34) hx hb (by omega) (by omega) d_Jo_joinAnew_13 (by decide) (fun c13 => by exfalso; omega) (fun c13 => ?_)
      refine lv_aload_n hx hb d_Jo_joinAnew_16 rfl (lv_at hl 0 rfl) ?_
      refine lv_aload_n hx hb d_Jo_joinAnew_17 rfl (lv_at hl 1 rfl) ?_
      refine lv_aload_n hx hb d_Jo_joinAnew_18 rfl (lv_at hl 2 rfl) ?_
      have hPc := hP.sub (ws' := [(h, .inr (2, [.ref a1, .ref a2])), (a1, .inl (cI, 30, .inl (aO sq))), (a2, .inl (cI, 30, .inl (aO pq))), (hbk, .inr (1, [.ref b1, .ref b2, .ref b3, .ref b4, .int (nI n)])), (b1, .inl (cI, 30, .inl (aI sh))), (b2, .inl (cI, 30, .inl (aI dy))), (b3, .inl (cI, 30, .inl (aI kd))), (b4, .inl (cL, 30, .inr (.inl (aL gr)))), (hsl, .inr (1, [.ref s1, .ref s2, .ref s3, .ref s4, .int (nI n2)])), (s1, .inl (cI, 30, .inl (aI sh2))), (s2, .inl (cI, 30, .inl (aI dy2))), (s3, .inl (cI, 30, .inl (aI kd2))), (s4, .inl (cL, 30, .inr (.inl (aL gr2))))]) [0, 1, 2, 3, 4, 5, 6, 7, 8, 9, 10, 11, 12] rfl
      have hDc := hD.sub (ws' := [(h, .inr (2, [.ref a1, .ref a2])), (a1, .inl (cI, 30, .inl (aO sq))), (a2, .inl (cI, 30, .inl (aO pq))), (hbk, .inr (1, [.ref b1, .ref b2, .ref b3, .ref b4, .int (nI n)])), (b1, .inl (cI, 30, .inl (aI sh))), (b2, .inl (cI, 30, .inl (aI dy))), (b3, .inl (cI, 30, .inl (aI kd))), (b4, .inl (cL, 30, .inr (.inl (aL gr)))), (hsl, .inr (1, [.ref s1, .ref s2, .ref s3, .ref s4, .int (nI n2)])), (s1, .inl (cI, 30, .inl (aI sh2))), (s2, .inl (cI, 30, .inl (aI dy2))), (s3, .inl (cI, 30, .inl (aI kd2))), (s4, .inl (cL, 30, .inr (.inl (aL gr2))))]) [0, 1, 2, 3, 4, 5, 6, 7, 8, 9, 10, 11, 12] (by decide) rfl
      have hFc := va_free (wc := [(h, .inr (2, [.ref a1, .ref a2])), (a1, .inl (cI, 30, .inl (aO sq))), (a2, .inl (cI, 30, .inl (aO pq))), (hbk, .inr (1, [.ref b1, .ref b2, .ref b3, .ref b4, .int (nI n)])), (b1, .inl (cI, 30, .inl (aI sh))), (b2, .inl (cI, 30, .inl (aI dy))), (b3, .inl (cI, 30, .inl (aI kd))), (b4, .inl (cL, 30, .inr (.inl (aL gr)))), (hsl, .inr (1, [.ref s1, .ref s2, .ref s3, .ref s4, .int (nI n2)])), (s1, .inl (cI, 30, .inl (aI sh2))), (s2, .inl (cI, 30, .inl (aI dy2))), (s3, .inl (cI, 30, .inl (aI kd2))), (s4, .inl (cL, 30, .inr (.inl (aL gr2))))]) hD hS hA [0, 1, 2, 3, 4, 5, 6, 7, 8, 9, 10, 11, 12] rfl
      refine va_calli (va_runV (As := [.ref hbk, .ref hsl]) (rest := []) ⟨hx, hb, hml, hown, htg⟩ (c_Jo_joinBest l dC dI cI cL cZ H.size h a1 a2 sq pq hbk b1 b2 b3 b4 n sh dy kd gr hsl s1 s2 s3 s4 n2 sh2 dy2 kd2 gr2 hi hi2 (fun p k h => by have := (hsp p k h).2; omega) hps) (cwV 2 htg (gdV k1_222 k1_224 ks_Jo_joinBest k1_3 kc_Jo_joinBest) rfl rfl rfl (by decide +kernel) ⟨Nat.le_of_ble_eq_true rfl, Nat.le_of_ble_eq_true rfl⟩) ⟨bk_blindW, va_recv hK hP (ci := 2) (q0 := 0) rfl rfl, fun U hU hW => ⟨rfl, nw_warm hW hN, by rw [hU], by rw [hU]; exact hPc, va_K.moved hW.alike hK, hDc.weaken (fun _ _ _ _ => trivial)⟩⟩ rfl rfl hl.1 rfl (lv_room (Nat.le_of_ble_eq_true rfl)) d_Jo_joinAnew_19 ⟨Nat.le_of_ble_eq_true rfl, Nat.le_of_ble_eq_true rfl⟩) hS (fun q _ h => hFc q h) hFc (fun r19 u t H1 locs ht hvm e19 hB hz1 hk1 hS => ?_)
      obtain ⟨hP1, hK1, hD1⟩ := hB
      rw [ht] at hP1
      try dsimp only at e19
      rcases e19 with ⟨z19, rfl, rfl⟩ | ⟨z19, rfl, rfl⟩
      · obtain ⟨hP, hD⟩ := va_join (wr := []) (w1 := [(h, .inr (2, [.ref a1, .ref a2])), (a1, .inl (cI, 30, .inl (aO sq))), (a2, .inl (cI, 30, .inl (aO pq))), (hbk, .inr (1, [.ref b1, .ref b2, .ref b3, .ref b4, .int (nI n)])), (b1, .inl (cI, 30, .inl (aI sh))), (b2, .inl (cI, 30, .inl (aI dy))), (b3, .inl (cI, 30, .inl (aI kd))), (b4, .inl (cL, 30, .inr (.inl (aL gr)))), (hsl, .inr (1, [.ref s1, .ref s2, .ref s3, .ref s4, .int (nI n2)])), (s1, .inl (cI, 30, .inl (aI sh2))), (s2, .inl (cI, 30, .inl (aI dy2))), (s3, .inl (cI, 30, .inl (aI kd2))), (s4, .inl (cL, 30, .inr (.inl (aL gr2))))]) hP hD [0, 1, 2, 3, 4, 5, 6, 7, 8, 9, 10, 11, 12] [] rfl rfl (by decide) (by decide) hk1 hFc hP1 hD1
        generalize H1 = H at hP hS ⊢
        have hP : va_P (dC, dI) vwCl [(h, .inr (2, [.ref a1, .ref a2])), (a1, .inl (cI, 30, .inl (aO sq))), (a2, .inl (cI, 30, .inl (aO pq))), (hbk, .inr (1, [.ref b1, .ref b2, .ref b3, .ref b4, .int (nI n)])), (b1, .inl (cI, 30, .inl (aI sh))), (b2, .inl (cI, 30, .inl (aI dy))), (b3, .inl (cI, 30, .inl (aI kd))), (b4, .inl (cL, 30, .inr (.inl (aL gr)))), (hsl, .inr (1, [.ref s1, .ref s2, .ref s3, .ref s4, .int (nI n2)])), (s1, .inl (cI, 30, .inl (aI sh2))), (s2, .inl (cI, 30, .inl (aI dy2))), (s3, .inl (cI, 30, .inl (aI kd2))), (s4, .inl (cL, 30, .inr (.inl (aL gr2))))] H := hP.sub [0, 1, 2, 3, 4, 5, 6, 7, 8, 9, 10, 11, 12] rfl
        have hD : va_D A [(h, .inr (2, [.ref a1, .ref a2])), (a1, .inl (cI, 30, .inl (aO sq))), (a2, .inl (cI, 30, .inl (aO pq))), (hbk, .inr (1, [.ref b1, .ref b2, .ref b3, .ref b4, .int (nI n)])), (b1, .inl (cI, 30, .inl (aI sh))), (b2, .inl (cI, 30, .inl (aI dy))), (b3, .inl (cI, 30, .inl (aI kd))), (b4, .inl (cL, 30, .inr (.inl (aL gr)))), (hsl, .inr (1, [.ref s1, .ref s2, .ref s3, .ref s4, .int (nI n2)])), (s1, .inl (cI, 30, .inl (aI sh2))), (s2, .inl (cI, 30, .inl (aI dy2))), (s3, .inl (cI, 30, .inl (aI kd2))), (s4, .inl (cL, 30, .inr (.inl (aL gr2))))] := hD.sub [0, 1, 2, 3, 4, 5, 6, 7, 8, 9, 10, 11, 12] (by decide) rfl
        refine bk_if_eq (a := 0) (tgt := 34) hx hb (by omega) d_Jo_joinAnew_22 (by decide) (fun c22 => ?_) (fun c22 => absurd c22 (by decide))
        refine lv_iload_n hx hb d_Jo_joinAnew_34 rfl (lv_at hl 3 rfl) ?_
        have hP9 := hP.sub (ws' := [(h, .inr (2, [.ref a1, .ref a2])), (a1, .inl (cI, 30, .inl (aO sq))), (a2, .inl (cI, 30, .inl (aO pq))), (hbk, .inr (1, [.ref b1, .ref b2, .ref b3, .ref b4, .int (nI n)])), (b1, .inl (cI, 30, .inl (aI sh))), (b2, .inl (cI, 30, .inl (aI dy))), (b3, .inl (cI, 30, .inl (aI kd))), (b4, .inl (cL, 30, .inr (.inl (aL gr)))), (hsl, .inr (1, [.ref s1, .ref s2, .ref s3, .ref s4, .int (nI n2)])), (s1, .inl (cI, 30, .inl (aI sh2))), (s2, .inl (cI, 30, .inl (aI dy2))), (s3, .inl (cI, 30, .inl (aI kd2))), (s4, .inl (cL, 30, .inr (.inl (aL gr2))))]) [0, 1, 2, 3, 4, 5, 6, 7, 8, 9, 10, 11, 12] rfl
        have hD9 := hD.sub (ws' := [(h, .inr (2, [.ref a1, .ref a2])), (a1, .inl (cI, 30, .inl (aO sq))), (a2, .inl (cI, 30, .inl (aO pq))), (hbk, .inr (1, [.ref b1, .ref b2, .ref b3, .ref b4, .int (nI n)])), (b1, .inl (cI, 30, .inl (aI sh))), (b2, .inl (cI, 30, .inl (aI dy))), (b3, .inl (cI, 30, .inl (aI kd))), (b4, .inl (cL, 30, .inr (.inl (aL gr)))), (hsl, .inr (1, [.ref s1, .ref s2, .ref s3, .ref s4, .int (nI n2)])), (s1, .inl (cI, 30, .inl (aI sh2))), (s2, .inl (cI, 30, .inl (aI dy2))), (s3, .inl (cI, 30, .inl (aI kd2))), (s4, .inl (cL, 30, .inr (.inl (aL gr2))))]) [0, 1, 2, 3, 4, 5, 6, 7, 8, 9, 10, 11, 12] (by decide) rfl
        exact W.iret (v := nI i) hx hb hr (fun t9 ht9 hW9 => ⟨⟨nI i, (sq, pq), rfl, ⟨i, rfl, by omega, ⟨by first | exact js_end hmo (by omega) | (rw [← hj]; exact z19), hmo⟩, by rw [← hj], hsp⟩, by rw [ht9]; exact hP9, va_K.moved hW9.alike hK, hD9⟩, hS.F ht9⟩) hS.2.2 d_Jo_joinAnew_35
      · obtain ⟨hP, hD⟩ := va_join (wr := []) (w1 := [(h, .inr (2, [.ref a1, .ref a2])), (a1, .inl (cI, 30, .inl (aO (va_up sq (jbest (ptOf sh dy kd gr sh2 dy2 kd2 gr2) n n2 (sq, sdO pq)).2.1 (some (jbest (ptOf sh dy kd gr sh2 dy2 kd2 gr2) n n2 (sq, sdO pq)).2.2))))), (a2, .inl (cI, 30, .inl (aO (va_up pq (jbest (ptOf sh dy kd gr sh2 dy2 kd2 gr2) n n2 (sq, sdO pq)).2.2 (some (jbest (ptOf sh dy kd gr sh2 dy2 kd2 gr2) n n2 (sq, sdO pq)).2.1))))), (hbk, .inr (1, [.ref b1, .ref b2, .ref b3, .ref b4, .int (nI n)])), (b1, .inl (cI, 30, .inl (aI sh))), (b2, .inl (cI, 30, .inl (aI dy))), (b3, .inl (cI, 30, .inl (aI kd))), (b4, .inl (cL, 30, .inr (.inl (aL gr)))), (hsl, .inr (1, [.ref s1, .ref s2, .ref s3, .ref s4, .int (nI n2)])), (s1, .inl (cI, 30, .inl (aI sh2))), (s2, .inl (cI, 30, .inl (aI dy2))), (s3, .inl (cI, 30, .inl (aI kd2))), (s4, .inl (cL, 30, .inr (.inl (aL gr2))))]) hP hD [0, 1, 2, 3, 4, 5, 6, 7, 8, 9, 10, 11, 12] [] rfl rfl (by decide) (by decide) hk1 hFc hP1 hD1
        generalize H1 = H at hP hS ⊢
        have hP : va_P (dC, dI) vwCl [(h, .inr (2, [.ref a1, .ref a2])), (a1, .inl (cI, 30, .inl (aO (va_up sq (jbest (ptOf sh dy kd gr sh2 dy2 kd2 gr2) n n2 (sq, sdO pq)).2.1 (some (jbest (ptOf sh dy kd gr sh2 dy2 kd2 gr2) n n2 (sq, sdO pq)).2.2))))), (a2, .inl (cI, 30, .inl (aO (va_up pq (jbest (ptOf sh dy kd gr sh2 dy2 kd2 gr2) n n2 (sq, sdO pq)).2.2 (some (jbest (ptOf sh dy kd gr sh2 dy2 kd2 gr2) n n2 (sq, sdO pq)).2.1))))), (hbk, .inr (1, [.ref b1, .ref b2, .ref b3, .ref b4, .int (nI n)])), (b1, .inl (cI, 30, .inl (aI sh))), (b2, .inl (cI, 30, .inl (aI dy))), (b3, .inl (cI, 30, .inl (aI kd))), (b4, .inl (cL, 30, .inr (.inl (aL gr)))), (hsl, .inr (1, [.ref s1, .ref s2, .ref s3, .ref s4, .int (nI n2)])), (s1, .inl (cI, 30, .inl (aI sh2))), (s2, .inl (cI, 30, .inl (aI dy2))), (s3, .inl (cI, 30, .inl (aI kd2))), (s4, .inl (cL, 30, .inr (.inl (aL gr2))))] H := hP.sub [0, 1, 2, 3, 4, 5, 6, 7, 8, 9, 10, 11, 12] rfl
        have hD : va_D A [(h, .inr (2, [.ref a1, .ref a2])), (a1, .inl (cI, 30, .inl (aO (va_up sq (jbest (ptOf sh dy kd gr sh2 dy2 kd2 gr2) n n2 (sq, sdO pq)).2.1 (some (jbest (ptOf sh dy kd gr sh2 dy2 kd2 gr2) n n2 (sq, sdO pq)).2.2))))), (a2, .inl (cI, 30, .inl (aO (va_up pq (jbest (ptOf sh dy kd gr sh2 dy2 kd2 gr2) n n2 (sq, sdO pq)).2.2 (some (jbest (ptOf sh dy kd gr sh2 dy2 kd2 gr2) n n2 (sq, sdO pq)).2.1))))), (hbk, .inr (1, [.ref b1, .ref b2, .ref b3, .ref b4, .int (nI n)])), (b1, .inl (cI, 30, .inl (aI sh))), (b2, .inl (cI, 30, .inl (aI dy))), (b3, .inl (cI, 30, .inl (aI kd))), (b4, .inl (cL, 30, .inr (.inl (aL gr)))), (hsl, .inr (1, [.ref s1, .ref s2, .ref s3, .ref s4, .int (nI n2)])), (s1, .inl (cI, 30, .inl (aI sh2))), (s2, .inl (cI, 30, .inl (aI dy2))), (s3, .inl (cI, 30, .inl (aI kd2))), (s4, .inl (cL, 30, .inr (.inl (aL gr2))))] := hD.sub [0, 1, 2, 3, 4, 5, 6, 7, 8, 9, 10, 11, 12] (by decide) rfl
        refine bk_if_eq (a := 1) (tgt := 34) hx hb (by omega) d_Jo_joinAnew_22 (by decide) (fun c22 => absurd c22 (by decide)) (fun c22 => ?_)
        refine lv_iinc (v := nI (i + 1)) (lv' := [(3, .int (nI (i + 1))), (0, .ref h), (1, .ref hbk), (2, .ref hsl), (4, .int (nI i))]) hx hb d_Jo_joinAnew_25 hl (k := 3) rfl (bk_inc i) (by decide) rfl (fun ls hl => ?_)
        refine lv_iinc (v := nI (i + 1)) (lv' := [(4, .int (nI (i + 1))), (3, .int (nI (i + 1))), (0, .ref h), (1, .ref hbk), (2, .ref hsl)]) hx hb d_Jo_joinAnew_28 hl (k := 4) rfl (bk_inc i) (by decide) rfl (fun ls hl => ?_)
        refine lv_goto (tgt := 9) hx hb d_Jo_joinAnew_31 (by decide) ?_
        exact ih9 (i + 1) (va_up sq (jbest (ptOf sh dy kd gr sh2 dy2 kd2 gr2) n n2 (sq, sdO pq)).2.1 (some (jbest (ptOf sh dy kd gr sh2 dy2 kd2 gr2) n n2 (sq, sdO pq)).2.2)) (va_up pq (jbest (ptOf sh dy kd gr sh2 dy2 kd2 gr2) n n2 (sq, sdO pq)).2.2 (some (jbest (ptOf sh dy kd gr sh2 dy2 kd2 gr2) n n2 (sq, sdO pq)).2.1)) (by omega) (js_next hj) (more_next hj hmo z19) (rng_up hsp (best_rng z19).1 (best_rng z19).2) (some_up hps (by have := (best_rng z19).1; omega)) _ _ (hP.sub [0, 1, 2, 3, 4, 5, 6, 7, 8, 9, 10, 11, 12] rfl) (hD.sub [0, 1, 2, 3, 4, 5, 6, 7, 8, 9, 10, 11, 12] (by decide) rfl) hS ls (lv_sub hl [2, 3, 4, 1, 0] rfl)
  exact J9 30 0 (fun _ => none) (fun _ => none) (by omega) rfl (fun k h => absurd h (by omega)) (fun p k h => nomatch h) (fun p k h => nomatch h) _ _ (hP.sub [0, 1, 2, 3, 4, 5, 6, 7, 8, 9, 10, 11, 12] rfl) (hD.sub [0, 1, 2, 3, 4, 5, 6, 7, 8, 9, 10, 11, 12] (by decide) rfl) hS ls (lv_sub hl [2, 3, 4, 1, 0] rfl)
end
section
set_option maxHeartbeats 4000000 in
set_option maxRecDepth 100000 in
theorem c_Ro_begin (l : Launch) (dC : Nat → ClassId) (dI : Nat → Nat → Nat) (cI cL cZ : ClassId) (sz : Nat) (h a1 c0 as0 : Nat) (tk : Nat → Nat) (k : Nat) : Met l y_Ro_begin ws_Ro_begin { frames := 0, cells := 0, slots := 0, locals := 0 } (va_Pc [.ref h, .int (nI k)] (wrP (dC, dI) vwCl [(cI, .int), (cL, .long), (cZ, .boolean)] [(h, .inr (5, [.ref a1, .int (nI c0), .int (nI as0)])), (a1, .inl (cI, 30, .inl (aI tk)))] sz)) (va_Qv (fun (u : Unit) => True) (fun (u : Unit) => wrQ (dC, dI) vwCl [(cI, .int), (cL, .long), (cZ, .boolean)] (va_A [(h, .inr (5, [.ref a1, .int (nI c0), .int (nI as0)])), (a1, .inl (cI, 30, .inl (aI tk)))] sz) [(h, .inr (5, [.ref a1, .int (nI 0), .int (nI k)])), (a1, .inl (cI, 30, .inl (aI tk)))]) (va_A [(h, .inr (5, [.ref a1, .int (nI c0), .int (nI as0)])), (a1, .inl (cI, 30, .inl (aI tk)))] sz)) 0 0 (va_A [(h, .inr (5, [.ref a1, .int (nI c0), .int (nI as0)])), (a1, .inl (cI, 30, .inl (aI tk)))] sz) := by
  refine Met.ofW (cc := b_Ro_begin) (maxL := 2) (ret := none) (by decide) rfl ?_
  intro pr en s m args below meth c s₁ B hml hv
  obtain ⟨rfl, hN, hsz, hP, hK, hD0⟩ := hv
  have hx := B.exec
  have hb := B.bytes
  have hr := B.returns
  have hts := atoms_spec (ws := ws_Ro_begin) B.pre
  have htg : ∀ w ∈ gW, w.before _ s = true := fun w h => hts w (List.mem_cons_of_mem _ h)
  have hown : s.vm.findClass R_Ro = some m.cls := findClass_of_methodNamed B.named
  have hlocks := B.notSynchronized
  subst hsz
  have hD := hD0.self (sz := s.heap.size)
  generalize hAe : va_A [(h, .inr (5, [.ref a1, .int (nI c0), .int (nI as0)])), (a1, .inl (cI, 30, .inl (aI tk)))] s.heap.size = A at hD ⊢
  have hA : ∀ q : Nat, s.heap.size ≤ q → A q := fun q h => by rw [← hAe]; exact Or.inr h
  have hS : va_S A s.heap s.heap [] := va_S.rf
  have hP : va_P (dC, dI) vwCl [(h, .inr (5, [.ref a1, .int (nI c0), .int (nI as0)])), (a1, .inl (cI, 30, .inl (aI tk)))] s.heap := hP
  have hl := lv_entry ([.ref h, .int (nI k)]) (n := 2) (Nat.le_of_ble_eq_true rfl)
  rw [lg_entry_eq]
  generalize (lg_sl ([.ref h, .int (nI k)]) ++ List.replicate (2 - (lg_sl ([.ref h, .int (nI k)])).length) Slot.unset).toArray = ls at hl ⊢
  have hl : lv_has ls 2 [(0, .ref h), (1, .int (nI k))] := hl
  refine lv_aload_n hx hb d_Ro_begin_0 rfl (lv_at hl 0 rfl) ?_
  refine lv_iconst (v := nI 0) hx hb d_Ro_begin_1 (by decide +kernel) ?_
  refine va_put (D := (dC, dI)) (ci := 5) (v := .int (nI 0)) (ty := (t_Ro 1)) (C := R_Ro) (T := F_Ro) (N := 3) hx hb htg iw_Ro t_Ro tk_Ro nm_Ro hown hK hP hD hS 0 rfl rfl 1 (by decide) (htg _ k1_118) (fun _ h9 => h9) rfl (by decide +kernel) rfl rfl (Nat.le_of_ble_eq_true rfl) d_Ro_begin_2 (fun H locs hP hD hS => ?_)
  have hP : va_P (dC, dI) vwCl [(h, .inr (5, [.ref a1, .int (nI 0), .int (nI as0)])), (a1, .inl (cI, 30, .inl (aI tk)))] H := hP
  have hD : va_D A [(h, .inr (5, [.ref a1, .int (nI 0), .int (nI as0)])), (a1, .inl (cI, 30, .inl (aI tk)))] := hD
  refine lv_aload_n hx hb d_Ro_begin_5 rfl (lv_at hl 0 rfl) ?_
  refine lv_iload_n hx hb d_Ro_begin_6 rfl (lv_at hl 1 rfl) ?_
  refine va_put (D := (dC, dI)) (ci := 5) (v := .int (nI k)) (ty := (t_Ro 2)) (C := R_Ro) (T := F_Ro) (N := 3) hx hb htg iw_Ro t_Ro tk_Ro nm_Ro hown hK hP hD hS 0 rfl rfl 2 (by decide) (htg _ k1_120) (fun _ h9 => h9) rfl (by decide +kernel) rfl rfl (Nat.le_of_ble_eq_true rfl) d_Ro_begin_7 (fun H locs hP hD hS => ?_)
  have hP : va_P (dC, dI) vwCl [(h, .inr (5, [.ref a1, .int (nI 0), .int (nI k)])), (a1, .inl (cI, 30, .inl (aI tk)))] H := hP
  have hD : va_D A [(h, .inr (5, [.ref a1, .int (nI 0), .int (nI k)])), (a1, .inl (cI, 30, .inl (aI tk)))] := hD
  have hP9 := hP.sub (ws' := [(h, .inr (5, [.ref a1, .int (nI 0), .int (nI k)])), (a1, .inl (cI, 30, .inl (aI tk)))]) [0, 1] rfl
  have hD9 := hD.sub (ws' := [(h, .inr (5, [.ref a1, .int (nI 0), .int (nI k)])), (a1, .inl (cI, 30, .inl (aI tk)))]) [0, 1] (by decide) rfl
  exact W.vret hx hb hr (fun t9 ht9 hW9 => ⟨⟨(), rfl, trivial, by rw [ht9]; exact hP9, va_K.moved hW9.alike hK, hD9⟩, hS.F ht9⟩) hS.2.2 d_Ro_begin_10
set_option maxHeartbeats 4000000 in
set_option maxRecDepth 100000 in
theorem c_Ro_append (l : Launch) (dC : Nat → ClassId) (dI : Nat → Nat → Nat) (cI cL cZ : ClassId) (sz : Nat) (h a1 c0 as0 : Nat) (tk : Nat → Nat) (k : Nat) (hc : c0 < 30) : Met l y_Ro_append ws_Ro_append { frames := 0, cells := 0, slots := 0, locals := 0 } (va_Pc [.ref h, .int (nI k)] (wrP (dC, dI) vwCl [(cI, .int), (cL, .long), (cZ, .boolean)] [(h, .inr (5, [.ref a1, .int (nI c0), .int (nI as0)])), (a1, .inl (cI, 30, .inl (aI tk)))] sz)) (va_Qv (fun (u : Unit) => True) (fun (u : Unit) => wrQ (dC, dI) vwCl [(cI, .int), (cL, .long), (cZ, .boolean)] (va_A [(h, .inr (5, [.ref a1, .int (nI c0), .int (nI as0)])), (a1, .inl (cI, 30, .inl (aI tk)))] sz) [(h, .inr (5, [.ref a1, .int (nI (c0 + 1)), .int (nI as0)])), (a1, .inl (cI, 30, .inl (aI (va_up tk c0 k))))]) (va_A [(h, .inr (5, [.ref a1, .int (nI c0), .int (nI as0)])), (a1, .inl (cI, 30, .inl (aI tk)))] sz)) 0 0 (va_A [(h, .inr (5, [.ref a1, .int (nI c0), .int (nI as0)])), (a1, .inl (cI, 30, .inl (aI tk)))] sz) := by
  refine Met.ofW (cc := b_Ro_append) (maxL := 2) (ret := none) (by decide) rfl ?_
  intro pr en s m args below meth c s₁ B hml hv
  obtain ⟨rfl, hN, hsz, hP, hK, hD0⟩ := hv
  have hx := B.exec
  have hb := B.bytes
  have hr := B.returns
  have hts := atoms_spec (ws := ws_Ro_append) B.pre
  have htg : ∀ w ∈ gW, w.before _ s = true := fun w h => hts w (List.mem_cons_of_mem _ h)
  have hown : s.vm.findClass R_Ro = some m.cls := findClass_of_methodNamed B.named
  have hlocks := B.notSynchronized
  subst hsz
  have hD := hD0.self (sz := s.heap.size)
  generalize hAe : va_A [(h, .inr (5, [.ref a1, .int (nI c0), .int (nI as0)])), (a1, .inl (cI, 30, .inl (aI tk)))] s.heap.size = A at hD ⊢
  have hA : ∀ q : Nat, s.heap.size ≤ q → A q := fun q h => by rw [← hAe]; exact Or.inr h
  have hS : va_S A s.heap s.heap [] := va_S.rf
  have hP : va_P (dC, dI) vwCl [(h, .inr (5, [.ref a1, .int (nI c0), .int (nI as0)])), (a1, .inl (cI, 30, .inl (aI tk)))] s.heap := hP
  have hl := lv_entry ([.ref h, .int (nI k)]) (n := 2) (Nat.le_of_ble_eq_true rfl)
  rw [lg_entry_eq]
  generalize (lg_sl ([.ref h, .int (nI k)]) ++ List.replicate (2 - (lg_sl ([.ref h, .int (nI k)])).length) Slot.unset).toArray = ls at hl ⊢
  have hl : lv_has ls 2 [(0, .ref h), (1, .int (nI k))] := hl
  refine lv_aload_n hx hb d_Ro_append_0 rfl (lv_at hl 0 rfl) ?_
  refine va_get (D := (dC, dI)) (ci := 5) (v := .int (nI c0)) (C := R_Ro) (T := F_Ro) (N := 3) hx hb htg iw_Ro hown hK hP 0 rfl rfl 1 (by decide) (htg _ k1_118) (fun _ h9 => h9) rfl d_Ro_append_1 ?_
  refine lv_bipush (v := nI 30) hx hb d_Ro_append_4 (by decide +kernel) ?_
  refine bk_icmp_ge (a := c0) (b := 30) (tgt := 29) hx hb (by omega) (by omega) d_Ro_append_6 (by decide) (fun c6 => by exfalso; omega) (fun c6 => ?_)
  refine lv_aload_n hx hb d_Ro_append_9 rfl (lv_at hl 0 rfl) ?_
  refine va_get (D := (dC, dI)) (ci := 5) (v := .ref a1) (C := R_Ro) (T := F_Ro) (N := 3) hx hb htg iw_Ro hown hK hP 0 rfl rfl 0 (by decide) (htg _ k1_117) (fun _ h9 => h9) rfl d_Ro_append_10 ?_
  refine lv_aload_n hx hb d_Ro_append_13 rfl (lv_at hl 0 rfl) ?_
  refine va_get (D := (dC, dI)) (ci := 5) (v := .int (nI c0)) (C := R_Ro) (T := F_Ro) (N := 3) hx hb htg iw_Ro hown hK hP 0 rfl rfl 1 (by decide) (htg _ k1_118) (fun _ h9 => h9) rfl d_Ro_append_14 ?_
  refine lv_iload_n hx hb d_Ro_append_17 rfl (lv_at hl 1 rfl) ?_
  refine bk_iast (x := nI k) (f2 := aI (va_up tk c0 k)) hx hb hK hP hD hS 1 0 rfl rfl (by omega) (by decide) (aI_up _ _ _) d_Ro_append_18 (fun H locs hP hD hS => ?_)
  have hP : va_P (dC, dI) vwCl [(h, .inr (5, [.ref a1, .int (nI c0), .int (nI as0)])), (a1, .inl (cI, 30, .inl (aI (va_up tk c0 k))))] H := hP
  have hD : va_D A [(h, .inr (5, [.ref a1, .int (nI c0), .int (nI as0)])), (a1, .inl (cI, 30, .inl (aI (va_up tk c0 k))))] := hD
  refine lv_aload_n hx hb d_Ro_append_19 rfl (lv_at hl 0 rfl) ?_
  refine lv_dup hx hb d_Ro_append_20 rfl ?_
  refine va_get (D := (dC, dI)) (ci := 5) (v := .int (nI c0)) (C := R_Ro) (T := F_Ro) (N := 3) hx hb htg iw_Ro hown hK hP 0 rfl rfl 1 (by decide) (htg _ k1_118) (fun _ h9 => h9) rfl d_Ro_append_21 ?_
  refine lv_iconst (v := nI 1) hx hb d_Ro_append_24 (by decide +kernel) ?_
  refine bk_iadd hx hb d_Ro_append_25 ?_
  refine va_put (D := (dC, dI)) (ci := 5) (v := .int (nI (c0 + 1))) (ty := (t_Ro 1)) (C := R_Ro) (T := F_Ro) (N := 3) hx hb htg iw_Ro t_Ro tk_Ro nm_Ro hown hK hP hD hS 0 rfl rfl 1 (by decide) (htg _ k1_118) (fun _ h9 => h9) rfl (by decide +kernel) rfl rfl (Nat.le_of_ble_eq_true rfl) d_Ro_append_26 (fun H locs hP hD hS => ?_)
  have hP : va_P (dC, dI) vwCl [(h, .inr (5, [.ref a1, .int (nI (c0 + 1)), .int (nI as0)])), (a1, .inl (cI, 30, .inl (aI (va_up tk c0 k))))] H := hP
  have hD : va_D A [(h, .inr (5, [.ref a1, .int (nI (c0 + 1)), .int (nI as0)])), (a1, .inl (cI, 30, .inl (aI (va_up tk c0 k))))] := hD
  have hP9 := hP.sub (ws' := [(h, .inr (5, [.ref a1, .int (nI (c0 + 1)), .int (nI as0)])), (a1, .inl (cI, 30, .inl (aI (va_up tk c0 k))))]) [0, 1] rfl
  have hD9 := hD.sub (ws' := [(h, .inr (5, [.ref a1, .int (nI (c0 + 1)), .int (nI as0)])), (a1, .inl (cI, 30, .inl (aI (va_up tk c0 k))))]) [0, 1] (by decide) rfl
  exact W.vret hx hb hr (fun t9 ht9 hW9 => ⟨⟨(), rfl, trivial, by rw [ht9]; exact hP9, va_K.moved hW9.alike hK, hD9⟩, hS.F ht9⟩) hS.2.2 d_Ro_append_29
set_option maxHeartbeats 4000000 in
set_option maxRecDepth 100000 in
theorem c_Ro_at (l : Launch) (dC : Nat → ClassId) (dI : Nat → Nat → Nat) (cI cL cZ : ClassId) (h a1 c0 as0 : Nat) (tk : Nat → Nat) (x : Int32) (hc : c0 ≤ 30) : Met l y_Ro_at ws_Ro_at { frames := 0, cells := 0, slots := 0, locals := 0 } (va_Pc [.ref h, .int x] (rdP (dC, dI) vwCl [(cI, .int), (cL, .long), (cZ, .boolean)] [(h, .inr (5, [.ref a1, .int (nI c0), .int (nI as0)])), (a1, .inl (cI, 30, .inl (aI tk)))])) (vp_Si (fun r => (∃ j, j < c0 ∧ x = nI j ∧ r = nI (tk j)) ∨ (¬ inR c0 x ∧ r = oI none))) 0 0 (fun _ => False) := by
  refine Met.ofW (cc := b_Ro_at) (maxL := 2) (ret := (some .int)) (by decide) rfl ?_
  intro pr en s m args below meth c s₁ B hml hv
  obtain ⟨rfl, hN, hP, hK⟩ := hv
  have hx := B.exec
  have hb := B.bytes
  have hr := B.returns
  have hts := atoms_spec (ws := ws_Ro_at) B.pre
  have htg : ∀ w ∈ gW, w.before _ s = true := fun w h => hts w (List.mem_cons_of_mem _ h)
  have hown : s.vm.findClass R_Ro = some m.cls := findClass_of_methodNamed B.named
  have hlocks := B.notSynchronized
  have hl := lv_entry ([.ref h, .int x]) (n := 2) (Nat.le_of_ble_eq_true rfl)
  rw [lg_entry_eq]
  generalize (lg_sl ([.ref h, .int x]) ++ List.replicate (2 - (lg_sl ([.ref h, .int x])).length) Slot.unset).toArray = ls at hl ⊢
  have hl : lv_has ls 2 [(0, .ref h), (1, .int x)] := hl
  refine lv_iload_n hx hb d_Ro_at_0 rfl (lv_at hl 1 rfl) ?_
  refine lv_if_lt (x := x) (tgt := 21) hx hb d_Ro_at_1 (by decide) (fun c1 => ?_) (fun c1 => ?_)
  · refine lv_iconst (v := oI none) hx hb d_Ro_at_21 (by decide +kernel) ?_
    exact W.iret (v := oI none) hx hb hr (fun t9 ht9 hW9 => ⟨oI none, rfl, Or.inr ⟨by first | exact inR_neg (by omega) (by assumption) | exact inR_big (by omega) (by assumption), rfl⟩, ht9⟩) (fun q h => nomatch h) d_Ro_at_22
  · refine lv_iload_n hx hb d_Ro_at_4 rfl (lv_at hl 1 rfl) ?_
    refine lv_aload_n hx hb d_Ro_at_5 rfl (lv_at hl 0 rfl) ?_
    refine va_get (D := (dC, dI)) (ci := 5) (v := .int (nI c0)) (C := R_Ro) (T := F_Ro) (N := 3) hx hb htg iw_Ro hown hK hP 0 rfl rfl 1 (by decide) (htg _ k1_118) (fun _ h9 => h9) rfl d_Ro_at_6 ?_
    refine lv_icmp_ge (x := x) (y := nI c0) (tgt := 21) hx hb d_Ro_at_9 (by decide) (fun c9 => ?_) (fun c9 => ?_)
    · refine lv_iconst (v := oI none) hx hb d_Ro_at_21 (by decide +kernel) ?_
      exact W.iret (v := oI none) hx hb hr (fun t9 ht9 hW9 => ⟨oI none, rfl, Or.inr ⟨by first | exact inR_neg (by omega) (by assumption) | exact inR_big (by omega) (by assumption), rfl⟩, ht9⟩) (fun q h => nomatch h) d_Ro_at_22
    · obtain ⟨j, hj, hxj⟩ := inR_of (n := c0) (by omega) c1 c9
      refine lv_aload_n hx hb d_Ro_at_12 rfl (lv_at hl 0 rfl) ?_
      refine va_get (D := (dC, dI)) (ci := 5) (v := .ref a1) (C := R_Ro) (T := F_Ro) (N := 3) hx hb htg iw_Ro hown hK hP 0 rfl rfl 0 (by decide) (htg _ k1_117) (fun _ h9 => h9) rfl d_Ro_at_13 ?_
      refine lv_iload_n hx hb d_Ro_at_16 rfl (lv_at hl 1 rfl) ?_
      refine bk_topi (y := nI j) hxj ?_
      refine bk_iald (v := nI (tk j)) hx hb hK hP 1 0 rfl rfl (by omega) (by decide) rfl d_Ro_at_17 ?_
      refine lv_goto (tgt := 22) hx hb d_Ro_at_18 (by decide) ?_
      exact W.iret (v := nI (tk j)) hx hb hr (fun t9 ht9 hW9 => ⟨nI (tk j), rfl, Or.inl ⟨j, hj, hxj, rfl⟩, ht9⟩) (fun q h => nomatch h) d_Ro_at_22
set_option maxHeartbeats 4000000 in
set_option maxRecDepth 100000 in
theorem c_Ro_equalTo (l : Launch) (dC : Nat → ClassId) (dI : Nat → Nat → Nat) (cI cL cZ : ClassId) (h a1 c0 as0 : Nat) (tk : Nat → Nat) (h2 a2 c2 as2 : Nat) (tk2 : Nat → Nat) (hc : c0 ≤ 30) (hc2 : c2 ≤ 30) (hb1 : ∀ j, j < c0 → tk j < 30) (hb2 : ∀ j, j < c2 → tk2 j < 30) : Met l y_Ro_equalTo ws_Ro_equalTo { frames := 0, cells := 0, slots := 0, locals := 0 } (va_Pc [.ref h, .ref h2] (rdP (dC, dI) vwCl [(cI, .int), (cL, .long), (cZ, .boolean)] [(h, .inr (5, [.ref a1, .int (nI c0), .int (nI as0)])), (a1, .inl (cI, 30, .inl (aI tk))), (h2, .inr (5, [.ref a2, .int (nI c2), .int (nI as2)])), (a2, .inl (cI, 30, .inl (aI tk2)))])) (vp_Si (fun r => ((c0 = c2 ∧ ∀ j, j < c0 → tk j = tk2 j) ∧ r = nI 1) ∨ (¬ (c0 = c2 ∧ ∀ j, j < c0 → tk j = tk2 j) ∧ r = nI 0))) 0 0 (fun _ => False) := by
  refine Met.ofW (cc := b_Ro_equalTo) (maxL := 3) (ret := (some .boolean)) (by decide) rfl ?_
  intro pr en s m args below meth c s₁ B hml hv
  obtain ⟨rfl, hN, hP, hK⟩ := hv
  have hx := B.exec
  have hb := B.bytes
  have hr := B.returns
  have hts := atoms_spec (ws := ws_Ro_equalTo) B.pre
  have htg : ∀ w ∈ gW, w.before _ s = true := fun w h => hts w (List.mem_cons_of_mem _ h)
  have hown : s.vm.findClass R_Ro = some m.cls := findClass_of_methodNamed B.named
  have hlocks := B.notSynchronized
  have hl := lv_entry ([.ref h, .ref h2]) (n := 3) (Nat.le_of_ble_eq_true rfl)
  rw [lg_entry_eq]
  generalize (lg_sl ([.ref h, .ref h2]) ++ List.replicate (3 - (lg_sl ([.ref h, .ref h2])).length) Slot.unset).toArray = ls at hl ⊢
  have hl : lv_has ls 3 [(0, .ref h), (1, .ref h2)] := hl
  refine lv_aload_n hx hb d_Ro_equalTo_0 rfl (lv_at hl 0 rfl) ?_
  refine va_get (D := (dC, dI)) (ci := 5) (v := .int (nI c0)) (C := R_Ro) (T := F_Ro) (N := 3) hx hb htg iw_Ro hown hK hP 0 rfl rfl 1 (by decide) (htg _ k1_118) (fun _ h9 => h9) rfl d_Ro_equalTo_1 ?_
  refine lv_aload_n hx hb d_Ro_equalTo_4 rfl (lv_at hl 1 rfl) ?_
  refine va_get (D := (dC, dI)) (ci := 5) (v := .int (nI c2)) (C := R_Ro) (T := F_Ro) (N := 3) hx hb htg iw_Ro hown hK hP 2 rfl rfl 1 (by decide) (htg _ k1_118) (fun _ h9 => h9) rfl d_Ro_equalTo_5 ?_
  refine bk_icmp_eq (a := c0) (b := c2) (tgt := 13) hx hb (by omega) (by omega) d_Ro_equalTo_8 (by decide) (fun c8 => ?_) (fun c8 => ?_)
  · refine lv_iconst (v := nI 0) hx hb d_Ro_equalTo_13 (by decide +kernel) ?_
    refine lv_istore_n (lv' := [(2, .int (nI 0)), (0, .ref h), (1, .ref h2)]) hx hb d_Ro_equalTo_14 rfl hl (by decide) rfl (fun ls hl => ?_)
    have J15 : ∀ (k : Nat) (i : Nat), (i + k = c0) → (∀ j, j < i → tk j = tk2 j) → ∀ (ls : Array Slot), lv_has ls 3 [(0, .ref h), (1, .ref h2), (2, .int (nI i))] → W pr l en (headSpec ws_Ro_equalTo { frames := 0, cells := 0, slots := 0, locals := 0 }).room s m ([.ref h, .ref h2] : List Value).toArray below meth c s.heap [] 0 0 (MQ below (vp_Si (fun r => ((c0 = c2 ∧ ∀ j, j < c0 → tk j = tk2 j) ∧ r = nI 1) ∨ (¬ (c0 = c2 ∧ ∀ j, j < c0 → tk j = tk2 j) ∧ r = nI 0))) ([.ref h, .ref h2] : List Value).toArray s 0 0 (fun _ => False)) (F0 m 15 ls []) := by
      intro k
      induction k with
      | zero =>
        intro i hk heq ls hl
        refine lv_iload_n hx hb d_Ro_equalTo_15 rfl (lv_at hl 2 rfl) ?_
        refine lv_aload_n hx hb d_Ro_equalTo_16 rfl (lv_at hl 0 rfl) ?_
        refine va_get (D := (dC, dI)) (ci := 5) (v := .int (nI c0)) (C := R_Ro) (T := F_Ro) (N := 3) hx hb htg iw_Ro hown hK hP 0 rfl rfl 1 (by decide) (htg _ k1_118) (fun _ h9 => h9) rfl d_Ro_equalTo_17 ?_
        refine bk_icmp_ge (a := i) (b := c0) (tgt := 46) hx hb (by omega) (by omega) d_Ro_equalTo_20 (by decide) (fun c20 => ?_) (fun c20 => by exfalso; omega)
        refine lv_iconst (v := nI 1) hx hb d_Ro_equalTo_46 (by decide +kernel) ?_
        exact W.zret (v := nI 1) (ty := .boolean) hx hb hr rfl (fun t9 ht9 hW9 => ⟨nI 1, rfl, Or.inl ⟨⟨c8, by rw [show i = c0 by omega] at heq; exact heq⟩, rfl⟩, ht9⟩) (fun q h => nomatch h) d_Ro_equalTo_47
      | succ k ih15 =>
        intro i hk heq ls hl
        have f1 := hb1 i (by omega)
        have f2 := hb2 i (by omega)
        refine lv_iload_n hx hb d_Ro_equalTo_15 rfl (lv_at hl 2 rfl) ?_
        refine lv_aload_n hx hb d_Ro_equalTo_16 rfl (lv_at hl 0 rfl) ?_
        refine va_get (D := (dC, dI)) (ci := 5) (v := .int (nI c0)) (C := R_Ro) (T := F_Ro) (N := 3) hx hb htg iw_Ro hown hK hP 0 rfl rfl 1 (by decide) (htg _ k1_118) (fun _ h9 => h9) rfl d_Ro_equalTo_17 ?_
        refine bk_icmp_ge (a := i) (b := c0) (tgt := 46) hx hb (by omega) (by omega) d_Ro_equalTo_20 (by decide) (fun c20 => by exfalso; omega) (fun c20 => ?_)
        refine lv_aload_n hx hb d_Ro_equalTo_23 rfl (lv_at hl 0 rfl) ?_
        refine va_get (D := (dC, dI)) (ci := 5) (v := .ref a1) (C := R_Ro) (T := F_Ro) (N := 3) hx hb htg iw_Ro hown hK hP 0 rfl rfl 0 (by decide) (htg _ k1_117) (fun _ h9 => h9) rfl d_Ro_equalTo_24 ?_
        refine lv_iload_n hx hb d_Ro_equalTo_27 rfl (lv_at hl 2 rfl) ?_
        refine bk_iald (v := nI (tk i)) hx hb hK hP 1 0 rfl rfl (by omega) (by decide) rfl d_Ro_equalTo_28 ?_
        refine lv_aload_n hx hb d_Ro_equalTo_29 rfl (lv_at hl 1 rfl) ?_
        refine va_get (D := (dC, dI)) (ci := 5) (v := .ref a2) (C := R_Ro) (T := F_Ro) (N := 3) hx hb htg iw_Ro hown hK hP 2 rfl rfl 0 (by decide) (htg _ k1_117) (fun _ h9 => h9) rfl d_Ro_equalTo_30 ?_
        refine lv_iload_n hx hb d_Ro_equalTo_33 rfl (lv_at hl 2 rfl) ?_
        refine bk_iald (v := nI (tk2 i)) hx hb hK hP 3 0 rfl rfl (by omega) (by decide) rfl d_Ro_equalTo_34 ?_
        refine bk_icmp_eq (a := tk i) (b := tk2 i) (tgt := 40) hx hb (by omega) (by omega) d_Ro_equalTo_35 (by decide) (fun c35 => ?_) (fun c35 => ?_)
        · refine lv_iinc (v := nI (i + 1)) (lv' := [(2, .int (nI (i + 1))), (0, .ref h), (1, .ref h2)]) hx hb d_Ro_equalTo_40 hl (k := 2) rfl (bk_inc i) (by decide) rfl (fun ls hl => ?_)
          refine lv_goto (tgt := 15) hx hb d_Ro_equalTo_43 (by decide) ?_
          exact ih15 (i + 1) (by omega) (lt_s heq c35) ls (lv_sub hl [1, 2, 0] rfl)
        · refine lv_iconst (v := nI 0) hx hb d_Ro_equalTo_38 (by decide +kernel) ?_
          exact W.zret (v := nI 0) (ty := .boolean) hx hb hr rfl (fun t9 ht9 hW9 => ⟨nI 0, rfl, Or.inr ⟨fun z9 => c35 (z9.2 i (by omega)), rfl⟩, ht9⟩) (fun q h => nomatch h) d_Ro_equalTo_39
    exact J15 c0 0 (by omega) (fun j hj => absurd hj (by omega)) ls (lv_sub hl [1, 2, 0] rfl)
  · refine lv_iconst (v := nI 0) hx hb d_Ro_equalTo_11 (by decide +kernel) ?_
    exact W.zret (v := nI 0) (ty := .boolean) hx hb hr rfl (fun t9 ht9 hW9 => ⟨nI 0, rfl, Or.inr ⟨fun z9 => c8 z9.1, rfl⟩, ht9⟩) (fun q h => nomatch h) d_Ro_equalTo_12
set_option maxHeartbeats 4000000 in
set_option maxRecDepth 100000 in
theorem c_Ac_after (l : Launch) (dC : Nat → ClassId) (dI : Nat → Nat → Nat) (cI cL cZ : ClassId) (now : Nat) (ev : Int32) (hnow : now ≤ 3) : Met l y_Ac_after ws_Ac_after { frames := 0, cells := 0, slots := 0, locals := 0 } (va_Pc [.int (nI now), .int ev] (fun _ => True)) (vp_Si (fun r => r = oI (aft now ev))) 0 0 (fun _ => False) := by
  refine Met.ofW (cc := b_Ac_after) (maxL := 2) (ret := (some .int)) (by decide) rfl ?_
  intro pr en s m args below meth c s₁ B hml hv
  obtain ⟨rfl, -⟩ := hv
  have hx := B.exec
  have hb := B.bytes
  have hr := B.returns
  have hts := atoms_spec (ws := ws_Ac_after) B.pre
  have htg : ∀ w ∈ gW, w.before _ s = true := fun w h => hts w (List.mem_cons_of_mem _ h)
  have hown : s.vm.findClass R_Ac = some m.cls := findClass_of_methodNamed B.named
  have hlocks := B.notSynchronized
  have hl := lv_entry ([.int (nI now), .int ev]) (n := 2) (Nat.le_of_ble_eq_true rfl)
  rw [lg_entry_eq]
  generalize (lg_sl ([.int (nI now), .int ev]) ++ List.replicate (2 - (lg_sl ([.int (nI now), .int ev])).length) Slot.unset).toArray = ls at hl ⊢
  have hl : lv_has ls 2 [(0, .int (nI now)), (1, .int ev)] := hl
  refine lv_iload_n hx hb d_Ac_after_0 rfl (lv_at hl 1 rfl) ?_
  rcases pk_ix ev (n := 4) (by decide) with t1 | t1 | ⟨jt, hjt, t1⟩
  · refine lv_tableOut (tgt := 78) hx hb d_Ac_after_1 (Or.inl (by rw [Int32.lt_iff_toInt_lt] at t1; exact t1)) (by decide) ?_
    refine lv_iconst (v := oI none) hx hb d_Ac_after_78 (by decide +kernel) ?_
    exact W.iret (v := oI none) hx hb hr (fun t9 ht9 hW9 => ⟨oI none, rfl, (by rw [aft_out (inR_neg (by decide) t1)]), ht9⟩) (fun q h => nomatch h) d_Ac_after_79
  · refine lv_tableOut (tgt := 78) hx hb d_Ac_after_1 (Or.inr (by rw [Int32.le_iff_toInt_le, nI_toInt (by decide)] at t1; omega)) (by decide) ?_
    refine lv_iconst (v := oI none) hx hb d_Ac_after_78 (by decide +kernel) ?_
    exact W.iret (v := oI none) hx hb hr (fun t9 ht9 hW9 => ⟨oI none, rfl, (by rw [aft_out (inR_big (by decide) t1)]), ht9⟩) (fun q h => nomatch h) d_Ac_after_79
  · rcases (show jt = 0 ∨ jt = 1 ∨ jt = 2 ∨ jt = 3 by omega) with rfl | rfl | rfl | rfl
    · refine bk_topi (y := nI 0) t1 ?_
      refine lv_tableIn (off := 31) (tgt := 32) hx hb d_Ac_after_1 (by decide) (by decide) (by decide) (by decide) ?_
      refine lv_iload_n hx hb d_Ac_after_32 rfl (lv_at hl 0 rfl) ?_
      refine lv_iconst (v := nI 3) hx hb d_Ac_after_33 (by decide +kernel) ?_
      refine bk_icmp_ge (a := now) (b := 3) (tgt := 43) hx hb (by omega) (by omega) d_Ac_after_34 (by decide) (fun c34 => ?_) (fun c34 => ?_)
      · refine lv_iconst (v := oI none) hx hb d_Ac_after_43 (by decide +kernel) ?_
        exact W.iret (v := oI none) hx hb hr (fun t9 ht9 hW9 => ⟨oI none, rfl, (by rw [t1, aft_0]; first | (rw [if_pos (by omega)]; done) | (rw [if_pos (by omega)]; rfl) | (rw [if_neg (by omega)]; done) | (rw [if_neg (by omega)]; rfl)), ht9⟩) (fun q h => nomatch h) d_Ac_after_44
      · refine lv_iload_n hx hb d_Ac_after_37 rfl (lv_at hl 0 rfl) ?_
        refine lv_iconst (v := nI 1) hx hb d_Ac_after_38 (by decide +kernel) ?_
        refine bk_iadd hx hb d_Ac_after_39 ?_
        refine lv_goto (tgt := 44) hx hb d_Ac_after_40 (by decide) ?_
        exact W.iret (v := nI (now + 1)) hx hb hr (fun t9 ht9 hW9 => ⟨nI (now + 1), rfl, (by rw [t1, aft_0]; first | (rw [if_pos (by omega)]; done) | (rw [if_pos (by omega)]; rfl) | (rw [if_neg (by omega)]; done) | (rw [if_neg (by omega)]; rfl)), ht9⟩) (fun q h => nomatch h) d_Ac_after_44
    · refine bk_topi (y := nI 1) t1 ?_
      refine lv_tableIn (off := 44) (tgt := 45) hx hb d_Ac_after_1 (by decide) (by decide) (by decide) (by decide) ?_
      refine lv_iload_n hx hb d_Ac_after_45 rfl (lv_at hl 0 rfl) ?_
      refine lv_iconst (v := nI 2) hx hb d_Ac_after_46 (by decide +kernel) ?_
      refine bk_icmp_ne (a := now) (b := 2) (tgt := 54) hx hb (by omega) (by omega) d_Ac_after_47 (by decide) (fun c47 => ?_) (fun c47 => ?_)
      · refine lv_iconst (v := oI none) hx hb d_Ac_after_54 (by decide +kernel) ?_
        exact W.iret (v := oI none) hx hb hr (fun t9 ht9 hW9 => ⟨oI none, rfl, (by rw [t1, aft_1]; first | (rw [if_pos (by omega)]; done) | (rw [if_pos (by omega)]; rfl) | (rw [if_neg (by omega)]; done) | (rw [if_neg (by omega)]; rfl)), ht9⟩) (fun q h => nomatch h) d_Ac_after_55
      · refine lv_iconst (v := nI 1) hx hb d_Ac_after_50 (by decide +kernel) ?_
        refine lv_goto (tgt := 55) hx hb d_Ac_after_51 (by decide) ?_
        exact W.iret (v := nI 1) hx hb hr (fun t9 ht9 hW9 => ⟨nI 1, rfl, (by rw [t1, aft_1]; first | (rw [if_pos (by omega)]; done) | (rw [if_pos (by omega)]; rfl) | (rw [if_neg (by omega)]; done) | (rw [if_neg (by omega)]; rfl)), ht9⟩) (fun q h => nomatch h) d_Ac_after_55
    · refine bk_topi (y := nI 2) t1 ?_
      refine lv_tableIn (off := 55) (tgt := 56) hx hb d_Ac_after_1 (by decide) (by decide) (by decide) (by decide) ?_
      refine lv_iload_n hx hb d_Ac_after_56 rfl (lv_at hl 0 rfl) ?_
      refine lv_iconst (v := nI 3) hx hb d_Ac_after_57 (by decide +kernel) ?_
      refine bk_icmp_ne (a := now) (b := 3) (tgt := 65) hx hb (by omega) (by omega) d_Ac_after_58 (by decide) (fun c58 => ?_) (fun c58 => ?_)
      · refine lv_iconst (v := oI none) hx hb d_Ac_after_65 (by decide +kernel) ?_
        exact W.iret (v := oI none) hx hb hr (fun t9 ht9 hW9 => ⟨oI none, rfl, (by rw [t1, aft_2]; first | (rw [if_pos (by omega)]; done) | (rw [if_pos (by omega)]; rfl) | (rw [if_neg (by omega)]; done) | (rw [if_neg (by omega)]; rfl)), ht9⟩) (fun q h => nomatch h) d_Ac_after_66
      · refine lv_iconst (v := nI 2) hx hb d_Ac_after_61 (by decide +kernel) ?_
        refine lv_goto (tgt := 66) hx hb d_Ac_after_62 (by decide) ?_
        exact W.iret (v := nI 2) hx hb hr (fun t9 ht9 hW9 => ⟨nI 2, rfl, (by rw [t1, aft_2]; first | (rw [if_pos (by omega)]; done) | (rw [if_pos (by omega)]; rfl) | (rw [if_neg (by omega)]; done) | (rw [if_neg (by omega)]; rfl)), ht9⟩) (fun q h => nomatch h) d_Ac_after_66
    · refine bk_topi (y := nI 3) t1 ?_
      refine lv_tableIn (off := 66) (tgt := 67) hx hb d_Ac_after_1 (by decide) (by decide) (by decide) (by decide) ?_
      refine lv_iload_n hx hb d_Ac_after_67 rfl (lv_at hl 0 rfl) ?_
      refine lv_iconst (v := nI 1) hx hb d_Ac_after_68 (by decide +kernel) ?_
      refine bk_icmp_ne (a := now) (b := 1) (tgt := 76) hx hb (by omega) (by omega) d_Ac_after_69 (by decide) (fun c69 => ?_) (fun c69 => ?_)
      · refine lv_iconst (v := oI none) hx hb d_Ac_after_76 (by decide +kernel) ?_
        exact W.iret (v := oI none) hx hb hr (fun t9 ht9 hW9 => ⟨oI none, rfl, (by rw [t1, aft_3]; first | (rw [if_pos (by omega)]; done) | (rw [if_pos (by omega)]; rfl) | (rw [if_neg (by omega)]; done) | (rw [if_neg (by omega)]; rfl)), ht9⟩) (fun q h => nomatch h) d_Ac_after_77
      · refine lv_iconst (v := nI 0) hx hb d_Ac_after_72 (by decide +kernel) ?_
        refine lv_goto (tgt := 77) hx hb d_Ac_after_73 (by decide) ?_
        exact W.iret (v := nI 0) hx hb hr (fun t9 ht9 hW9 => ⟨nI 0, rfl, (by rw [t1, aft_3]; first | (rw [if_pos (by omega)]; done) | (rw [if_pos (by omega)]; rfl) | (rw [if_neg (by omega)]; done) | (rw [if_neg (by omega)]; rfl)), ht9⟩) (fun q h => nomatch h) d_Ac_after_77
set_option maxHeartbeats 4000000 in
set_option maxRecDepth 100000 in
theorem c_Ac_tell (l : Launch) (dC : Nat → ClassId) (dI : Nat → Nat → Nat) (cI cL cZ : ClassId) (sz : Nat) (h a1 a2 a3 : Nat) (sa wr : Nat → Nat) (pe : Nat → Option Nat) (x1 x2 x3 : Int32) (hsa : ∀ j, j < 10 → sa j ≤ 3) (hpe : ∀ j k, pe j = some k → k < 100) : Met l y_Ac_tell ws_Ac_tell { frames := 1, cells := 0, slots := 0, locals := 21 } (va_Pc [.ref h, .int x1, .int x2, .int x3] (wrP (dC, dI) vwCl [(cI, .int), (cL, .long), (cZ, .boolean)] [(h, .inr (7, [.ref a1, .ref a2, .ref a3])), (a1, .inl (cI, 10, .inl (aI sa))), (a2, .inl (cI, 10, .inl (aI wr))), (a3, .inl (cI, 10, .inl (aO pe)))] sz)) (va_Qi (fun (r : Int32) (u : (Nat → Nat) × (Nat → Nat) × (Nat → Option Nat)) => (∃ to, actOk sa pe x1 x2 x3 to ∧ r = nI to ∧ u = (va_up sa (tn x1) to, (if x2 = nI 0 then va_up wr (tn x1) (wr (tn x1) + 1) else wr), va_up pe (tn x1) (some (tn x3)))) ∨ ((∀ to, ¬ actOk sa pe x1 x2 x3 to) ∧ r = oI none ∧ u = (sa, wr, pe))) (fun (u : (Nat → Nat) × (Nat → Nat) × (Nat → Option Nat)) => wrQ (dC, dI) vwCl [(cI, .int), (cL, .long), (cZ, .boolean)] (va_A [(h, .inr (7, [.ref a1, .ref a2, .ref a3])), (a1, .inl (cI, 10, .inl (aI sa))), (a2, .inl (cI, 10, .inl (aI wr))), (a3, .inl (cI, 10, .inl (aO pe)))] sz) [(h, .inr (7, [.ref a1, .ref a2, .ref a3])), (a1, .inl (cI, 10, .inl (aI u.1))), (a2, .inl (cI, 10, .inl (aI u.2.1))), (a3, .inl (cI, 10, .inl (aO u.2.2)))]) (va_A [(h, .inr (7, [.ref a1, .ref a2, .ref a3])), (a1, .inl (cI, 10, .inl (aI sa))), (a2, .inl (cI, 10, .inl (aI wr))), (a3, .inl (cI, 10, .inl (aO pe)))] sz)) 0 0 (va_A [(h, .inr (7, [.ref a1, .ref a2, .ref a3])), (a1, .inl (cI, 10, .inl (aI sa))), (a2, .inl (cI, 10, .inl (aI wr))), (a3, .inl (cI, 10, .inl (aO pe)))] sz) := by
  refine Met.ofW (cc := b_Ac_tell) (maxL := 5) (ret := (some .int)) (by decide) rfl ?_
  intro pr en s m args below meth c s₁ B hml hv
  obtain ⟨rfl, hN, hsz, hP, hK, hD0⟩ := hv
  have hx := B.exec
  have hb := B.bytes
  have hr := B.returns
  have hts := atoms_spec (ws := ws_Ac_tell) B.pre
  have htg : ∀ w ∈ gW, w.before _ s = true := fun w h => hts w (List.mem_cons_of_mem _ h)
  have hown : s.vm.findClass R_Ac = some m.cls := findClass_of_methodNamed B.named
  have hlocks := B.notSynchronized
  subst hsz
  have hD := hD0.self (sz := s.heap.size)
  generalize hAe : va_A [(h, .inr (7, [.ref a1, .ref a2, .ref a3])), (a1, .inl (cI, 10, .inl (aI sa))), (a2, .inl (cI, 10, .inl (aI wr))), (a3, .inl (cI, 10, .inl (aO pe)))] s.heap.size = A at hD ⊢
  have hA : ∀ q : Nat, s.heap.size ≤ q → A q := fun q h => by rw [← hAe]; exact Or.inr h
  have hS : va_S A s.heap s.heap [] := va_S.rf
  have hP : va_P (dC, dI) vwCl [(h, .inr (7, [.ref a1, .ref a2, .ref a3])), (a1, .inl (cI, 10, .inl (aI sa))), (a2, .inl (cI, 10, .inl (aI wr))), (a3, .inl (cI, 10, .inl (aO pe)))] s.heap := hP
  have hl := lv_entry ([.ref h, .int x1, .int x2, .int x3]) (n := 5) (Nat.le_of_ble_eq_true rfl)
  rw [lg_entry_eq]
  generalize (lg_sl ([.ref h, .int x1, .int x2, .int x3]) ++ List.replicate (5 - (lg_sl ([.ref h, .int x1, .int x2, .int x3])).length) Slot.unset).toArray = ls at hl ⊢
  have hl : lv_has ls 5 [(0, .ref h), (1, .int x1), (2, .int x2), (3, .int x3)] := hl
  refine lv_iload_n hx hb d_Ac_tell_0 rfl (lv_at hl 1 rfl) ?_
  refine vp_callSi (va_runSN (As := [.int x1]) (rest := []) ⟨hx, hb, hml, hown, htg⟩ (c_B_isShip l dC dI cI cL cZ x1 ) ⟨va_cnB 1 htg (gd kc_B_isShip) rfl rfl rfl (hN _ (List.mem_of_getElem? (i := 11) rfl)) (htg _ k1_1) (by decide +kernel) ⟨Nat.le_of_ble_eq_true rfl, Nat.le_of_ble_eq_true rfl⟩, htg _ k1_197, trivial⟩ ⟨bk_blind0, fun U hU hW => ⟨rfl, trivial⟩⟩ rfl rfl hl.1 rfl (lv_room (Nat.le_of_ble_eq_true rfl)) d_Ac_tell_1 ⟨Nat.le_of_ble_eq_true rfl, Nat.le_of_ble_eq_true rfl⟩).run (fun r1 e1 => ?_)
  rcases e1 with ⟨⟨j1, hj1, hx1⟩, rfl⟩ | ⟨n1, rfl⟩
  · refine bk_if_eq (a := 1) (tgt := 27) hx hb (by omega) d_Ac_tell_4 (by decide) (fun c4 => absurd c4 (by decide)) (fun c4 => ?_)
    refine lv_iload_n hx hb d_Ac_tell_7 rfl (lv_at hl 3 rfl) ?_
    refine lv_if_lt (x := x3) (tgt := 27) hx hb d_Ac_tell_8 (by decide) (fun c8 => ?_) (fun c8 => ?_)
    · refine lv_iconst (v := oI none) hx hb d_Ac_tell_27 (by decide +kernel) ?_
      have hP9 := hP.sub (ws' := [(h, .inr (7, [.ref a1, .ref a2, .ref a3])), (a1, .inl (cI, 10, .inl (aI sa))), (a2, .inl (cI, 10, .inl (aI wr))), (a3, .inl (cI, 10, .inl (aO pe)))]) [0, 1, 2, 3] rfl
      have hD9 := hD.sub (ws' := [(h, .inr (7, [.ref a1, .ref a2, .ref a3])), (a1, .inl (cI, 10, .inl (aI sa))), (a2, .inl (cI, 10, .inl (aI wr))), (a3, .inl (cI, 10, .inl (aO pe)))]) [0, 1, 2, 3] (by decide) rfl
      exact W.iret (v := oI none) hx hb hr (fun t9 ht9 hW9 => ⟨⟨oI none, (sa, wr, pe), rfl, Or.inr ⟨fun to z9 => by obtain ⟨y1, y2, y3, y4⟩ := z9; first | exact n1 y1 | exact absurd y2 (inR_neg (by decide) c8) | exact absurd y2 (inR_big (by decide) c14) | (rw [hx1, hxq, tn_nI (by omega), tn_nI (by omega)] at y3; exact y3 c24) | (rw [hx1, tn_nI (by omega), hto] at y4; cases y4), rfl, rfl⟩, by rw [ht9]; exact hP9, va_K.moved hW9.alike hK, hD9⟩, hS.F ht9⟩) hS.2.2 d_Ac_tell_28
    · refine lv_iload_n hx hb d_Ac_tell_11 rfl (lv_at hl 3 rfl) ?_
      refine lv_bipush (v := nI 100) hx hb d_Ac_tell_12 (by decide +kernel) ?_
      refine lv_icmp_ge (x := x3) (y := nI 100) (tgt := 27) hx hb d_Ac_tell_14 (by decide) (fun c14 => ?_) (fun c14 => ?_)
      · refine lv_iconst (v := oI none) hx hb d_Ac_tell_27 (by decide +kernel) ?_
        have hP9 := hP.sub (ws' := [(h, .inr (7, [.ref a1, .ref a2, .ref a3])), (a1, .inl (cI, 10, .inl (aI sa))), (a2, .inl (cI, 10, .inl (aI wr))), (a3, .inl (cI, 10, .inl (aO pe)))]) [0, 1, 2, 3] rfl
        have hD9 := hD.sub (ws' := [(h, .inr (7, [.ref a1, .ref a2, .ref a3])), (a1, .inl (cI, 10, .inl (aI sa))), (a2, .inl (cI, 10, .inl (aI wr))), (a3, .inl (cI, 10, .inl (aO pe)))]) [0, 1, 2, 3] (by decide) rfl
        exact W.iret (v := oI none) hx hb hr (fun t9 ht9 hW9 => ⟨⟨oI none, (sa, wr, pe), rfl, Or.inr ⟨fun to z9 => by obtain ⟨y1, y2, y3, y4⟩ := z9; first | exact n1 y1 | exact absurd y2 (inR_neg (by decide) c8) | exact absurd y2 (inR_big (by decide) c14) | (rw [hx1, hxq, tn_nI (by omega), tn_nI (by omega)] at y3; exact y3 c24) | (rw [hx1, tn_nI (by omega), hto] at y4; cases y4), rfl, rfl⟩, by rw [ht9]; exact hP9, va_K.moved hW9.alike hK, hD9⟩, hS.F ht9⟩) hS.2.2 d_Ac_tell_28
      · obtain ⟨q, hq, hxq⟩ := inR_of (n := 100) (by decide) c8 c14
        have hs1 := hsa j1 hj1
        refine lv_aload_n hx hb d_Ac_tell_17 rfl (lv_at hl 0 rfl) ?_
        refine va_get (D := (dC, dI)) (ci := 7) (v := .ref a3) (C := R_Ac) (T := F_Ac) (N := 3) hx hb htg iw_Ac hown hK hP 0 rfl rfl 2 (by decide) (htg _ k1_149) (fun _ h9 => h9) rfl d_Ac_tell_18 ?_
        refine lv_iload_n hx hb d_Ac_tell_21 rfl (lv_at hl 1 rfl) ?_
        refine bk_topi (y := nI j1) hx1 ?_
        refine bk_iald (v := oI (pe j1)) hx hb hK hP 3 0 rfl rfl (by omega) (by decide) rfl d_Ac_tell_22 ?_
        refine lv_iload_n hx hb d_Ac_tell_23 rfl (lv_at hl 3 rfl) ?_
        refine bk_topi (y := nI q) hxq ?_
        refine bk_ocmpn_ne (r := pe j1) (k := q) (tgt := 29) hx hb (fun k h => by have := hpe _ k h; omega) (by omega) d_Ac_tell_24 (by decide) (fun c24 => ?_) (fun c24 => ?_)
        · refine lv_aload_n hx hb d_Ac_tell_29 rfl (lv_at hl 0 rfl) ?_
          refine va_get (D := (dC, dI)) (ci := 7) (v := .ref a1) (C := R_Ac) (T := F_Ac) (N := 3) hx hb htg iw_Ac hown hK hP 0 rfl rfl 0 (by decide) (htg _ k1_145) (fun _ h9 => h9) rfl d_Ac_tell_30 ?_
          refine lv_iload_n hx hb d_Ac_tell_33 rfl (lv_at hl 1 rfl) ?_
          refine bk_topi (y := nI j1) hx1 ?_
          refine bk_iald (v := nI (sa j1)) hx hb hK hP 1 0 rfl rfl (by omega) (by decide) rfl d_Ac_tell_34 ?_
          refine lv_iload_n hx hb d_Ac_tell_35 rfl (lv_at hl 2 rfl) ?_
          refine vp_callSi (va_runS (As := [.int (nI (sa j1)), .int x2]) (rest := []) ⟨hx, hb, hml, hown, htg⟩ (c_Ac_after l dC dI cI cL cZ (sa j1) x2 hs1) (va_cwS 2 htg (gdS k2_196 k2_197 k1_8 kc_Ac_after) rfl rfl rfl (by decide +kernel) ⟨Nat.le_of_ble_eq_true rfl, Nat.le_of_ble_eq_true rfl⟩) ⟨bk_blind0, fun U hU hW => ⟨rfl, trivial⟩⟩ rfl rfl hl.1 rfl (lv_room (Nat.le_of_ble_eq_true rfl)) d_Ac_tell_36 ⟨Nat.le_of_ble_eq_true rfl, Nat.le_of_ble_eq_true rfl⟩).run (fun r36 e36 => ?_)
          subst e36
          rcases hto : aft (sa j1) x2 with _ | to
          · refine lv_istore (lv' := [(4, .int (oI none)), (0, .ref h), (1, .int x1), (2, .int x2), (3, .int x3)]) hx hb d_Ac_tell_39 hl (by decide) rfl (fun ls hl => ?_)
            refine lv_iload hx hb d_Ac_tell_41 (lv_at hl 0 rfl) ?_
            refine lv_iconst (v := oI none) hx hb d_Ac_tell_43 (by decide +kernel) ?_
            refine bk_ocmp_ne (r := none) (tgt := 49) hx hb (by intro k h; cases h) d_Ac_tell_44 (by decide) (fun c44 => absurd rfl c44) (fun c44 => ?_)
            refine lv_iconst (v := oI none) hx hb d_Ac_tell_47 (by decide +kernel) ?_
            have hP9 := hP.sub (ws' := [(h, .inr (7, [.ref a1, .ref a2, .ref a3])), (a1, .inl (cI, 10, .inl (aI sa))), (a2, .inl (cI, 10, .inl (aI wr))), (a3, .inl (cI, 10, .inl (aO pe)))]) [0, 1, 2, 3] rfl
            have hD9 := hD.sub (ws' := [(h, .inr (7, [.ref a1, .ref a2, .ref a3])), (a1, .inl (cI, 10, .inl (aI sa))), (a2, .inl (cI, 10, .inl (aI wr))), (a3, .inl (cI, 10, .inl (aO pe)))]) [0, 1, 2, 3] (by decide) rfl
            exact W.iret (v := oI none) hx hb hr (fun t9 ht9 hW9 => ⟨⟨oI none, (sa, wr, pe), rfl, Or.inr ⟨fun to z9 => by obtain ⟨y1, y2, y3, y4⟩ := z9; first | exact n1 y1 | exact absurd y2 (inR_neg (by decide) c8) | exact absurd y2 (inR_big (by decide) c14) | (rw [hx1, hxq, tn_nI (by omega), tn_nI (by omega)] at y3; exact y3 c24) | (rw [hx1, tn_nI (by omega), hto] at y4; cases y4), rfl, rfl⟩, by rw [ht9]; exact hP9, va_K.moved hW9.alike hK, hD9⟩, hS.F ht9⟩) hS.2.2 d_Ac_tell_48
          · have hle := aft_le hto
            refine bk_topi (y := nI to) rfl ?_
            refine lv_istore (lv' := [(4, .int (nI to)), (0, .ref h), (1, .int x1), (2, .int x2), (3, .int x3)]) hx hb d_Ac_tell_39 hl (by decide) rfl (fun ls hl => ?_)
            refine lv_iload hx hb d_Ac_tell_41 (lv_at hl 0 rfl) ?_
            refine lv_iconst (v := oI none) hx hb d_Ac_tell_43 (by decide +kernel) ?_
            refine bk_ocmp_ne (r := some to) (tgt := 49) hx hb (by intro k h; cases h; omega) d_Ac_tell_44 (by decide) (fun c44 => ?_) (fun c44 => nomatch c44)
            refine lv_aload_n hx hb d_Ac_tell_49 rfl (lv_at hl 1 rfl) ?_
            refine va_get (D := (dC, dI)) (ci := 7) (v := .ref a1) (C := R_Ac) (T := F_Ac) (N := 3) hx hb htg iw_Ac hown hK hP 0 rfl rfl 0 (by decide) (htg _ k1_145) (fun _ h9 => h9) rfl d_Ac_tell_50 ?_
            refine lv_iload_n hx hb d_Ac_tell_53 rfl (lv_at hl 2 rfl) ?_
            refine bk_topi (y := nI j1) hx1 ?_
            refine lv_iload hx hb d_Ac_tell_54 (lv_at hl 0 rfl) ?_
            refine bk_iast (x := nI to) (f2 := aI (va_up sa j1 to)) hx hb hK hP hD hS 1 0 rfl rfl (by omega) (by decide) (aI_up _ _ _) d_Ac_tell_56 (fun H locs hP hD hS => ?_)
            have hP : va_P (dC, dI) vwCl [(h, .inr (7, [.ref a1, .ref a2, .ref a3])), (a1, .inl (cI, 10, .inl (aI (va_up sa j1 to)))), (a2, .inl (cI, 10, .inl (aI wr))), (a3, .inl (cI, 10, .inl (aO pe)))] H := hP
            have hD : va_D A [(h, .inr (7, [.ref a1, .ref a2, .ref a3])), (a1, .inl (cI, 10, .inl (aI (va_up sa j1 to)))), (a2, .inl (cI, 10, .inl (aI wr))), (a3, .inl (cI, 10, .inl (aO pe)))] := hD
            refine lv_aload_n hx hb d_Ac_tell_57 rfl (lv_at hl 1 rfl) ?_
            refine va_get (D := (dC, dI)) (ci := 7) (v := .ref a3) (C := R_Ac) (T := F_Ac) (N := 3) hx hb htg iw_Ac hown hK hP 0 rfl rfl 2 (by decide) (htg _ k1_149) (fun _ h9 => h9) rfl d_Ac_tell_58 ?_
            refine lv_iload_n hx hb d_Ac_tell_61 rfl (lv_at hl 2 rfl) ?_
            refine bk_topi (y := nI j1) hx1 ?_
            refine lv_iload_n hx hb d_Ac_tell_62 rfl (lv_at hl 4 rfl) ?_
            refine bk_topi (y := nI q) hxq ?_
            refine bk_iast (x := nI q) (f2 := aO (va_up pe j1 (some q))) hx hb hK hP hD hS 3 0 rfl rfl (by omega) (by decide) (aO_up _ _ (some q)) d_Ac_tell_63 (fun H locs hP hD hS => ?_)
            have hP : va_P (dC, dI) vwCl [(h, .inr (7, [.ref a1, .ref a2, .ref a3])), (a1, .inl (cI, 10, .inl (aI (va_up sa j1 to)))), (a2, .inl (cI, 10, .inl (aI wr))), (a3, .inl (cI, 10, .inl (aO (va_up pe j1 (some q)))))] H := hP
            have hD : va_D A [(h, .inr (7, [.ref a1, .ref a2, .ref a3])), (a1, .inl (cI, 10, .inl (aI (va_up sa j1 to)))), (a2, .inl (cI, 10, .inl (aI wr))), (a3, .inl (cI, 10, .inl (aO (va_up pe j1 (some q)))))] := hD
            refine lv_iload_n hx hb d_Ac_tell_64 rfl (lv_at hl 3 rfl) ?_
            refine lv_if_ne (x := x2) (tgt := 78) hx hb d_Ac_tell_65 (by decide) (fun c65 => ?_) (fun c65 => ?_)
            · refine lv_iload hx hb d_Ac_tell_78 (lv_at hl 0 rfl) ?_
              have e1 : tn x1 = j1 := by rw [hx1, tn_nI (by omega)]
              have e3 : tn x3 = q := by rw [hxq, tn_nI (by omega)]
              have hP9 := hP.sub (ws' := [(h, .inr (7, [.ref a1, .ref a2, .ref a3])), (a1, .inl (cI, 10, .inl (aI (va_up sa j1 to)))), (a2, .inl (cI, 10, .inl (aI wr))), (a3, .inl (cI, 10, .inl (aO (va_up pe j1 (some q)))))]) [0, 1, 2, 3] rfl
              have hD9 := hD.sub (ws' := [(h, .inr (7, [.ref a1, .ref a2, .ref a3])), (a1, .inl (cI, 10, .inl (aI (va_up sa j1 to)))), (a2, .inl (cI, 10, .inl (aI wr))), (a3, .inl (cI, 10, .inl (aO (va_up pe j1 (some q)))))]) [0, 1, 2, 3] (by decide) rfl
              exact W.iret (v := nI to) hx hb hr (fun t9 ht9 hW9 => ⟨⟨nI to, (va_up sa j1 to, wr, va_up pe j1 (some q)), rfl, Or.inl ⟨to, ⟨⟨j1, hj1, hx1⟩, ⟨q, hq, hxq⟩, by rw [e1, e3]; exact c24, by rw [e1]; exact hto⟩, rfl, by rw [e1, e3]; first | (rw [if_pos (show x2 = nI 0 from c65)]; done) | (rw [if_neg (show ¬ x2 = nI 0 from c65)]; done)⟩, by rw [ht9]; exact hP9, va_K.moved hW9.alike hK, hD9⟩, hS.F ht9⟩) hS.2.2 d_Ac_tell_80
            · refine lv_aload_n hx hb d_Ac_tell_68 rfl (lv_at hl 1 rfl) ?_
              refine va_get (D := (dC, dI)) (ci := 7) (v := .ref a2) (C := R_Ac) (T := F_Ac) (N := 3) hx hb htg iw_Ac hown hK hP 0 rfl rfl 1 (by decide) (htg _ k1_147) (fun _ h9 => h9) rfl d_Ac_tell_69 ?_
              refine lv_iload_n hx hb d_Ac_tell_72 rfl (lv_at hl 2 rfl) ?_
              refine bk_topi (y := nI j1) hx1 ?_
              refine lv_dup2_11 hx hb d_Ac_tell_73 rfl rfl ?_
              refine bk_iald (v := nI (wr j1)) hx hb hK hP 2 0 rfl rfl (by omega) (by decide) rfl d_Ac_tell_74 ?_
              refine lv_iconst (v := nI 1) hx hb d_Ac_tell_75 (by decide +kernel) ?_
              refine bk_iadd hx hb d_Ac_tell_76 ?_
              refine bk_iast (x := nI ((wr j1) + 1)) (f2 := aI (va_up wr j1 ((wr j1) + 1))) hx hb hK hP hD hS 2 0 rfl rfl (by omega) (by decide) (aI_up _ _ _) d_Ac_tell_77 (fun H locs hP hD hS => ?_)
              have hP : va_P (dC, dI) vwCl [(h, .inr (7, [.ref a1, .ref a2, .ref a3])), (a1, .inl (cI, 10, .inl (aI (va_up sa j1 to)))), (a2, .inl (cI, 10, .inl (aI (va_up wr j1 ((wr j1) + 1))))), (a3, .inl (cI, 10, .inl (aO (va_up pe j1 (some q)))))] H := hP
              have hD : va_D A [(h, .inr (7, [.ref a1, .ref a2, .ref a3])), (a1, .inl (cI, 10, .inl (aI (va_up sa j1 to)))), (a2, .inl (cI, 10, .inl (aI (va_up wr j1 ((wr j1) + 1))))), (a3, .inl (cI, 10, .inl (aO (va_up pe j1 (some q)))))] := hD
              refine lv_iload hx hb d_Ac_tell_78 (lv_at hl 0 rfl) ?_
              have e1 : tn x1 = j1 := by rw [hx1, tn_nI (by omega)]
              have e3 : tn x3 = q := by rw [hxq, tn_nI (by omega)]
              have hP9 := hP.sub (ws' := [(h, .inr (7, [.ref a1, .ref a2, .ref a3])), (a1, .inl (cI, 10, .inl (aI (va_up sa j1 to)))), (a2, .inl (cI, 10, .inl (aI (va_up wr j1 ((wr j1) + 1))))), (a3, .inl (cI, 10, .inl (aO (va_up pe j1 (some q)))))]) [0, 1, 2, 3] rfl
              have hD9 := hD.sub (ws' := [(h, .inr (7, [.ref a1, .ref a2, .ref a3])), (a1, .inl (cI, 10, .inl (aI (va_up sa j1 to)))), (a2, .inl (cI, 10, .inl (aI (va_up wr j1 ((wr j1) + 1))))), (a3, .inl (cI, 10, .inl (aO (va_up pe j1 (some q)))))]) [0, 1, 2, 3] (by decide) rfl
              exact W.iret (v := nI to) hx hb hr (fun t9 ht9 hW9 => ⟨⟨nI to, (va_up sa j1 to, va_up wr j1 ((wr j1) + 1), va_up pe j1 (some q)), rfl, Or.inl ⟨to, ⟨⟨j1, hj1, hx1⟩, ⟨q, hq, hxq⟩, by rw [e1, e3]; exact c24, by rw [e1]; exact hto⟩, rfl, by rw [e1, e3]; first | (rw [if_pos (show x2 = nI 0 from c65)]; done) | (rw [if_neg (show ¬ x2 = nI 0 from c65)]; done)⟩, by rw [ht9]; exact hP9, va_K.moved hW9.alike hK, hD9⟩, hS.F ht9⟩) hS.2.2 d_Ac_tell_80
        · refine lv_iconst (v := oI none) hx hb d_Ac_tell_27 (by decide +kernel) ?_
          have hP9 := hP.sub (ws' := [(h, .inr (7, [.ref a1, .ref a2, .ref a3])), (a1, .inl (cI, 10, .inl (aI sa))), (a2, .inl (cI, 10, .inl (aI wr))), (a3, .inl (cI, 10, .inl (aO pe)))]) [0, 1, 2, 3] rfl
          have hD9 := hD.sub (ws' := [(h, .inr (7, [.ref a1, .ref a2, .ref a3])), (a1, .inl (cI, 10, .inl (aI sa))), (a2, .inl (cI, 10, .inl (aI wr))), (a3, .inl (cI, 10, .inl (aO pe)))]) [0, 1, 2, 3] (by decide) rfl
          exact W.iret (v := oI none) hx hb hr (fun t9 ht9 hW9 => ⟨⟨oI none, (sa, wr, pe), rfl, Or.inr ⟨fun to z9 => by obtain ⟨y1, y2, y3, y4⟩ := z9; first | exact n1 y1 | exact absurd y2 (inR_neg (by decide) c8) | exact absurd y2 (inR_big (by decide) c14) | (rw [hx1, hxq, tn_nI (by omega), tn_nI (by omega)] at y3; exact y3 c24) | (rw [hx1, tn_nI (by omega), hto] at y4; cases y4), rfl, rfl⟩, by rw [ht9]; exact hP9, va_K.moved hW9.alike hK, hD9⟩, hS.F ht9⟩) hS.2.2 d_Ac_tell_28
  · refine bk_if_eq (a := 0) (tgt := 27) hx hb (by omega) d_Ac_tell_4 (by decide) (fun c4 => ?_) (fun c4 => absurd c4 (by decide))
    refine lv_iconst (v := oI none) hx hb d_Ac_tell_27 (by decide +kernel) ?_
    have hP9 := hP.sub (ws' := [(h, .inr (7, [.ref a1, .ref a2, .ref a3])), (a1, .inl (cI, 10, .inl (aI sa))), (a2, .inl (cI, 10, .inl (aI wr))), (a3, .inl (cI, 10, .inl (aO pe)))]) [0, 1, 2, 3] rfl
    have hD9 := hD.sub (ws' := [(h, .inr (7, [.ref a1, .ref a2, .ref a3])), (a1, .inl (cI, 10, .inl (aI sa))), (a2, .inl (cI, 10, .inl (aI wr))), (a3, .inl (cI, 10, .inl (aO pe)))]) [0, 1, 2, 3] (by decide) rfl
    exact W.iret (v := oI none) hx hb hr (fun t9 ht9 hW9 => ⟨⟨oI none, (sa, wr, pe), rfl, Or.inr ⟨fun to z9 => by obtain ⟨y1, y2, y3, y4⟩ := z9; first | exact n1 y1 | exact absurd y2 (inR_neg (by decide) c8) | exact absurd y2 (inR_big (by decide) c14) | (rw [hx1, hxq, tn_nI (by omega), tn_nI (by omega)] at y3; exact y3 c24) | (rw [hx1, tn_nI (by omega), hto] at y4; cases y4), rfl, rfl⟩, by rw [ht9]; exact hP9, va_K.moved hW9.alike hK, hD9⟩, hS.F ht9⟩) hS.2.2 d_Ac_tell_28
set_option maxHeartbeats 4000000 in
set_option maxRecDepth 100000 in
theorem c_Ri_set (l : Launch) (dC : Nat → ClassId) (dI : Nat → Nat → Nat) (cI cL cZ : ClassId) (sz : Nat) (h a1 a2 : Nat) (wt : Nat → Nat) (x1 x2 x3 : Int32) : Met l y_Ri_set ws_Ri_set { frames := 1, cells := 0, slots := 0, locals := 20 } (va_Pc [.ref h, .int x1, .int x2, .int x3] (wrP (dC, dI) vwCl [(cI, .int), (cL, .long), (cZ, .boolean)] [(h, .inr (4, [.ref a1, .ref a2])), (a1, .inl (cI, 10, .inl (aI wt)))] sz)) (va_Qi (fun (r : Int32) (u : (Nat → Nat) × Nat) => (setOk x1 x2 x3 ∧ r = nI 1 ∧ u = (va_up wt (tn x1) (2520 / tn x3 * tn x2), 0)) ∨ (¬ setOk x1 x2 x3 ∧ r = nI 0 ∧ u = (wt, 0))) (fun (u : (Nat → Nat) × Nat) => wrQ (dC, dI) vwCl [(cI, .int), (cL, .long), (cZ, .boolean)] (va_A [(h, .inr (4, [.ref a1, .ref a2])), (a1, .inl (cI, 10, .inl (aI wt)))] sz) [(h, .inr (4, [.ref a1, .ref a2])), (a1, .inl (cI, 10, .inl (aI u.1)))]) (va_A [(h, .inr (4, [.ref a1, .ref a2])), (a1, .inl (cI, 10, .inl (aI wt)))] sz)) 0 0 (va_A [(h, .inr (4, [.ref a1, .ref a2])), (a1, .inl (cI, 10, .inl (aI wt)))] sz) := by
  refine Met.ofW (cc := b_Ri_set) (maxL := 4) (ret := (some .boolean)) (by decide) rfl ?_
  intro pr en s m args below meth c s₁ B hml hv
  obtain ⟨rfl, hN, hsz, hP, hK, hD0⟩ := hv
  have hx := B.exec
  have hb := B.bytes
  have hr := B.returns
  have hts := atoms_spec (ws := ws_Ri_set) B.pre
  have htg : ∀ w ∈ gW, w.before _ s = true := fun w h => hts w (List.mem_cons_of_mem _ h)
  have hown : s.vm.findClass R_Ri = some m.cls := findClass_of_methodNamed B.named
  have hlocks := B.notSynchronized
  subst hsz
  have hD := hD0.self (sz := s.heap.size)
  generalize hAe : va_A [(h, .inr (4, [.ref a1, .ref a2])), (a1, .inl (cI, 10, .inl (aI wt)))] s.heap.size = A at hD ⊢
  have hA : ∀ q : Nat, s.heap.size ≤ q → A q := fun q h => by rw [← hAe]; exact Or.inr h
  have hS : va_S A s.heap s.heap [] := va_S.rf
  have hP : va_P (dC, dI) vwCl [(h, .inr (4, [.ref a1, .ref a2])), (a1, .inl (cI, 10, .inl (aI wt)))] s.heap := hP
  have hl := lv_entry ([.ref h, .int x1, .int x2, .int x3]) (n := 4) (Nat.le_of_ble_eq_true rfl)
  rw [lg_entry_eq]
  generalize (lg_sl ([.ref h, .int x1, .int x2, .int x3]) ++ List.replicate (4 - (lg_sl ([.ref h, .int x1, .int x2, .int x3])).length) Slot.unset).toArray = ls at hl ⊢
  have hl : lv_has ls 4 [(0, .ref h), (1, .int x1), (2, .int x2), (3, .int x3)] := hl
  refine lv_iload_n hx hb d_Ri_set_0 rfl (lv_at hl 1 rfl) ?_
  refine vp_callSi (va_runSN (As := [.int x1]) (rest := []) ⟨hx, hb, hml, hown, htg⟩ (c_B_isShip l dC dI cI cL cZ x1 ) ⟨va_cnB 1 htg (gd kc_B_isShip) rfl rfl rfl (hN _ (List.mem_of_getElem? (i := 10) rfl)) (htg _ k1_1) (by decide +kernel) ⟨Nat.le_of_ble_eq_true rfl, Nat.le_of_ble_eq_true rfl⟩, htg _ k1_197, trivial⟩ ⟨bk_blind0, fun U hU hW => ⟨rfl, trivial⟩⟩ rfl rfl hl.1 rfl (lv_room (Nat.le_of_ble_eq_true rfl)) d_Ri_set_1 ⟨Nat.le_of_ble_eq_true rfl, Nat.le_of_ble_eq_true rfl⟩).run (fun r1 e1 => ?_)
  rcases e1 with ⟨⟨j1, hj1, hx1⟩, rfl⟩ | ⟨n1, rfl⟩
  · refine bk_if_eq (a := 1) (tgt := 27) hx hb (by omega) d_Ri_set_4 (by decide) (fun c4 => absurd c4 (by decide)) (fun c4 => ?_)
    refine lv_iload_n hx hb d_Ri_set_7 rfl (lv_at hl 3 rfl) ?_
    refine lv_iconst (v := nI 1) hx hb d_Ri_set_8 (by decide +kernel) ?_
    refine lv_icmp_lt (x := x3) (y := nI 1) (tgt := 27) hx hb d_Ri_set_9 (by decide) (fun c9 => ?_) (fun c9 => ?_)
    · refine lv_iconst (v := nI 0) hx hb d_Ri_set_27 (by decide +kernel) ?_
      have hP9 := hP.sub (ws' := [(h, .inr (4, [.ref a1, .ref a2])), (a1, .inl (cI, 10, .inl (aI wt)))]) [0, 1] rfl
      have hD9 := hD.sub (ws' := [(h, .inr (4, [.ref a1, .ref a2])), (a1, .inl (cI, 10, .inl (aI wt)))]) [0, 1] (by decide) rfl
      exact W.zret (v := nI 0) (ty := .boolean) hx hb hr rfl (fun t9 ht9 hW9 => ⟨⟨nI 0, (wt, 0), rfl, Or.inr ⟨fun z9 => by obtain ⟨y1, a, b, y2, y3, y4, y5, y6⟩ := z9; first | exact n1 y1 | exact no_lt1 y6 y2 (by omega) c9 | exact no_gt y6 (by omega) (by decide) (by omega) c15 | exact (by rw [y5] at c19; exact nI_pos (by omega) c19) | exact (by rw [y5, y6] at c24; exact c24 (nI_le y4 (by omega))), rfl, rfl⟩, by rw [ht9]; exact hP9, va_K.moved hW9.alike hK, hD9⟩, hS.F ht9⟩) hS.2.2 d_Ri_set_28
    · refine lv_iload_n hx hb d_Ri_set_12 rfl (lv_at hl 3 rfl) ?_
      refine lv_bipush (v := nI 10) hx hb d_Ri_set_13 (by decide +kernel) ?_
      refine lv_icmp_gt (x := x3) (y := nI 10) (tgt := 27) hx hb d_Ri_set_15 (by decide) (fun c15 => ?_) (fun c15 => ?_)
      · refine lv_iconst (v := nI 0) hx hb d_Ri_set_27 (by decide +kernel) ?_
        have hP9 := hP.sub (ws' := [(h, .inr (4, [.ref a1, .ref a2])), (a1, .inl (cI, 10, .inl (aI wt)))]) [0, 1] rfl
        have hD9 := hD.sub (ws' := [(h, .inr (4, [.ref a1, .ref a2])), (a1, .inl (cI, 10, .inl (aI wt)))]) [0, 1] (by decide) rfl
        exact W.zret (v := nI 0) (ty := .boolean) hx hb hr rfl (fun t9 ht9 hW9 => ⟨⟨nI 0, (wt, 0), rfl, Or.inr ⟨fun z9 => by obtain ⟨y1, a, b, y2, y3, y4, y5, y6⟩ := z9; first | exact n1 y1 | exact no_lt1 y6 y2 (by omega) c9 | exact no_gt y6 (by omega) (by decide) (by omega) c15 | exact (by rw [y5] at c19; exact nI_pos (by omega) c19) | exact (by rw [y5, y6] at c24; exact c24 (nI_le y4 (by omega))), rfl, rfl⟩, by rw [ht9]; exact hP9, va_K.moved hW9.alike hK, hD9⟩, hS.F ht9⟩) hS.2.2 d_Ri_set_28
      · refine lv_iload_n hx hb d_Ri_set_18 rfl (lv_at hl 2 rfl) ?_
        refine lv_if_lt (x := x2) (tgt := 27) hx hb d_Ri_set_19 (by decide) (fun c19 => ?_) (fun c19 => ?_)
        · refine lv_iconst (v := nI 0) hx hb d_Ri_set_27 (by decide +kernel) ?_
          have hP9 := hP.sub (ws' := [(h, .inr (4, [.ref a1, .ref a2])), (a1, .inl (cI, 10, .inl (aI wt)))]) [0, 1] rfl
          have hD9 := hD.sub (ws' := [(h, .inr (4, [.ref a1, .ref a2])), (a1, .inl (cI, 10, .inl (aI wt)))]) [0, 1] (by decide) rfl
          exact W.zret (v := nI 0) (ty := .boolean) hx hb hr rfl (fun t9 ht9 hW9 => ⟨⟨nI 0, (wt, 0), rfl, Or.inr ⟨fun z9 => by obtain ⟨y1, a, b, y2, y3, y4, y5, y6⟩ := z9; first | exact n1 y1 | exact no_lt1 y6 y2 (by omega) c9 | exact no_gt y6 (by omega) (by decide) (by omega) c15 | exact (by rw [y5] at c19; exact nI_pos (by omega) c19) | exact (by rw [y5, y6] at c24; exact c24 (nI_le y4 (by omega))), rfl, rfl⟩, by rw [ht9]; exact hP9, va_K.moved hW9.alike hK, hD9⟩, hS.F ht9⟩) hS.2.2 d_Ri_set_28
        · refine lv_iload_n hx hb d_Ri_set_22 rfl (lv_at hl 2 rfl) ?_
          refine lv_iload_n hx hb d_Ri_set_23 rfl (lv_at hl 3 rfl) ?_
          refine lv_icmp_le (x := x2) (y := x3) (tgt := 29) hx hb d_Ri_set_24 (by decide) (fun c24 => ?_) (fun c24 => ?_)
          · obtain ⟨b, hb3, hxb⟩ := inR_le (n := 10) (by decide) (lt1_nn c9) c15
            have hb1 : 1 ≤ b := lt1_pos c9 hxb (by omega)
            obtain ⟨a, ha3, hxa⟩ := le_nI c19 (by rw [hxb] at c24; exact c24) (by omega)
            refine lv_aload_n hx hb d_Ri_set_29 rfl (lv_at hl 0 rfl) ?_
            refine va_get (D := (dC, dI)) (ci := 4) (v := .ref a1) (C := R_Ri) (T := F_Ri) (N := 2) hx hb htg iw_Ri hown hK hP 0 rfl rfl 0 (by decide) (htg _ k1_104) (fun _ h9 => h9) rfl d_Ri_set_30 ?_
            refine lv_iload_n hx hb d_Ri_set_33 rfl (lv_at hl 1 rfl) ?_
            refine bk_topi (y := nI j1) hx1 ?_
            refine lv_sipush (v := nI 2520) hx hb d_Ri_set_34 (by decide +kernel) ?_
            refine lv_iload_n hx hb d_Ri_set_37 rfl (lv_at hl 3 rfl) ?_
            refine bk_topi (y := nI b) hxb ?_
            refine bk_idiv hx hb (by omega) (by omega) (by omega) d_Ri_set_38 ?_
            refine lv_iload_n hx hb d_Ri_set_39 rfl (lv_at hl 2 rfl) ?_
            refine bk_topi (y := nI a) hxa ?_
            refine bk_imul hx hb d_Ri_set_40 ?_
            refine bk_iast (x := nI ((2520 / b) * a)) (f2 := aI (va_up wt j1 ((2520 / b) * a))) hx hb hK hP hD hS 1 0 rfl rfl (by omega) (by decide) (aI_up _ _ _) d_Ri_set_41 (fun H locs hP hD hS => ?_)
            have hP : va_P (dC, dI) vwCl [(h, .inr (4, [.ref a1, .ref a2])), (a1, .inl (cI, 10, .inl (aI (va_up wt j1 ((2520 / b) * a)))))] H := hP
            have hD : va_D A [(h, .inr (4, [.ref a1, .ref a2])), (a1, .inl (cI, 10, .inl (aI (va_up wt j1 ((2520 / b) * a)))))] := hD
            refine lv_iconst (v := nI 1) hx hb d_Ri_set_42 (by decide +kernel) ?_
            have hP9 := hP.sub (ws' := [(h, .inr (4, [.ref a1, .ref a2])), (a1, .inl (cI, 10, .inl (aI (va_up wt j1 (2520 / b * a)))))]) [0, 1] rfl
            have hD9 := hD.sub (ws' := [(h, .inr (4, [.ref a1, .ref a2])), (a1, .inl (cI, 10, .inl (aI (va_up wt j1 (2520 / b * a)))))]) [0, 1] (by decide) rfl
            exact W.zret (v := nI 1) (ty := .boolean) hx hb hr rfl (fun t9 ht9 hW9 => ⟨⟨nI 1, (va_up wt j1 (2520 / b * a), 0), rfl, Or.inl ⟨⟨⟨j1, hj1, hx1⟩, a, b, hb1, by omega, by omega, hxa, hxb⟩, rfl, by rw [hx1, hxb, hxa, tn_nI (by omega), tn_nI (by omega), tn_nI (by omega)]⟩, by rw [ht9]; exact hP9, va_K.moved hW9.alike hK, hD9⟩, hS.F ht9⟩) hS.2.2 d_Ri_set_43
          · refine lv_iconst (v := nI 0) hx hb d_Ri_set_27 (by decide +kernel) ?_
            have hP9 := hP.sub (ws' := [(h, .inr (4, [.ref a1, .ref a2])), (a1, .inl (cI, 10, .inl (aI wt)))]) [0, 1] rfl
            have hD9 := hD.sub (ws' := [(h, .inr (4, [.ref a1, .ref a2])), (a1, .inl (cI, 10, .inl (aI wt)))]) [0, 1] (by decide) rfl
            exact W.zret (v := nI 0) (ty := .boolean) hx hb hr rfl (fun t9 ht9 hW9 => ⟨⟨nI 0, (wt, 0), rfl, Or.inr ⟨fun z9 => by obtain ⟨y1, a, b, y2, y3, y4, y5, y6⟩ := z9; first | exact n1 y1 | exact no_lt1 y6 y2 (by omega) c9 | exact no_gt y6 (by omega) (by decide) (by omega) c15 | exact (by rw [y5] at c19; exact nI_pos (by omega) c19) | exact (by rw [y5, y6] at c24; exact c24 (nI_le y4 (by omega))), rfl, rfl⟩, by rw [ht9]; exact hP9, va_K.moved hW9.alike hK, hD9⟩, hS.F ht9⟩) hS.2.2 d_Ri_set_28
  · refine bk_if_eq (a := 0) (tgt := 27) hx hb (by omega) d_Ri_set_4 (by decide) (fun c4 => ?_) (fun c4 => absurd c4 (by decide))
    refine lv_iconst (v := nI 0) hx hb d_Ri_set_27 (by decide +kernel) ?_
    have hP9 := hP.sub (ws' := [(h, .inr (4, [.ref a1, .ref a2])), (a1, .inl (cI, 10, .inl (aI wt)))]) [0, 1] rfl
    have hD9 := hD.sub (ws' := [(h, .inr (4, [.ref a1, .ref a2])), (a1, .inl (cI, 10, .inl (aI wt)))]) [0, 1] (by decide) rfl
    exact W.zret (v := nI 0) (ty := .boolean) hx hb hr rfl (fun t9 ht9 hW9 => ⟨⟨nI 0, (wt, 0), rfl, Or.inr ⟨fun z9 => by obtain ⟨y1, a, b, y2, y3, y4, y5, y6⟩ := z9; first | exact n1 y1 | exact no_lt1 y6 y2 (by omega) c9 | exact no_gt y6 (by omega) (by decide) (by omega) c15 | exact (by rw [y5] at c19; exact nI_pos (by omega) c19) | exact (by rw [y5, y6] at c24; exact c24 (nI_le y4 (by omega))), rfl, rfl⟩, by rw [ht9]; exact hP9, va_K.moved hW9.alike hK, hD9⟩, hS.F ht9⟩) hS.2.2 d_Ri_set_28
set_option maxHeartbeats 4000000 in
set_option maxRecDepth 100000 in
theorem c_Ri_weighAll (l : Launch) (dC : Nat → ClassId) (dI : Nat → Nat → Nat) (cI cL cZ : ClassId) (sz : Nat) (h a1 a2 : Nat) (wt wl : Nat → Nat) (hbk b1 b2 b3 b4 n : Nat) (sh : Nat → Nat) (hn : n ≤ 30) (hsh : ∀ j, j < n → sh j < 10) (hwt : ∀ j, j < 10 → wt j ≤ 2520) : Met l y_Ri_weighAll ws_Ri_weighAll { frames := 0, cells := 0, slots := 0, locals := 0 } (va_Pc [.ref h, .ref hbk] (wrP (dC, dI) vwCl [(cI, .int), (cL, .long), (cZ, .boolean)] [(h, .inr (4, [.ref a1, .ref a2])), (a1, .inl (cI, 10, .inl (aI wt))), (a2, .inl (cI, 30, .inl (aI wl))), (hbk, .inr (1, [.ref b1, .ref b2, .ref b3, .ref b4, .int (nI n)])), (b1, .inl (cI, 30, .inl (aI sh)))] sz)) (va_Qi (fun (r : Int32) (u : Nat → Nat) => r = nI (sumN (fun j => wt (sh j)) n) ∧ ∀ j, j < n → u j = wt (sh j)) (fun (u : Nat → Nat) => wrQ (dC, dI) vwCl [(cI, .int), (cL, .long), (cZ, .boolean)] (va_A [(h, .inr (4, [.ref a1, .ref a2])), (a1, .inl (cI, 10, .inl (aI wt))), (a2, .inl (cI, 30, .inl (aI wl))), (hbk, .inr (1, [.ref b1, .ref b2, .ref b3, .ref b4, .int (nI n)])), (b1, .inl (cI, 30, .inl (aI sh)))] sz) [(h, .inr (4, [.ref a1, .ref a2])), (a1, .inl (cI, 10, .inl (aI wt))), (a2, .inl (cI, 30, .inl (aI u))), (hbk, .inr (1, [.ref b1, .ref b2, .ref b3, .ref b4, .int (nI n)])), (b1, .inl (cI, 30, .inl (aI sh)))]) (va_A [(h, .inr (4, [.ref a1, .ref a2])), (a1, .inl (cI, 10, .inl (aI wt))), (a2, .inl (cI, 30, .inl (aI wl))), (hbk, .inr (1, [.ref b1, .ref b2, .ref b3, .ref b4, .int (nI n)])), (b1, .inl (cI, 30, .inl (aI sh)))] sz)) 0 0 (va_A [(h, .inr (4, [.ref a1, .ref a2])), (a1, .inl (cI, 10, .inl (aI wt))), (a2, .inl (cI, 30, .inl (aI wl))), (hbk, .inr (1, [.ref b1, .ref b2, .ref b3, .ref b4, .int (nI n)])), (b1, .inl (cI, 30, .inl (aI sh)))] sz) := by
  refine Met.ofW (cc := b_Ri_weighAll) (maxL := 4) (ret := (some .int)) (by decide) rfl ?_
  intro pr en s m args below meth c s₁ B hml hv
  obtain ⟨rfl, hN, hsz, hP, hK, hD0⟩ := hv
  have hx := B.exec
  have hb := B.bytes
  have hr := B.returns
  have hts := atoms_spec (ws := ws_Ri_weighAll) B.pre
  have htg : ∀ w ∈ gW, w.before _ s = true := fun w h => hts w (List.mem_cons_of_mem _ h)
  have hown : s.vm.findClass R_Ri = some m.cls := findClass_of_methodNamed B.named
  have hlocks := B.notSynchronized
  subst hsz
  have hD := hD0.self (sz := s.heap.size)
  generalize hAe : va_A [(h, .inr (4, [.ref a1, .ref a2])), (a1, .inl (cI, 10, .inl (aI wt))), (a2, .inl (cI, 30, .inl (aI wl))), (hbk, .inr (1, [.ref b1, .ref b2, .ref b3, .ref b4, .int (nI n)])), (b1, .inl (cI, 30, .inl (aI sh)))] s.heap.size = A at hD ⊢
  have hA : ∀ q : Nat, s.heap.size ≤ q → A q := fun q h => by rw [← hAe]; exact Or.inr h
  have hS : va_S A s.heap s.heap [] := va_S.rf
  have hP : va_P (dC, dI) vwCl [(h, .inr (4, [.ref a1, .ref a2])), (a1, .inl (cI, 10, .inl (aI wt))), (a2, .inl (cI, 30, .inl (aI wl))), (hbk, .inr (1, [.ref b1, .ref b2, .ref b3, .ref b4, .int (nI n)])), (b1, .inl (cI, 30, .inl (aI sh)))] s.heap := hP
  have hl := lv_entry ([.ref h, .ref hbk]) (n := 4) (Nat.le_of_ble_eq_true rfl)
  rw [lg_entry_eq]
  generalize (lg_sl ([.ref h, .ref hbk]) ++ List.replicate (4 - (lg_sl ([.ref h, .ref hbk])).length) Slot.unset).toArray = ls at hl ⊢
  have hl : lv_has ls 4 [(0, .ref h), (1, .ref hbk)] := hl
  refine lv_iconst (v := nI 0) hx hb d_Ri_weighAll_0 (by decide +kernel) ?_
  refine lv_istore_n (lv' := [(2, .int (nI 0)), (0, .ref h), (1, .ref hbk)]) hx hb d_Ri_weighAll_1 rfl hl (by decide) rfl (fun ls hl => ?_)
  refine lv_iconst (v := nI 0) hx hb d_Ri_weighAll_2 (by decide +kernel) ?_
  refine lv_istore_n (lv' := [(3, .int (nI 0)), (2, .int (nI 0)), (0, .ref h), (1, .ref hbk)]) hx hb d_Ri_weighAll_3 rfl hl (by decide) rfl (fun ls hl => ?_)
  have J4 : ∀ (k : Nat) (i : Nat) (t : Nat) (wq : Nat → Nat), (i + k = n) → (t = sumN (fun j => wt (sh j)) i) → (∀ j, j < i → wq j = wt (sh j)) → ∀ (H : Heap) (locs : List Loc), va_P (dC, dI) vwCl [(h, .inr (4, [.ref a1, .ref a2])), (a1, .inl (cI, 10, .inl (aI wt))), (a2, .inl (cI, 30, .inl (aI wq))), (hbk, .inr (1, [.ref b1, .ref b2, .ref b3, .ref b4, .int (nI n)])), (b1, .inl (cI, 30, .inl (aI sh)))] H → va_D A [(h, .inr (4, [.ref a1, .ref a2])), (a1, .inl (cI, 10, .inl (aI wt))), (a2, .inl (cI, 30, .inl (aI wq))), (hbk, .inr (1, [.ref b1, .ref b2, .ref b3, .ref b4, .int (nI n)])), (b1, .inl (cI, 30, .inl (aI sh)))] → va_S A s.heap H locs → ∀ (ls : Array Slot), lv_has ls 4 [(0, .ref h), (1, .ref hbk), (2, .int (nI t)), (3, .int (nI i))] → W pr l en (headSpec ws_Ri_weighAll { frames := 0, cells := 0, slots := 0, locals := 0 }).room s m ([.ref h, .ref hbk] : List Value).toArray below meth c H locs 0 0 (MQ below (va_Qi (fun (r : Int32) (u : Nat → Nat) => r = nI (sumN (fun j => wt (sh j)) n) ∧ ∀ j, j < n → u j = wt (sh j)) (fun (u : Nat → Nat) => wrQ (dC, dI) vwCl [(cI, .int), (cL, .long), (cZ, .boolean)] A [(h, .inr (4, [.ref a1, .ref a2])), (a1, .inl (cI, 10, .inl (aI wt))), (a2, .inl (cI, 30, .inl (aI u))), (hbk, .inr (1, [.ref b1, .ref b2, .ref b3, .ref b4, .int (nI n)])), (b1, .inl (cI, 30, .inl (aI sh)))]) A) ([.ref h, .ref hbk] : List Value).toArray s 0 0 A) (F0 m 4 ls []) := by
    intro k
    induction k with
    | zero =>
      intro i t wq hk ht hw H locs hP hD hS ls hl
      refine lv_iload_n hx hb d_Ri_weighAll_4 rfl (lv_at hl 3 rfl) ?_
      refine lv_aload_n hx hb d_Ri_weighAll_5 rfl (lv_at hl 1 rfl) ?_
      refine va_get (D := (dC, dI)) (ci := 1) (v := .int (nI n)) (C := R_Bk) (T := F_Bk) (N := 5) hx hb htg iw_Bk hown hK hP 3 rfl rfl 4 (by decide) (htg _ k1_40) (fun _ h9 => h9) rfl d_Ri_weighAll_6 ?_
      refine bk_icmp_ge (a := i) (b := n) (tgt := 44) hx hb (by omega) (by omega) d_Ri_weighAll_9 (by decide) (fun c9 => ?_) (fun c9 => by exfalso; omega)
      refine lv_iload_n hx hb d_Ri_weighAll_44 rfl (lv_at hl 2 rfl) ?_
      have hP9 := hP.sub (ws' := [(h, .inr (4, [.ref a1, .ref a2])), (a1, .inl (cI, 10, .inl (aI wt))), (a2, .inl (cI, 30, .inl (aI wq))), (hbk, .inr (1, [.ref b1, .ref b2, .ref b3, .ref b4, .int (nI n)])), (b1, .inl (cI, 30, .inl (aI sh)))]) [0, 1, 2, 3, 4] rfl
      have hD9 := hD.sub (ws' := [(h, .inr (4, [.ref a1, .ref a2])), (a1, .inl (cI, 10, .inl (aI wt))), (a2, .inl (cI, 30, .inl (aI wq))), (hbk, .inr (1, [.ref b1, .ref b2, .ref b3, .ref b4, .int (nI n)])), (b1, .inl (cI, 30, .inl (aI sh)))]) [0, 1, 2, 3, 4] (by decide) rfl
      exact W.iret (v := nI t) hx hb hr (fun t9 ht9 hW9 => ⟨⟨nI t, (wq), rfl, ⟨by rw [ht, show i = n by omega], by rw [show i = n by omega] at hw; exact hw⟩, by rw [ht9]; exact hP9, va_K.moved hW9.alike hK, hD9⟩, hS.F ht9⟩) hS.2.2 d_Ri_weighAll_45
    | succ k ih4 =>
      intro i t wq hk ht hw H locs hP hD hS ls hl
      have hs1 := hsh i (by omega)
      refine lv_iload_n hx hb d_Ri_weighAll_4 rfl (lv_at hl 3 rfl) ?_
      refine lv_aload_n hx hb d_Ri_weighAll_5 rfl (lv_at hl 1 rfl) ?_
      refine va_get (D := (dC, dI)) (ci := 1) (v := .int (nI n)) (C := R_Bk) (T := F_Bk) (N := 5) hx hb htg iw_Bk hown hK hP 3 rfl rfl 4 (by decide) (htg _ k1_40) (fun _ h9 => h9) rfl d_Ri_weighAll_6 ?_
      refine bk_icmp_ge (a := i) (b := n) (tgt := 44) hx hb (by omega) (by omega) d_Ri_weighAll_9 (by decide) (fun c9 => by exfalso; omega) (fun c9 => ?_)
      refine lv_aload_n hx hb d_Ri_weighAll_12 rfl (lv_at hl 0 rfl) ?_
      refine va_get (D := (dC, dI)) (ci := 4) (v := .ref a2) (C := R_Ri) (T := F_Ri) (N := 2) hx hb htg iw_Ri hown hK hP 0 rfl rfl 1 (by decide) (htg _ k1_105) (fun _ h9 => h9) rfl d_Ri_weighAll_13 ?_
      refine lv_iload_n hx hb d_Ri_weighAll_16 rfl (lv_at hl 3 rfl) ?_
      refine lv_aload_n hx hb d_Ri_weighAll_17 rfl (lv_at hl 0 rfl) ?_
      refine va_get (D := (dC, dI)) (ci := 4) (v := .ref a1) (C := R_Ri) (T := F_Ri) (N := 2) hx hb htg iw_Ri hown hK hP 0 rfl rfl 0 (by decide) (htg _ k1_104) (fun _ h9 => h9) rfl d_Ri_weighAll_18 ?_
      refine lv_aload_n hx hb d_Ri_weighAll_21 rfl (lv_at hl 1 rfl) ?_
      refine va_get (D := (dC, dI)) (ci := 1) (v := .ref b1) (C := R_Bk) (T := F_Bk) (N := 5) hx hb htg iw_Bk hown hK hP 3 rfl rfl 0 (by decide) (htg _ k1_32) (fun _ h9 => h9) rfl d_Ri_weighAll_22 ?_
      refine lv_iload_n hx hb d_Ri_weighAll_25 rfl (lv_at hl 3 rfl) ?_
      refine bk_iald (v := nI (sh i)) hx hb hK hP 4 0 rfl rfl (by omega) (by decide) rfl d_Ri_weighAll_26 ?_
      refine bk_iald (v := nI (wt (sh i))) hx hb hK hP 1 0 rfl rfl (by omega) (by decide) rfl d_Ri_weighAll_27 ?_
      refine bk_iast (x := nI (wt (sh i))) (f2 := aI (va_up wq i (wt (sh i)))) hx hb hK hP hD hS 2 0 rfl rfl (by omega) (by decide) (aI_up _ _ _) d_Ri_weighAll_28 (fun H locs hP hD hS => ?_)
      have hP : va_P (dC, dI) vwCl [(h, .inr (4, [.ref a1, .ref a2])), (a1, .inl (cI, 10, .inl (aI wt))), (a2, .inl (cI, 30, .inl (aI (va_up wq i (wt (sh i)))))), (hbk, .inr (1, [.ref b1, .ref b2, .ref b3, .ref b4, .int (nI n)])), (b1, .inl (cI, 30, .inl (aI sh)))] H := hP
      have hD : va_D A [(h, .inr (4, [.ref a1, .ref a2])), (a1, .inl (cI, 10, .inl (aI wt))), (a2, .inl (cI, 30, .inl (aI (va_up wq i (wt (sh i)))))), (hbk, .inr (1, [.ref b1, .ref b2, .ref b3, .ref b4, .int (nI n)])), (b1, .inl (cI, 30, .inl (aI sh)))] := hD
      refine lv_iload_n hx hb d_Ri_weighAll_29 rfl (lv_at hl 2 rfl) ?_
      refine lv_aload_n hx hb d_Ri_weighAll_30 rfl (lv_at hl 0 rfl) ?_
      refine va_get (D := (dC, dI)) (ci := 4) (v := .ref a2) (C := R_Ri) (T := F_Ri) (N := 2) hx hb htg iw_Ri hown hK hP 0 rfl rfl 1 (by decide) (htg _ k1_105) (fun _ h9 => h9) rfl d_Ri_weighAll_31 ?_
      refine lv_iload_n hx hb d_Ri_weighAll_34 rfl (lv_at hl 3 rfl) ?_
      refine bk_iald (v := nI ((va_up wq i (wt (sh i))) i)) hx hb hK hP 2 0 rfl rfl (by omega) (by decide) rfl d_Ri_weighAll_35 ?_
      refine bk_iadd hx hb d_Ri_weighAll_36 ?_
      refine lv_istore_n (lv' := [(2, .int (nI (t + ((va_up wq i (wt (sh i))) i)))), (0, .ref h), (1, .ref hbk), (3, .int (nI i))]) hx hb d_Ri_weighAll_37 rfl hl (by decide) rfl (fun ls hl => ?_)
      refine lv_iinc (v := nI (i + 1)) (lv' := [(3, .int (nI (i + 1))), (2, .int (nI (t + ((va_up wq i (wt (sh i))) i)))), (0, .ref h), (1, .ref hbk)]) hx hb d_Ri_weighAll_38 hl (k := 3) rfl (bk_inc i) (by decide) rfl (fun ls hl => ?_)
      refine lv_goto (tgt := 4) hx hb d_Ri_weighAll_41 (by decide) ?_
      exact ih4 (i + 1) (t + ((va_up wq i (wt (sh i))) i)) (va_up wq i (wt (sh i))) (by omega) (by rw [sumN, ht, show va_up wq i (wt (sh i)) i = wt (sh i) from if_pos rfl]) (w_up hw) _ _ (hP.sub [0, 1, 2, 3, 4] rfl) (hD.sub [0, 1, 2, 3, 4] (by decide) rfl) hS ls (lv_sub hl [2, 3, 1, 0] rfl)
  exact J4 n 0 0 wl (by omega) rfl (fun j hj => absurd hj (by omega)) _ _ (hP.sub [0, 1, 2, 3, 4] rfl) (hD.sub [0, 1, 2, 3, 4] (by decide) rfl) hS ls (lv_sub hl [2, 3, 1, 0] rfl)
set_option maxHeartbeats 4000000 in
set_option maxRecDepth 100000 in
theorem c_Ri_pageOver (l : Launch) (dC : Nat → ClassId) (dI : Nat → Nat → Nat) (cI cL cZ : ClassId) (h a1 a2 : Nat) (wl : Nat → Nat) (n rr : Nat) (hn : n ≤ 30) (hrr : rr < sumN wl n) (hwl : ∀ j, j < n → wl j ≤ 2520) : Met l y_Ri_pageOver ws_Ri_pageOver { frames := 0, cells := 0, slots := 0, locals := 0 } (va_Pc [.ref h, .int (nI n), .int (nI rr)] (rdP (dC, dI) vwCl [(cI, .int), (cL, .long), (cZ, .boolean)] [(h, .inr (4, [.ref a1, .ref a2])), (a2, .inl (cI, 30, .inl (aI wl)))])) (vp_Si (fun r => r = nI (pickF wl rr n))) 0 0 (fun _ => False) := by
  refine Met.ofW (cc := b_Ri_pageOver) (maxL := 5) (ret := (some .int)) (by decide) rfl ?_
  intro pr en s m args below meth c s₁ B hml hv
  obtain ⟨rfl, hN, hP, hK⟩ := hv
  have hx := B.exec
  have hb := B.bytes
  have hr := B.returns
  have hts := atoms_spec (ws := ws_Ri_pageOver) B.pre
  have htg : ∀ w ∈ gW, w.before _ s = true := fun w h => hts w (List.mem_cons_of_mem _ h)
  have hown : s.vm.findClass R_Ri = some m.cls := findClass_of_methodNamed B.named
  have hlocks := B.notSynchronized
  have hl := lv_entry ([.ref h, .int (nI n), .int (nI rr)]) (n := 5) (Nat.le_of_ble_eq_true rfl)
  rw [lg_entry_eq]
  generalize (lg_sl ([.ref h, .int (nI n), .int (nI rr)]) ++ List.replicate (5 - (lg_sl ([.ref h, .int (nI n), .int (nI rr)])).length) Slot.unset).toArray = ls at hl ⊢
  have hl : lv_has ls 5 [(0, .ref h), (1, .int (nI n)), (2, .int (nI rr))] := hl
  refine lv_iconst (v := nI 0) hx hb d_Ri_pageOver_0 (by decide +kernel) ?_
  refine lv_istore_n (lv' := [(3, .int (nI 0)), (0, .ref h), (1, .int (nI n)), (2, .int (nI rr))]) hx hb d_Ri_pageOver_1 rfl hl (by decide) rfl (fun ls hl => ?_)
  refine lv_iconst (v := nI 0) hx hb d_Ri_pageOver_2 (by decide +kernel) ?_
  refine lv_istore (lv' := [(4, .int (nI 0)), (3, .int (nI 0)), (0, .ref h), (1, .int (nI n)), (2, .int (nI rr))]) hx hb d_Ri_pageOver_3 hl (by decide) rfl (fun ls hl => ?_)
  have J5 : ∀ (k : Nat) (i : Nat) (t : Nat), (i + k = n) → (t = sumN wl i) → (t ≤ rr) → ∀ (ls : Array Slot), lv_has ls 5 [(0, .ref h), (1, .int (nI n)), (2, .int (nI rr)), (3, .int (nI t)), (4, .int (nI i))] → W pr l en (headSpec ws_Ri_pageOver { frames := 0, cells := 0, slots := 0, locals := 0 }).room s m ([.ref h, .int (nI n), .int (nI rr)] : List Value).toArray below meth c s.heap [] 0 0 (MQ below (vp_Si (fun r => r = nI (pickF wl rr n))) ([.ref h, .int (nI n), .int (nI rr)] : List Value).toArray s 0 0 (fun _ => False)) (F0 m 5 ls []) := by
    intro k
    induction k with
    | zero =>
      intro i t hk ht hle ls hl
      refine lv_iload hx hb d_Ri_pageOver_5 (lv_at hl 4 rfl) ?_
      refine lv_iload_n hx hb d_Ri_pageOver_7 rfl (lv_at hl 1 rfl) ?_
      refine bk_icmp_ge (a := i) (b := n) (tgt := 42) hx hb (by omega) (by omega) d_Ri_pageOver_8 (by decide) (fun c8 => ?_) (fun c8 => by exfalso; omega)
      refine lv_iconst (v := oI none) hx hb d_Ri_pageOver_42 (by decide +kernel) ?_
      exact W.iret (v := oI none) hx hb hr (fun t9 ht9 hW9 => ⟨oI none, rfl, (by exfalso; rw [show i = n by omega] at ht; omega), ht9⟩) (fun q h => nomatch h) d_Ri_pageOver_43
    | succ k ih5 =>
      intro i t hk ht hle ls hl
      have hs1 := hwl i (by omega)
      have hs2 := sumN_le (w := wl) (c := 2520) i (fun j hj => hwl j (by omega))
      have hs3 := sumN_le (w := wl) (c := 2520) n hwl
      refine lv_iload hx hb d_Ri_pageOver_5 (lv_at hl 4 rfl) ?_
      refine lv_iload_n hx hb d_Ri_pageOver_7 rfl (lv_at hl 1 rfl) ?_
      refine bk_icmp_ge (a := i) (b := n) (tgt := 42) hx hb (by omega) (by omega) d_Ri_pageOver_8 (by decide) (fun c8 => by exfalso; omega) (fun c8 => ?_)
      refine lv_iload hx hb d_Ri_pageOver_11 (lv_at hl 4 rfl) ?_
      refine lv_bipush (v := nI 30) hx hb d_Ri_pageOver_13 (by decide +kernel) ?_
      refine bk_icmp_ge (a := i) (b := 30) (tgt := 42) hx hb (by omega) (by omega) d_Ri_pageOver_15 (by decide) (fun c15 => by exfalso; omega) (fun c15 => ?_)
      refine lv_iload_n hx hb d_Ri_pageOver_18 rfl (lv_at hl 3 rfl) ?_
      refine lv_aload_n hx hb d_Ri_pageOver_19 rfl (lv_at hl 0 rfl) ?_
      refine va_get (D := (dC, dI)) (ci := 4) (v := .ref a2) (C := R_Ri) (T := F_Ri) (N := 2) hx hb htg iw_Ri hown hK hP 0 rfl rfl 1 (by decide) (htg _ k1_105) (fun _ h9 => h9) rfl d_Ri_pageOver_20 ?_
      refine lv_iload hx hb d_Ri_pageOver_23 (lv_at hl 4 rfl) ?_
      refine bk_iald (v := nI (wl i)) hx hb hK hP 1 0 rfl rfl (by omega) (by decide) rfl d_Ri_pageOver_25 ?_
      refine bk_iadd hx hb d_Ri_pageOver_26 ?_
      refine lv_istore_n (lv' := [(3, .int (nI (t + (wl i)))), (0, .ref h), (1, .int (nI n)), (2, .int (nI rr)), (4, .int (nI i))]) hx hb d_Ri_pageOver_27 rfl hl (by decide) rfl (fun ls hl => ?_)
      refine lv_iload_n hx hb d_Ri_pageOver_28 rfl (lv_at hl 0 rfl) ?_
      refine lv_iload_n hx hb d_Ri_pageOver_29 rfl (lv_at hl 3 rfl) ?_
      refine bk_icmp_le (a := t + (wl i)) (b := rr) (tgt := 36) hx hb (by omega) (by omega) d_Ri_pageOver_30 (by decide) (fun c30 => ?_) (fun c30 => ?_)
      · refine lv_iinc (v := nI (i + 1)) (lv' := [(4, .int (nI (i + 1))), (3, .int (nI (t + (wl i)))), (0, .ref h), (1, .int (nI n)), (2, .int (nI rr))]) hx hb d_Ri_pageOver_36 hl (k := 4) rfl (bk_inc i) (by decide) rfl (fun ls hl => ?_)
        refine lv_goto (tgt := 5) hx hb d_Ri_pageOver_39 (by decide) ?_
        exact ih5 (i + 1) (t + (wl i)) (by omega) (by rw [sumN, ht]) c30 ls (lv_sub hl [2, 3, 4, 1, 0] rfl)
      · refine lv_iload hx hb d_Ri_pageOver_33 (lv_at hl 4 rfl) ?_
        exact W.iret (v := nI i) hx hb hr (fun t9 ht9 hW9 => ⟨nI i, rfl, (by rw [pickF_is (p := i) ⟨by omega, by rw [sumN, ← ht]; omega⟩ n (by omega)]), ht9⟩) (fun q h => nomatch h) d_Ri_pageOver_35
  exact J5 n 0 0 (by omega) rfl (Nat.zero_le _) ls (lv_sub hl [2, 3, 4, 1, 0] rfl)
set_option maxHeartbeats 4000000 in
set_option maxRecDepth 100000 in
theorem c_Ri_take (l : Launch) (dC : Nat → ClassId) (dI : Nat → Nat → Nat) (cI cL cZ : ClassId) (sz : Nat) (h a1 a2 : Nat) (wt wl : Nat → Nat) (hbk b1 b2 b3 b4 n : Nat) (sh : Nat → Nat) (hro r1 c0 as0 : Nat) (tk : Nat → Nat) (sd : Int64) (N : Nat) (hn : n ≤ 30) (hsh : ∀ j, j < n → sh j < 10) (hwt : ∀ j, j < 10 → wt j ≤ 2520) (hN0 : N ≤ n) : Met l y_Ri_take ws_Ri_take { frames := 1, cells := 0, slots := 0, locals := 24 } (va_Pc [.ref h, .ref hbk, .long sd, .int (nI N), .ref hro] (wrP (dC, dI) vwCl [(cI, .int), (cL, .long), (cZ, .boolean)] [(h, .inr (4, [.ref a1, .ref a2])), (a1, .inl (cI, 10, .inl (aI wt))), (a2, .inl (cI, 30, .inl (aI wl))), (hbk, .inr (1, [.ref b1, .ref b2, .ref b3, .ref b4, .int (nI n)])), (b1, .inl (cI, 30, .inl (aI sh))), (hro, .inr (5, [.ref r1, .int (nI c0), .int (nI as0)])), (r1, .inl (cI, 30, .inl (aI tk)))] sz)) (va_Qv (fun (u : (Nat → Nat) × Nat × (Nat → Nat)) => isDraw n (fun j => wt (sh j)) sd N u.2.1 ∧ ∀ j, j < u.2.1 → u.2.2 j = pkD n (fun j => wt (sh j)) sd j ∧ u.2.2 j < n) (fun (u : (Nat → Nat) × Nat × (Nat → Nat)) => wrQ (dC, dI) vwCl [(cI, .int), (cL, .long), (cZ, .boolean)] (va_A [(h, .inr (4, [.ref a1, .ref a2])), (a1, .inl (cI, 10, .inl (aI wt))), (a2, .inl (cI, 30, .inl (aI wl))), (hbk, .inr (1, [.ref b1, .ref b2, .ref b3, .ref b4, .int (nI n)])), (b1, .inl (cI, 30, .inl (aI sh))), (hro, .inr (5, [.ref r1, .int (nI c0), .int (nI as0)])), (r1, .inl (cI, 30, .inl (aI tk)))] sz) [(h, .inr (4, [.ref a1, .ref a2])), (a1, .inl (cI, 10, .inl (aI wt))), (a2, .inl (cI, 30, .inl (aI u.1))), (hbk, .inr (1, [.ref b1, .ref b2, .ref b3, .ref b4, .int (nI n)])), (b1, .inl (cI, 30, .inl (aI sh))), (hro, .inr (5, [.ref r1, .int (nI u.2.1), .int (nI N)])), (r1, .inl (cI, 30, .inl (aI u.2.2)))]) (va_A [(h, .inr (4, [.ref a1, .ref a2])), (a1, .inl (cI, 10, .inl (aI wt))), (a2, .inl (cI, 30, .inl (aI wl))), (hbk, .inr (1, [.ref b1, .ref b2, .ref b3, .ref b4, .int (nI n)])), (b1, .inl (cI, 30, .inl (aI sh))), (hro, .inr (5, [.ref r1, .int (nI c0), .int (nI as0)])), (r1, .inl (cI, 30, .inl (aI tk)))] sz)) 0 0 (va_A [(h, .inr (4, [.ref a1, .ref a2])), (a1, .inl (cI, 10, .inl (aI wt))), (a2, .inl (cI, 30, .inl (aI wl))), (hbk, .inr (1, [.ref b1, .ref b2, .ref b3, .ref b4, .int (nI n)])), (b1, .inl (cI, 30, .inl (aI sh))), (hro, .inr (5, [.ref r1, .int (nI c0), .int (nI as0)])), (r1, .inl (cI, 30, .inl (aI tk)))] sz) := by
  refine Met.ofW (cc := b_Ri_take) (maxL := 11) (ret := none) (by decide) rfl ?_
  intro pr en s m args below meth c s₁ B hml hv
  obtain ⟨rfl, hN, hsz, hP, hK, hD0⟩ := hv
  have hx := B.exec
  have hb := B.bytes
  have hr := B.returns
  have hts := atoms_spec (ws := ws_Ri_take) B.pre
  have htg : ∀ w ∈ gW, w.before _ s = true := fun w h => hts w (List.mem_cons_of_mem _ h)
  have hown : s.vm.findClass R_Ri = some m.cls := findClass_of_methodNamed B.named
  have hlocks := B.notSynchronized
  subst hsz
  have hD := hD0.self (sz := s.heap.size)
  generalize hAe : va_A [(h, .inr (4, [.ref a1, .ref a2])), (a1, .inl (cI, 10, .inl (aI wt))), (a2, .inl (cI, 30, .inl (aI wl))), (hbk, .inr (1, [.ref b1, .ref b2, .ref b3, .ref b4, .int (nI n)])), (b1, .inl (cI, 30, .inl (aI sh))), (hro, .inr (5, [.ref r1, .int (nI c0), .int (nI as0)])), (r1, .inl (cI, 30, .inl (aI tk)))] s.heap.size = A at hD ⊢
  have hA : ∀ q : Nat, s.heap.size ≤ q → A q := fun q h => by rw [← hAe]; exact Or.inr h
  have hS : va_S A s.heap s.heap [] := va_S.rf
  have hP : va_P (dC, dI) vwCl [(h, .inr (4, [.ref a1, .ref a2])), (a1, .inl (cI, 10, .inl (aI wt))), (a2, .inl (cI, 30, .inl (aI wl))), (hbk, .inr (1, [.ref b1, .ref b2, .ref b3, .ref b4, .int (nI n)])), (b1, .inl (cI, 30, .inl (aI sh))), (hro, .inr (5, [.ref r1, .int (nI c0), .int (nI as0)])), (r1, .inl (cI, 30, .inl (aI tk)))] s.heap := hP
  have hl := lv_entry ([.ref h, .ref hbk, .long sd, .int (nI N), .ref hro]) (n := 11) (Nat.le_of_ble_eq_true rfl)
  rw [lg_entry_eq]
  generalize (lg_sl ([.ref h, .ref hbk, .long sd, .int (nI N), .ref hro]) ++ List.replicate (11 - (lg_sl ([.ref h, .ref hbk, .long sd, .int (nI N), .ref hro])).length) Slot.unset).toArray = ls at hl ⊢
  have hl : lv_has ls 11 [(0, .ref h), (1, .ref hbk), (2, .long sd), (4, .int (nI N)), (5, .ref hro)] := hl
  refine lv_aload hx hb d_Ri_take_0 (lv_at hl 4 rfl) ?_
  refine lv_iload hx hb d_Ri_take_2 (lv_at hl 3 rfl) ?_
  have hPc := hP.sub (ws' := [(hro, .inr (5, [.ref r1, .int (nI c0), .int (nI as0)])), (r1, .inl (cI, 30, .inl (aI tk)))]) [5, 6] rfl
  have hDc := hD.sub (ws' := [(hro, .inr (5, [.ref r1, .int (nI c0), .int (nI as0)])), (r1, .inl (cI, 30, .inl (aI tk)))]) [5, 6] (by decide) rfl
  have hFc := va_free (wc := [(hro, .inr (5, [.ref r1, .int (nI c0), .int (nI as0)])), (r1, .inl (cI, 30, .inl (aI tk)))]) hD hS hA [5, 6] rfl
  refine va_callv (va_runV (As := [.int (nI N)]) (rest := []) ⟨hx, hb, hml, hown, htg⟩ (c_Ro_begin l dC dI cI cL cZ s.heap.size hro r1 c0 as0 tk N ) (cwV 1 htg (gdV k2_125 k2_126 k2_127 k1_6 kc_Ro_begin) rfl rfl rfl (by decide +kernel) ⟨Nat.le_of_ble_eq_true rfl, Nat.le_of_ble_eq_true rfl⟩) ⟨bk_blindW, va_recv hK hP (ci := 5) (q0 := 5) rfl rfl, fun U hU hW => ⟨rfl, nw_warm hW hN, by rw [hU], by rw [hU]; exact hPc, va_K.moved hW.alike hK, hDc.weaken (fun _ _ _ _ => trivial)⟩⟩ rfl rfl hl.1 rfl (lv_room (Nat.le_of_ble_eq_true rfl)) d_Ri_take_4 ⟨Nat.le_of_ble_eq_true rfl, Nat.le_of_ble_eq_true rfl⟩) hS (fun q _ h => hFc q h) hFc (fun u t H1 locs ht hvm e4 hB hz1 hk1 hS => ?_)
  obtain ⟨hP1, hK1, hD1⟩ := hB
  rw [ht] at hP1
  try dsimp only at e4
  obtain ⟨hP, hD⟩ := va_join (wr := [(h, .inr (4, [.ref a1, .ref a2])), (a1, .inl (cI, 10, .inl (aI wt))), (a2, .inl (cI, 30, .inl (aI wl))), (hbk, .inr (1, [.ref b1, .ref b2, .ref b3, .ref b4, .int (nI n)])), (b1, .inl (cI, 30, .inl (aI sh)))]) (w1 := [(hro, .inr (5, [.ref r1, .int (nI 0), .int (nI N)])), (r1, .inl (cI, 30, .inl (aI tk)))]) hP hD [5, 6] [0, 1, 2, 3, 4] rfl rfl (by decide) (by decide) hk1 hFc hP1 hD1
  generalize H1 = H at hP hS ⊢
  have hP : va_P (dC, dI) vwCl [(h, .inr (4, [.ref a1, .ref a2])), (a1, .inl (cI, 10, .inl (aI wt))), (a2, .inl (cI, 30, .inl (aI wl))), (hbk, .inr (1, [.ref b1, .ref b2, .ref b3, .ref b4, .int (nI n)])), (b1, .inl (cI, 30, .inl (aI sh))), (hro, .inr (5, [.ref r1, .int (nI 0), .int (nI N)])), (r1, .inl (cI, 30, .inl (aI tk)))] H := hP.sub [0, 1, 2, 3, 4, 5, 6] rfl
  have hD : va_D A [(h, .inr (4, [.ref a1, .ref a2])), (a1, .inl (cI, 10, .inl (aI wt))), (a2, .inl (cI, 30, .inl (aI wl))), (hbk, .inr (1, [.ref b1, .ref b2, .ref b3, .ref b4, .int (nI n)])), (b1, .inl (cI, 30, .inl (aI sh))), (hro, .inr (5, [.ref r1, .int (nI 0), .int (nI N)])), (r1, .inl (cI, 30, .inl (aI tk)))] := hD.sub [0, 1, 2, 3, 4, 5, 6] (by decide) rfl
  refine lv_aload_n hx hb d_Ri_take_7 rfl (lv_at hl 0 rfl) ?_
  refine lv_aload_n hx hb d_Ri_take_8 rfl (lv_at hl 1 rfl) ?_
  have hPc := hP.sub (ws' := [(h, .inr (4, [.ref a1, .ref a2])), (a1, .inl (cI, 10, .inl (aI wt))), (a2, .inl (cI, 30, .inl (aI wl))), (hbk, .inr (1, [.ref b1, .ref b2, .ref b3, .ref b4, .int (nI n)])), (b1, .inl (cI, 30, .inl (aI sh)))]) [0, 1, 2, 3, 4] rfl
  have hDc := hD.sub (ws' := [(h, .inr (4, [.ref a1, .ref a2])), (a1, .inl (cI, 10, .inl (aI wt))), (a2, .inl (cI, 30, .inl (aI wl))), (hbk, .inr (1, [.ref b1, .ref b2, .ref b3, .ref b4, .int (nI n)])), (b1, .inl (cI, 30, .inl (aI sh)))]) [0, 1, 2, 3, 4] (by decide) rfl
  have hFc := va_free (wc := [(h, .inr (4, [.ref a1, .ref a2])), (a1, .inl (cI, 10, .inl (aI wt))), (a2, .inl (cI, 30, .inl (aI wl))), (hbk, .inr (1, [.ref b1, .ref b2, .ref b3, .ref b4, .int (nI n)])), (b1, .inl (cI, 30, .inl (aI sh)))]) hD hS hA [0, 1, 2, 3, 4] rfl
  refine va_calli (va_runV (As := [.ref hbk]) (rest := []) ⟨hx, hb, hml, hown, htg⟩ (c_Ri_weighAll l dC dI cI cL cZ H.size h a1 a2 wt wl hbk b1 b2 b3 b4 n sh hn hsh hwt) (cwV 1 htg (gdV k2_129 k2_131 ks_Ri_weighAll k1_5 kc_Ri_weighAll) rfl rfl rfl (by decide +kernel) ⟨Nat.le_of_ble_eq_true rfl, Nat.le_of_ble_eq_true rfl⟩) ⟨bk_blindW, va_recv hK hP (ci := 4) (q0 := 0) rfl rfl, fun U hU hW => ⟨rfl, nw_warm hW hN, by rw [hU], by rw [hU]; exact hPc, va_K.moved hW.alike hK, hDc.weaken (fun _ _ _ _ => trivial)⟩⟩ rfl rfl hl.1 rfl (lv_room (Nat.le_of_ble_eq_true rfl)) d_Ri_take_9 ⟨Nat.le_of_ble_eq_true rfl, Nat.le_of_ble_eq_true rfl⟩) hS (fun q _ h => hFc q h) hFc (fun r9 u t H1 locs ht hvm e9 hB hz1 hk1 hS => ?_)
  obtain ⟨hP1, hK1, hD1⟩ := hB
  rw [ht] at hP1
  try dsimp only at e9
  obtain ⟨wl9, rfl⟩ : ∃ z, z = u := ⟨_, rfl⟩
  obtain ⟨rfl, hw9⟩ := e9
  obtain ⟨hP, hD⟩ := va_join (wr := [(hro, .inr (5, [.ref r1, .int (nI 0), .int (nI N)])), (r1, .inl (cI, 30, .inl (aI tk)))]) (w1 := [(h, .inr (4, [.ref a1, .ref a2])), (a1, .inl (cI, 10, .inl (aI wt))), (a2, .inl (cI, 30, .inl (aI wl9))), (hbk, .inr (1, [.ref b1, .ref b2, .ref b3, .ref b4, .int (nI n)])), (b1, .inl (cI, 30, .inl (aI sh)))]) hP hD [0, 1, 2, 3, 4] [5, 6] rfl rfl (by decide) (by decide) hk1 hFc hP1 hD1
  generalize H1 = H at hP hS ⊢
  have hP : va_P (dC, dI) vwCl [(h, .inr (4, [.ref a1, .ref a2])), (a1, .inl (cI, 10, .inl (aI wt))), (a2, .inl (cI, 30, .inl (aI wl9))), (hbk, .inr (1, [.ref b1, .ref b2, .ref b3, .ref b4, .int (nI n)])), (b1, .inl (cI, 30, .inl (aI sh))), (hro, .inr (5, [.ref r1, .int (nI 0), .int (nI N)])), (r1, .inl (cI, 30, .inl (aI tk)))] H := hP.sub [2, 3, 4, 5, 6, 0, 1] rfl
  have hD : va_D A [(h, .inr (4, [.ref a1, .ref a2])), (a1, .inl (cI, 10, .inl (aI wt))), (a2, .inl (cI, 30, .inl (aI wl9))), (hbk, .inr (1, [.ref b1, .ref b2, .ref b3, .ref b4, .int (nI n)])), (b1, .inl (cI, 30, .inl (aI sh))), (hro, .inr (5, [.ref r1, .int (nI 0), .int (nI N)])), (r1, .inl (cI, 30, .inl (aI tk)))] := hD.sub [2, 3, 4, 5, 6, 0, 1] (by decide) rfl
  refine bk_topi (y := nI (sumN wl9 n)) (by rw [sumN_congr n hw9]) ?_
  refine lv_istore (lv' := [(6, .int (nI (sumN wl9 n))), (0, .ref h), (1, .ref hbk), (2, .long sd), (4, .int (nI N)), (5, .ref hro)]) hx hb d_Ri_take_12 hl (by decide) rfl (fun ls hl => ?_)
  refine lv_lload_n hx hb d_Ri_take_14 rfl (lv_at hl 3 rfl) ?_
  refine lv_lstore (lv' := [(7, .long sd), (6, .int (nI (sumN wl9 n))), (0, .ref h), (1, .ref hbk), (2, .long sd), (4, .int (nI N)), (5, .ref hro)]) hx hb d_Ri_take_15 hl (by decide) rfl (fun ls hl => ?_)
  refine lv_iconst (v := nI 0) hx hb d_Ri_take_17 (by decide +kernel) ?_
  refine lv_istore (lv' := [(9, .int (nI 0)), (7, .long sd), (6, .int (nI (sumN wl9 n))), (0, .ref h), (1, .ref hbk), (2, .long sd), (4, .int (nI N)), (5, .ref hro)]) hx hb d_Ri_take_18 hl (by decide) rfl (fun ls hl => ?_)
  have J20 : ∀ (k : Nat) (i : Nat) (wq : Nat → Nat) (tq : Nat → Nat) (x : Int64), (i + k = N) → (x = (DR n (fun j => wt (sh j)) sd i).1) → (∀ j, j < n → wq j = (DR n (fun j => wt (sh j)) sd i).2 j) → (∀ j, j < i → 0 < sumN (DR n (fun j => wt (sh j)) sd j).2 n) → (∀ j, j < i → tq j = pkD n (fun j => wt (sh j)) sd j ∧ tq j < n) → ∀ (H : Heap) (locs : List Loc), va_P (dC, dI) vwCl [(h, .inr (4, [.ref a1, .ref a2])), (a1, .inl (cI, 10, .inl (aI wt))), (a2, .inl (cI, 30, .inl (aI wq))), (hbk, .inr (1, [.ref b1, .ref b2, .ref b3, .ref b4, .int (nI n)])), (b1, .inl (cI, 30, .inl (aI sh))), (hro, .inr (5, [.ref r1, .int (nI i), .int (nI N)])), (r1, .inl (cI, 30, .inl (aI tq)))] H → va_D A [(h, .inr (4, [.ref a1, .ref a2])), (a1, .inl (cI, 10, .inl (aI wt))), (a2, .inl (cI, 30, .inl (aI wq))), (hbk, .inr (1, [.ref b1, .ref b2, .ref b3, .ref b4, .int (nI n)])), (b1, .inl (cI, 30, .inl (aI sh))), (hro, .inr (5, [.ref r1, .int (nI i), .int (nI N)])), (r1, .inl (cI, 30, .inl (aI tq)))] → va_S A s.heap H locs → ∀ (ls : Array Slot), lv_has ls 11 [(0, .ref h), (1, .ref hbk), (2, .long sd), (4, .int (nI N)), (5, .ref hro), (6, .int (nI (sumN wq n))), (7, .long x), (9, .int (nI i))] → W pr l en (headSpec ws_Ri_take { frames := 1, cells := 0, slots := 0, locals := 24 }).room s m ([.ref h, .ref hbk, .long sd, .int (nI N), .ref hro] : List Value).toArray below meth c H locs 0 0 (MQ below (va_Qv (fun (u : (Nat → Nat) × Nat × (Nat → Nat)) => isDraw n (fun j => wt (sh j)) sd N u.2.1 ∧ ∀ j, j < u.2.1 → u.2.2 j = pkD n (fun j => wt (sh j)) sd j ∧ u.2.2 j < n) (fun (u : (Nat → Nat) × Nat × (Nat → Nat)) => wrQ (dC, dI) vwCl [(cI, .int), (cL, .long), (cZ, .boolean)] A [(h, .inr (4, [.ref a1, .ref a2])), (a1, .inl (cI, 10, .inl (aI wt))), (a2, .inl (cI, 30, .inl (aI u.1))), (hbk, .inr (1, [.ref b1, .ref b2, .ref b3, .ref b4, .int (nI n)])), (b1, .inl (cI, 30, .inl (aI sh))), (hro, .inr (5, [.ref r1, .int (nI u.2.1), .int (nI N)])), (r1, .inl (cI, 30, .inl (aI u.2.2)))]) A) ([.ref h, .ref hbk, .long sd, .int (nI N), .ref hro] : List Value).toArray s 0 0 A) (F0 m 20 ls []) := by
    intro k
    induction k with
    | zero =>
      intro i wq tq x hk hxx hww hpos hpk H locs hP hD hS ls hl
      refine lv_iload hx hb d_Ri_take_20 (lv_at hl 7 rfl) ?_
      refine lv_iload hx hb d_Ri_take_22 (lv_at hl 3 rfl) ?_
      refine bk_icmp_ge (a := i) (b := N) (tgt := 104) hx hb (by omega) (by omega) d_Ri_take_24 (by decide) (fun c24 => ?_) (fun c24 => by exfalso; omega)
      have hP9 := hP.sub (ws' := [(h, .inr (4, [.ref a1, .ref a2])), (a1, .inl (cI, 10, .inl (aI wt))), (a2, .inl (cI, 30, .inl (aI wq))), (hbk, .inr (1, [.ref b1, .ref b2, .ref b3, .ref b4, .int (nI n)])), (b1, .inl (cI, 30, .inl (aI sh))), (hro, .inr (5, [.ref r1, .int (nI i), .int (nI N)])), (r1, .inl (cI, 30, .inl (aI tq)))]) [0, 1, 2, 3, 4, 5, 6] rfl
      have hD9 := hD.sub (ws' := [(h, .inr (4, [.ref a1, .ref a2])), (a1, .inl (cI, 10, .inl (aI wt))), (a2, .inl (cI, 30, .inl (aI wq))), (hbk, .inr (1, [.ref b1, .ref b2, .ref b3, .ref b4, .int (nI n)])), (b1, .inl (cI, 30, .inl (aI sh))), (hro, .inr (5, [.ref r1, .int (nI i), .int (nI N)])), (r1, .inl (cI, 30, .inl (aI tq)))]) [0, 1, 2, 3, 4, 5, 6] (by decide) rfl
      exact W.vret hx hb hr (fun t9 ht9 hW9 => ⟨⟨(wq, i, tq), rfl, ⟨⟨by show i ≤ N; omega, hpos, by first | exact Or.inl (by show i = N; omega) | exact Or.inr (by show sumN (DR n (fun j => wt (sh j)) sd i).2 n = 0; rw [← sumN_congr n hww]; omega)⟩, hpk⟩, by rw [ht9]; exact hP9, va_K.moved hW9.alike hK, hD9⟩, hS.F ht9⟩) hS.2.2 d_Ri_take_104
    | succ k ih20 =>
      intro i wq tq x hk hxx hww hpos hpk H locs hP hD hS ls hl
      refine lv_iload hx hb d_Ri_take_20 (lv_at hl 7 rfl) ?_
      refine lv_iload hx hb d_Ri_take_22 (lv_at hl 3 rfl) ?_
      refine bk_icmp_ge (a := i) (b := N) (tgt := 104) hx hb (by omega) (by omega) d_Ri_take_24 (by decide) (fun c24 => by exfalso; omega) (fun c24 => ?_)
      have hs3 : sumN wq n ≤ n * 2520 := sumN_le n (fun j hj => by rw [hww j hj]; exact dr_le hwt hsh j hj)
      refine lv_iload hx hb d_Ri_take_27 (lv_at hl 5 rfl) ?_
      refine bk_if_le (a := sumN wq n) (tgt := 104) hx hb (by omega) d_Ri_take_29 (by decide) (fun c29 => ?_) (fun c29 => ?_)
      · have hP9 := hP.sub (ws' := [(h, .inr (4, [.ref a1, .ref a2])), (a1, .inl (cI, 10, .inl (aI wt))), (a2, .inl (cI, 30, .inl (aI wq))), (hbk, .inr (1, [.ref b1, .ref b2, .ref b3, .ref b4, .int (nI n)])), (b1, .inl (cI, 30, .inl (aI sh))), (hro, .inr (5, [.ref r1, .int (nI i), .int (nI N)])), (r1, .inl (cI, 30, .inl (aI tq)))]) [0, 1, 2, 3, 4, 5, 6] rfl
        have hD9 := hD.sub (ws' := [(h, .inr (4, [.ref a1, .ref a2])), (a1, .inl (cI, 10, .inl (aI wt))), (a2, .inl (cI, 30, .inl (aI wq))), (hbk, .inr (1, [.ref b1, .ref b2, .ref b3, .ref b4, .int (nI n)])), (b1, .inl (cI, 30, .inl (aI sh))), (hro, .inr (5, [.ref r1, .int (nI i), .int (nI N)])), (r1, .inl (cI, 30, .inl (aI tq)))]) [0, 1, 2, 3, 4, 5, 6] (by decide) rfl
        exact W.vret hx hb hr (fun t9 ht9 hW9 => ⟨⟨(wq, i, tq), rfl, ⟨⟨by show i ≤ N; omega, hpos, by first | exact Or.inl (by show i = N; omega) | exact Or.inr (by show sumN (DR n (fun j => wt (sh j)) sd i).2 n = 0; rw [← sumN_congr n hww]; omega)⟩, hpk⟩, by rw [ht9]; exact hP9, va_K.moved hW9.alike hK, hD9⟩, hS.F ht9⟩) hS.2.2 d_Ri_take_104
      · have hps : 0 < sumN (DR n (fun j => wt (sh j)) sd i).2 n := by rw [← sumN_congr n hww]; omega
        obtain ⟨hpi, hpn⟩ := pickF_rng (w := wq) (r := h33 (nxt x) % sumN wq n) n (Nat.mod_lt _ (by omega))
        have hml2 := Nat.mod_lt (h33 (nxt x)) (show sumN wq n > 0 by omega)
        have h33l := h33_lt (nxt x)
        refine lv_lload hx hb d_Ri_take_32 (lv_at hl 6 rfl) ?_
        refine lv_ldc2 (own := R_Ri) (v := 6364136223846793005) hx hb hown (htg _ k2_133) d_Ri_take_34 ?_
        refine bk_topl (y := lN 6364136223846793005) (by decide +kernel) ?_
        refine lv_lmul hx hb d_Ri_take_37 ?_
        refine lv_ldc2 (own := R_Ri) (v := 1442695040888963407) hx hb hown (htg _ k2_134) d_Ri_take_38 ?_
        refine bk_topl (y := lN 1442695040888963407) (by decide +kernel) ?_
        refine lv_ladd hx hb d_Ri_take_41 ?_
        refine bk_topl (y := nxt x) rfl ?_
        refine lv_lstore (lv' := [(7, .long (nxt x)), (0, .ref h), (1, .ref hbk), (2, .long sd), (4, .int (nI N)), (5, .ref hro), (6, .int (nI (sumN wq n))), (9, .int (nI i))]) hx hb d_Ri_take_42 hl (by decide) rfl (fun ls hl => ?_)
        refine lv_aload_n hx hb d_Ri_take_44 rfl (lv_at hl 1 rfl) ?_
        refine lv_aload_n hx hb d_Ri_take_45 rfl (lv_at hl 2 rfl) ?_
        refine va_get (D := (dC, dI)) (ci := 1) (v := .int (nI n)) (C := R_Bk) (T := F_Bk) (N := 5) hx hb htg iw_Bk hown hK hP 3 rfl rfl 4 (by decide) (htg _ k1_40) (fun _ h9 => h9) rfl d_Ri_take_46 ?_
        refine lv_lload hx hb d_Ri_take_49 (lv_at hl 0 rfl) ?_
        refine lv_bipush (v := nI 33) hx hb d_Ri_take_51 (by decide +kernel) ?_
        refine lv_lushr (v := ((nxt x).toUInt64 >>> ((nI 33).toInt64.toUInt64 &&& Int64.toUInt64 63)).toInt64) hx hb d_Ri_take_53 rfl ?_
        refine bk_topl (y := lN (h33 (nxt x))) (ushr33 _) ?_
        refine lv_iload hx hb d_Ri_take_54 (lv_at hl 6 rfl) ?_
        refine bk_i2l hx hb (by omega) d_Ri_take_56 ?_
        refine bk_lrem hx hb (by omega) (by omega) (by omega) d_Ri_take_57 ?_
        refine bk_l2i hx hb d_Ri_take_58 ?_
        refine vp_callSi (va_runV (As := [.int (nI n), .int (nI ((h33 (nxt x)) % (sumN wq n)))]) (rest := []) ⟨hx, hb, hml, hown, htg⟩ (c_Ri_pageOver l dC dI cI cL cZ h a1 a2 wq n ((h33 (nxt x)) % (sumN wq n)) hn hml2 (fun j hj => by rw [hww j hj]; exact dr_le hwt hsh j hj)) (cwV 2 htg (gdV k2_135 k2_137 ks_Ri_pageOver k1_5 kc_Ri_pageOver) rfl rfl rfl (by decide +kernel) ⟨Nat.le_of_ble_eq_true rfl, Nat.le_of_ble_eq_true rfl⟩) ⟨bk_blind, va_recv hK hP (ci := 4) (q0 := 0) rfl rfl, fun U hU hW => ⟨rfl, nw_warm hW hN, by rw [hU]; exact hP.sub [0, 2] rfl, va_K.moved hW.alike hK⟩⟩ rfl rfl hl.1 rfl (lv_room (Nat.le_of_ble_eq_true rfl)) d_Ri_take_59 ⟨Nat.le_of_ble_eq_true rfl, Nat.le_of_ble_eq_true rfl⟩).run (fun r59 e59 => ?_)
        subst e59
        refine lv_istore (lv' := [(10, .int (nI (pickF wq ((h33 (nxt x)) % (sumN wq n)) n))), (7, .long (nxt x)), (0, .ref h), (1, .ref hbk), (2, .long sd), (4, .int (nI N)), (5, .ref hro), (6, .int (nI (sumN wq n))), (9, .int (nI i))]) hx hb d_Ri_take_62 hl (by decide) rfl (fun ls hl => ?_)
        refine lv_iload hx hb d_Ri_take_64 (lv_at hl 0 rfl) ?_
        refine lv_iconst (v := oI none) hx hb d_Ri_take_66 (by decide +kernel) ?_
        refine bk_ocmp_ne (r := some (pickF wq ((h33 (nxt x)) % (sumN wq n)) n)) (tgt := 71) hx hb (by intro k h; cases h; omega) d_Ri_take_67 (by decide) (fun c67 => ?_) (fun c67 => nomatch c67)
        refine lv_aload hx hb d_Ri_take_71 (lv_at hl 6 rfl) ?_
        refine lv_iload hx hb d_Ri_take_73 (lv_at hl 0 rfl) ?_
        have hPc := hP.sub (ws' := [(hro, .inr (5, [.ref r1, .int (nI i), .int (nI N)])), (r1, .inl (cI, 30, .inl (aI tq)))]) [5, 6] rfl
        have hDc := hD.sub (ws' := [(hro, .inr (5, [.ref r1, .int (nI i), .int (nI N)])), (r1, .inl (cI, 30, .inl (aI tq)))]) [5, 6] (by decide) rfl
        have hFc := va_free (wc := [(hro, .inr (5, [.ref r1, .int (nI i), .int (nI N)])), (r1, .inl (cI, 30, .inl (aI tq)))]) hD hS hA [5, 6] rfl
        refine va_callv (va_runV (As := [.int (nI (pickF wq ((h33 (nxt x)) % (sumN wq n)) n))]) (rest := []) ⟨hx, hb, hml, hown, htg⟩ (c_Ro_append l dC dI cI cL cZ H.size hro r1 i N tq (pickF wq ((h33 (nxt x)) % (sumN wq n)) n) (by omega)) (cwV 1 htg (gdV k2_139 k2_140 k2_141 k1_6 kc_Ro_append) rfl rfl rfl (by decide +kernel) ⟨Nat.le_of_ble_eq_true rfl, Nat.le_of_ble_eq_true rfl⟩) ⟨bk_blindW, va_recv hK hP (ci := 5) (q0 := 5) rfl rfl, fun U hU hW => ⟨rfl, nw_warm hW hN, by rw [hU], by rw [hU]; exact hPc, va_K.moved hW.alike hK, hDc.weaken (fun _ _ _ _ => trivial)⟩⟩ rfl rfl hl.1 rfl (lv_room (Nat.le_of_ble_eq_true rfl)) d_Ri_take_75 ⟨Nat.le_of_ble_eq_true rfl, Nat.le_of_ble_eq_true rfl⟩) hS (fun q _ h => hFc q h) hFc (fun u t H1 locs ht hvm e75 hB hz1 hk1 hS => ?_)
        obtain ⟨hP1, hK1, hD1⟩ := hB
        rw [ht] at hP1
        try dsimp only at e75
        obtain ⟨hP, hD⟩ := va_join (wr := [(h, .inr (4, [.ref a1, .ref a2])), (a1, .inl (cI, 10, .inl (aI wt))), (a2, .inl (cI, 30, .inl (aI wq))), (hbk, .inr (1, [.ref b1, .ref b2, .ref b3, .ref b4, .int (nI n)])), (b1, .inl (cI, 30, .inl (aI sh)))]) (w1 := [(hro, .inr (5, [.ref r1, .int (nI (i + 1)), .int (nI N)])), (r1, .inl (cI, 30, .inl (aI (va_up tq i (pickF wq ((h33 (nxt x)) % (sumN wq n)) n)))))]) hP hD [5, 6] [0, 1, 2, 3, 4] rfl rfl (by decide) (by decide) hk1 hFc hP1 hD1
        generalize H1 = H at hP hS ⊢
        have hP : va_P (dC, dI) vwCl [(h, .inr (4, [.ref a1, .ref a2])), (a1, .inl (cI, 10, .inl (aI wt))), (a2, .inl (cI, 30, .inl (aI wq))), (hbk, .inr (1, [.ref b1, .ref b2, .ref b3, .ref b4, .int (nI n)])), (b1, .inl (cI, 30, .inl (aI sh))), (hro, .inr (5, [.ref r1, .int (nI (i + 1)), .int (nI N)])), (r1, .inl (cI, 30, .inl (aI (va_up tq i (pickF wq ((h33 (nxt x)) % (sumN wq n)) n)))))] H := hP.sub [0, 1, 2, 3, 4, 5, 6] rfl
        have hD : va_D A [(h, .inr (4, [.ref a1, .ref a2])), (a1, .inl (cI, 10, .inl (aI wt))), (a2, .inl (cI, 30, .inl (aI wq))), (hbk, .inr (1, [.ref b1, .ref b2, .ref b3, .ref b4, .int (nI n)])), (b1, .inl (cI, 30, .inl (aI sh))), (hro, .inr (5, [.ref r1, .int (nI (i + 1)), .int (nI N)])), (r1, .inl (cI, 30, .inl (aI (va_up tq i (pickF wq ((h33 (nxt x)) % (sumN wq n)) n)))))] := hD.sub [0, 1, 2, 3, 4, 5, 6] (by decide) rfl
        have hup := sumN_up (w := wq) n hpn
        refine lv_iload hx hb d_Ri_take_78 (lv_at hl 7 rfl) ?_
        refine lv_aload_n hx hb d_Ri_take_80 rfl (lv_at hl 2 rfl) ?_
        refine va_get (D := (dC, dI)) (ci := 4) (v := .ref a2) (C := R_Ri) (T := F_Ri) (N := 2) hx hb htg iw_Ri hown hK hP 0 rfl rfl 1 (by decide) (htg _ k1_105) (fun _ h9 => h9) rfl d_Ri_take_81 ?_
        refine lv_iload hx hb d_Ri_take_84 (lv_at hl 0 rfl) ?_
        refine bk_iald (v := nI (wq (pickF wq ((h33 (nxt x)) % (sumN wq n)) n))) hx hb hK hP 2 0 rfl rfl (by omega) (by decide) rfl d_Ri_take_86 ?_
        refine lv_isub hx hb d_Ri_take_87 ?_
        refine bk_topi (y := nI (sumN (va_up wq (pickF wq (h33 (nxt x) % sumN wq n) n) 0) n)) (by rw [pk_sub (by omega), show sumN wq n - wq (pickF wq (h33 (nxt x) % sumN wq n) n) = sumN (va_up wq (pickF wq (h33 (nxt x) % sumN wq n) n) 0) n by omega]) ?_
        refine lv_istore (lv' := [(6, .int (nI (sumN (va_up wq (pickF wq (h33 (nxt x) % sumN wq n) n) 0) n))), (10, .int (nI (pickF wq ((h33 (nxt x)) % (sumN wq n)) n))), (7, .long (nxt x)), (0, .ref h), (1, .ref hbk), (2, .long sd), (4, .int (nI N)), (5, .ref hro), (9, .int (nI i))]) hx hb d_Ri_take_88 hl (by decide) rfl (fun ls hl => ?_)
        refine lv_aload_n hx hb d_Ri_take_90 rfl (lv_at hl 3 rfl) ?_
        refine va_get (D := (dC, dI)) (ci := 4) (v := .ref a2) (C := R_Ri) (T := F_Ri) (N := 2) hx hb htg iw_Ri hown hK hP 0 rfl rfl 1 (by decide) (htg _ k1_105) (fun _ h9 => h9) rfl d_Ri_take_91 ?_
        refine lv_iload hx hb d_Ri_take_94 (lv_at hl 1 rfl) ?_
        refine lv_iconst (v := nI 0) hx hb d_Ri_take_96 (by decide +kernel) ?_
        refine bk_iast (x := nI 0) (f2 := aI (va_up wq (pickF wq ((h33 (nxt x)) % (sumN wq n)) n) 0)) hx hb hK hP hD hS 2 0 rfl rfl (by omega) (by decide) (aI_up _ _ _) d_Ri_take_97 (fun H locs hP hD hS => ?_)
        have hP : va_P (dC, dI) vwCl [(h, .inr (4, [.ref a1, .ref a2])), (a1, .inl (cI, 10, .inl (aI wt))), (a2, .inl (cI, 30, .inl (aI (va_up wq (pickF wq ((h33 (nxt x)) % (sumN wq n)) n) 0)))), (hbk, .inr (1, [.ref b1, .ref b2, .ref b3, .ref b4, .int (nI n)])), (b1, .inl (cI, 30, .inl (aI sh))), (hro, .inr (5, [.ref r1, .int (nI (i + 1)), .int (nI N)])), (r1, .inl (cI, 30, .inl (aI (va_up tq i (pickF wq ((h33 (nxt x)) % (sumN wq n)) n)))))] H := hP
        have hD : va_D A [(h, .inr (4, [.ref a1, .ref a2])), (a1, .inl (cI, 10, .inl (aI wt))), (a2, .inl (cI, 30, .inl (aI (va_up wq (pickF wq ((h33 (nxt x)) % (sumN wq n)) n) 0)))), (hbk, .inr (1, [.ref b1, .ref b2, .ref b3, .ref b4, .int (nI n)])), (b1, .inl (cI, 30, .inl (aI sh))), (hro, .inr (5, [.ref r1, .int (nI (i + 1)), .int (nI N)])), (r1, .inl (cI, 30, .inl (aI (va_up tq i (pickF wq ((h33 (nxt x)) % (sumN wq n)) n)))))] := hD
        refine lv_iinc (v := nI (i + 1)) (lv' := [(9, .int (nI (i + 1))), (6, .int (nI (sumN (va_up wq (pickF wq (h33 (nxt x) % sumN wq n) n) 0) n))), (10, .int (nI (pickF wq ((h33 (nxt x)) % (sumN wq n)) n))), (7, .long (nxt x)), (0, .ref h), (1, .ref hbk), (2, .long sd), (4, .int (nI N)), (5, .ref hro)]) hx hb d_Ri_take_98 hl (k := 8) rfl (bk_inc i) (by decide) rfl (fun ls hl => ?_)
        refine lv_goto (tgt := 20) hx hb d_Ri_take_101 (by decide) ?_
        exact ih20 (i + 1) (va_up wq (pickF wq ((h33 (nxt x)) % (sumN wq n)) n) 0) (va_up tq i (pickF wq ((h33 (nxt x)) % (sumN wq n)) n)) (nxt x) (by omega) (by rw [DR, ← hxx]) (dr_up hxx hww) (lt_s hpos hps) (pk_up hpk (by rw [pkD, ← hxx, ← sumN_congr n hww, ← pickF_congr n hww]) hpn) _ _ (hP.sub [0, 1, 2, 3, 4, 5, 6] rfl) (hD.sub [0, 1, 2, 3, 4, 5, 6] (by decide) rfl) hS ls (lv_sub hl [4, 5, 6, 7, 8, 1, 3, 0] rfl)
  exact J20 N 0 wl9 tk sd (by omega) rfl hw9 (fun j hj => absurd hj (by omega)) (fun j hj => absurd hj (by omega)) _ _ (hP.sub [0, 1, 2, 3, 4, 5, 6] rfl) (hD.sub [0, 1, 2, 3, 4, 5, 6] (by decide) rfl) hS ls (lv_sub hl [3, 4, 5, 6, 7, 2, 1, 0] rfl)
end
section
set_option maxHeartbeats 4000000 in
set_option maxRecDepth 100000 in
theorem c_In_bitCount (l : Launch) (dC : Nat → ClassId) (dI : Nat → Nat → Nat) (cI cL cZ : ClassId) (x : Int32) : Met l y_In_bitCount ws_In_bitCount { frames := 0, cells := 0, slots := 0, locals := 0 } (va_Pc [.int x] (fun _ => True)) (vp_Si (fun r => r = bcF x)) 0 0 (fun _ => False) := by
  refine Met.ofW (cc := b_In_bitCount) (maxL := 1) (ret := (some .int)) (by decide) rfl ?_
  intro pr en s m args below meth c s₁ B hml hv
  obtain ⟨rfl, -⟩ := hv
  have hx := B.exec
  have hb := B.bytes
  have hr := B.returns
  have hts := atoms_spec (ws := ws_In_bitCount) B.pre
  have htg : ∀ w ∈ gW, w.before _ s = true := fun w h => hts w (List.mem_cons_of_mem _ h)
  have hown : s.vm.findClass R_In = some m.cls := findClass_of_methodNamed B.named
  have hlocks := B.notSynchronized
  have hl := lv_entry ([.int x]) (n := 1) (Nat.le_of_ble_eq_true rfl)
  rw [lg_entry_eq]
  generalize (lg_sl ([.int x]) ++ List.replicate (1 - (lg_sl ([.int x])).length) Slot.unset).toArray = ls at hl ⊢
  have hl : lv_has ls 1 [(0, .int x)] := hl
  refine lv_iload_n hx hb d_In_bitCount_0 rfl (lv_at hl 0 rfl) ?_
  refine lv_iload_n hx hb d_In_bitCount_1 rfl (lv_at hl 0 rfl) ?_
  refine lv_iconst (v := nI 1) hx hb d_In_bitCount_2 (by decide +kernel) ?_
  refine lv_iushr (v := (x.toUInt32 >>> ((nI 1).toUInt32 &&& Int32.toUInt32 31)).toInt32) hx hb d_In_bitCount_3 rfl ?_
  refine lv_ldcw (own := R_In) (v := 1431655765) hx hb hown (htg _ k2_102) d_In_bitCount_4 ?_
  refine bk_topi (y := nI 1431655765) (by decide +kernel) ?_
  refine lv_iand hx hb d_In_bitCount_7 ?_
  refine lv_isub hx hb d_In_bitCount_8 ?_
  refine bk_topi (y := (bc1 x)) rfl ?_
  refine lv_istore_n (lv' := [(0, .int (bc1 x))]) hx hb d_In_bitCount_9 rfl hl (by decide) rfl (fun ls hl => ?_)
  refine lv_iload_n hx hb d_In_bitCount_10 rfl (lv_at hl 0 rfl) ?_
  refine lv_ldcw (own := R_In) (v := 858993459) hx hb hown (htg _ k2_103) d_In_bitCount_11 ?_
  refine bk_topi (y := nI 858993459) (by decide +kernel) ?_
  refine lv_iand hx hb d_In_bitCount_14 ?_
  refine lv_iload_n hx hb d_In_bitCount_15 rfl (lv_at hl 0 rfl) ?_
  refine lv_iconst (v := nI 2) hx hb d_In_bitCount_16 (by decide +kernel) ?_
  refine lv_iushr (v := ((bc1 x).toUInt32 >>> ((nI 2).toUInt32 &&& Int32.toUInt32 31)).toInt32) hx hb d_In_bitCount_17 rfl ?_
  refine lv_ldcw (own := R_In) (v := 858993459) hx hb hown (htg _ k2_103) d_In_bitCount_18 ?_
  refine bk_topi (y := nI 858993459) (by decide +kernel) ?_
  refine lv_iand hx hb d_In_bitCount_21 ?_
  refine lv_iadd hx hb d_In_bitCount_22 ?_
  refine bk_topi (y := (bc2 (bc1 x))) rfl ?_
  refine lv_istore_n (lv' := [(0, .int (bc2 (bc1 x)))]) hx hb d_In_bitCount_23 rfl hl (by decide) rfl (fun ls hl => ?_)
  refine lv_iload_n hx hb d_In_bitCount_24 rfl (lv_at hl 0 rfl) ?_
  refine lv_iload_n hx hb d_In_bitCount_25 rfl (lv_at hl 0 rfl) ?_
  refine lv_iconst (v := nI 4) hx hb d_In_bitCount_26 (by decide +kernel) ?_
  refine lv_iushr (v := ((bc2 (bc1 x)).toUInt32 >>> ((nI 4).toUInt32 &&& Int32.toUInt32 31)).toInt32) hx hb d_In_bitCount_27 rfl ?_
  refine lv_iadd hx hb d_In_bitCount_28 ?_
  refine lv_ldcw (own := R_In) (v := 252645135) hx hb hown (htg _ k2_104) d_In_bitCount_29 ?_
  refine bk_topi (y := nI 252645135) (by decide +kernel) ?_
  refine lv_iand hx hb d_In_bitCount_32 ?_
  refine bk_topi (y := (bc3 (bc2 (bc1 x)))) rfl ?_
  refine lv_istore_n (lv' := [(0, .int (bc3 (bc2 (bc1 x))))]) hx hb d_In_bitCount_33 rfl hl (by decide) rfl (fun ls hl => ?_)
  refine lv_iload_n hx hb d_In_bitCount_34 rfl (lv_at hl 0 rfl) ?_
  refine lv_iload_n hx hb d_In_bitCount_35 rfl (lv_at hl 0 rfl) ?_
  refine lv_bipush (v := nI 8) hx hb d_In_bitCount_36 (by decide +kernel) ?_
  refine lv_iushr (v := ((bc3 (bc2 (bc1 x))).toUInt32 >>> ((nI 8).toUInt32 &&& Int32.toUInt32 31)).toInt32) hx hb d_In_bitCount_38 rfl ?_
  refine lv_iadd hx hb d_In_bitCount_39 ?_
  refine bk_topi (y := (bc4 (bc3 (bc2 (bc1 x))))) rfl ?_
  refine lv_istore_n (lv' := [(0, .int (bc4 (bc3 (bc2 (bc1 x)))))]) hx hb d_In_bitCount_40 rfl hl (by decide) rfl (fun ls hl => ?_)
  refine lv_iload_n hx hb d_In_bitCount_41 rfl (lv_at hl 0 rfl) ?_
  refine lv_iload_n hx hb d_In_bitCount_42 rfl (lv_at hl 0 rfl) ?_
  refine lv_bipush (v := nI 16) hx hb d_In_bitCount_43 (by decide +kernel) ?_
  refine lv_iushr (v := ((bc4 (bc3 (bc2 (bc1 x)))).toUInt32 >>> ((nI 16).toUInt32 &&& Int32.toUInt32 31)).toInt32) hx hb d_In_bitCount_45 rfl ?_
  refine lv_iadd hx hb d_In_bitCount_46 ?_
  refine bk_topi (y := (bc5 (bc4 (bc3 (bc2 (bc1 x)))))) rfl ?_
  refine lv_istore_n (lv' := [(0, .int (bc5 (bc4 (bc3 (bc2 (bc1 x))))))]) hx hb d_In_bitCount_47 rfl hl (by decide) rfl (fun ls hl => ?_)
  refine lv_iload_n hx hb d_In_bitCount_48 rfl (lv_at hl 0 rfl) ?_
  refine lv_bipush (v := nI 63) hx hb d_In_bitCount_49 (by decide +kernel) ?_
  refine lv_iand hx hb d_In_bitCount_51 ?_
  exact W.iret (v := ((bc5 (bc4 (bc3 (bc2 (bc1 x))))) &&& (nI 63))) hx hb hr (fun t9 ht9 hW9 => ⟨((bc5 (bc4 (bc3 (bc2 (bc1 x))))) &&& (nI 63)), rfl, rfl, ht9⟩) (fun q h => nomatch h) d_In_bitCount_52
set_option maxHeartbeats 4000000 in
set_option maxRecDepth 100000 in
theorem c_Pl_has (l : Launch) (dC : Nat → ClassId) (dI : Nat → Nat → Nat) (cI cL cZ : ClassId) (h a1 a2 a3 a4 a5 n : Nat) (x : Int32) (hn : n ≤ 8) : Met l y_Pl_has ws_Pl_has { frames := 0, cells := 0, slots := 0, locals := 0 } (va_Pc [.ref h, .int x] (rdP (dC, dI) vwCl [(cI, .int), (cL, .long), (cZ, .boolean)] [(h, .inr (3, [.ref a1, .ref a2, .ref a3, .ref a4, .ref a5, .int (nI n)]))])) (vp_Si (fun r => (inR n x ∧ r = nI 1) ∨ (¬ inR n x ∧ r = nI 0))) 0 0 (fun _ => False) := by
  refine Met.ofW (cc := b_Pl_has) (maxL := 2) (ret := (some .boolean)) (by decide) rfl ?_
  intro pr en s m args below meth c s₁ B hml hv
  obtain ⟨rfl, hN, hP, hK⟩ := hv
  have hx := B.exec
  have hb := B.bytes
  have hr := B.returns
  have hts := atoms_spec (ws := ws_Pl_has) B.pre
  have htg : ∀ w ∈ gW, w.before _ s = true := fun w h => hts w (List.mem_cons_of_mem _ h)
  have hown : s.vm.findClass R_Pl = some m.cls := findClass_of_methodNamed B.named
  have hlocks := B.notSynchronized
  have hl := lv_entry ([.ref h, .int x]) (n := 2) (Nat.le_of_ble_eq_true rfl)
  rw [lg_entry_eq]
  generalize (lg_sl ([.ref h, .int x]) ++ List.replicate (2 - (lg_sl ([.ref h, .int x])).length) Slot.unset).toArray = ls at hl ⊢
  have hl : lv_has ls 2 [(0, .ref h), (1, .int x)] := hl
  refine lv_iload_n hx hb d_Pl_has_0 rfl (lv_at hl 1 rfl) ?_
  refine lv_if_lt (x := x) (tgt := 16) hx hb d_Pl_has_1 (by decide) (fun c1 => ?_) (fun c1 => ?_)
  · refine lv_iconst (v := nI 0) hx hb d_Pl_has_16 (by decide +kernel) ?_
    exact W.zret (v := nI 0) (ty := .boolean) hx hb hr rfl (fun t9 ht9 hW9 => ⟨nI 0, rfl, Or.inr ⟨by first | exact inR_neg (by omega) (by assumption) | exact inR_big (by omega) (by assumption), rfl⟩, ht9⟩) (fun q h => nomatch h) d_Pl_has_17
  · refine lv_iload_n hx hb d_Pl_has_4 rfl (lv_at hl 1 rfl) ?_
    refine lv_aload_n hx hb d_Pl_has_5 rfl (lv_at hl 0 rfl) ?_
    refine va_get (D := (dC, dI)) (ci := 3) (v := .int (nI n)) (C := R_Pl) (T := F_Pl) (N := 6) hx hb htg iw_Pl hown hK hP 0 rfl rfl 5 (by decide) (htg _ k1_84) (fun _ h9 => h9) rfl d_Pl_has_6 ?_
    refine lv_icmp_ge (x := x) (y := nI n) (tgt := 16) hx hb d_Pl_has_9 (by decide) (fun c9 => ?_) (fun c9 => ?_)
    · refine lv_iconst (v := nI 0) hx hb d_Pl_has_16 (by decide +kernel) ?_
      exact W.zret (v := nI 0) (ty := .boolean) hx hb hr rfl (fun t9 ht9 hW9 => ⟨nI 0, rfl, Or.inr ⟨by first | exact inR_neg (by omega) (by assumption) | exact inR_big (by omega) (by assumption), rfl⟩, ht9⟩) (fun q h => nomatch h) d_Pl_has_17
    · refine lv_iconst (v := nI 1) hx hb d_Pl_has_12 (by decide +kernel) ?_
      refine lv_goto (tgt := 17) hx hb d_Pl_has_13 (by decide) ?_
      exact W.zret (v := nI 1) (ty := .boolean) hx hb hr rfl (fun t9 ht9 hW9 => ⟨nI 1, rfl, Or.inl ⟨inR_of (by omega) (by assumption) (by assumption), rfl⟩, ht9⟩) (fun q h => nomatch h) d_Pl_has_17
set_option maxHeartbeats 4000000 in
set_option maxRecDepth 100000 in
theorem c_Pl_add (l : Launch) (dC : Nat → ClassId) (dI : Nat → Nat → Nat) (cI cL cZ : ClassId) (sz : Nat) (h a1 a2 a3 a4 a5 n : Nat) (inn pk : Nat → Nat) (x1 : Int64) (x2 : Int32) (hn : n ≤ 8) : Met l y_Pl_add ws_Pl_add { frames := 1, cells := 0, slots := 0, locals := 20 } (va_Pc [.ref h, .long x1, .int x2] (wrP (dC, dI) vwCl [(cI, .int), (cL, .long), (cZ, .boolean)] [(h, .inr (3, [.ref a1, .ref a2, .ref a3, .ref a4, .ref a5, .int (nI n)])), (a1, .inl (cL, 8, .inr (.inl (aL inn)))), (a2, .inl (cI, 8, .inl (aI pk)))] sz)) (va_Qi (fun (r : Int32) (u : Nat × (Nat → Nat) × (Nat → Nat)) => (plOk n x1 x2 ∧ r = nI n ∧ u = (n + 1, va_up inn n (tl x1), va_up pk n (tn x2))) ∨ (¬ plOk n x1 x2 ∧ r = oI none ∧ u = (n, inn, pk))) (fun (u : Nat × (Nat → Nat) × (Nat → Nat)) => wrQ (dC, dI) vwCl [(cI, .int), (cL, .long), (cZ, .boolean)] (va_A [(h, .inr (3, [.ref a1, .ref a2, .ref a3, .ref a4, .ref a5, .int (nI n)])), (a1, .inl (cL, 8, .inr (.inl (aL inn)))), (a2, .inl (cI, 8, .inl (aI pk)))] sz) [(h, .inr (3, [.ref a1, .ref a2, .ref a3, .ref a4, .ref a5, .int (nI u.1)])), (a1, .inl (cL, 8, .inr (.inl (aL u.2.1)))), (a2, .inl (cI, 8, .inl (aI u.2.2)))]) (va_A [(h, .inr (3, [.ref a1, .ref a2, .ref a3, .ref a4, .ref a5, .int (nI n)])), (a1, .inl (cL, 8, .inr (.inl (aL inn)))), (a2, .inl (cI, 8, .inl (aI pk)))] sz)) 0 0 (va_A [(h, .inr (3, [.ref a1, .ref a2, .ref a3, .ref a4, .ref a5, .int (nI n)])), (a1, .inl (cL, 8, .inr (.inl (aL inn)))), (a2, .inl (cI, 8, .inl (aI pk)))] sz) := by
  refine Met.ofW (cc := b_Pl_add) (maxL := 5) (ret := (some .int)) (by decide) rfl ?_
  intro pr en s m args below meth c s₁ B hml hv
  obtain ⟨rfl, hN, hsz, hP, hK, hD0⟩ := hv
  have hx := B.exec
  have hb := B.bytes
  have hr := B.returns
  have hts := atoms_spec (ws := ws_Pl_add) B.pre
  have htg : ∀ w ∈ gW, w.before _ s = true := fun w h => hts w (List.mem_cons_of_mem _ h)
  have hown : s.vm.findClass R_Pl = some m.cls := findClass_of_methodNamed B.named
  have hlocks := B.notSynchronized
  subst hsz
  have hD := hD0.self (sz := s.heap.size)
  generalize hAe : va_A [(h, .inr (3, [.ref a1, .ref a2, .ref a3, .ref a4, .ref a5, .int (nI n)])), (a1, .inl (cL, 8, .inr (.inl (aL inn)))), (a2, .inl (cI, 8, .inl (aI pk)))] s.heap.size = A at hD ⊢
  have hA : ∀ q : Nat, s.heap.size ≤ q → A q := fun q h => by rw [← hAe]; exact Or.inr h
  have hS : va_S A s.heap s.heap [] := va_S.rf
  have hP : va_P (dC, dI) vwCl [(h, .inr (3, [.ref a1, .ref a2, .ref a3, .ref a4, .ref a5, .int (nI n)])), (a1, .inl (cL, 8, .inr (.inl (aL inn)))), (a2, .inl (cI, 8, .inl (aI pk)))] s.heap := hP
  have hl := lv_entry ([.ref h, .long x1, .int x2]) (n := 5) (Nat.le_of_ble_eq_true rfl)
  rw [lg_entry_eq]
  generalize (lg_sl ([.ref h, .long x1, .int x2]) ++ List.replicate (5 - (lg_sl ([.ref h, .long x1, .int x2])).length) Slot.unset).toArray = ls at hl ⊢
  have hl : lv_has ls 5 [(0, .ref h), (1, .long x1), (3, .int x2)] := hl
  refine lv_aload_n hx hb d_Pl_add_0 rfl (lv_at hl 0 rfl) ?_
  refine va_get (D := (dC, dI)) (ci := 3) (v := .int (nI n)) (C := R_Pl) (T := F_Pl) (N := 6) hx hb htg iw_Pl hown hK hP 0 rfl rfl 5 (by decide) (htg _ k1_84) (fun _ h9 => h9) rfl d_Pl_add_1 ?_
  refine lv_bipush (v := nI 8) hx hb d_Pl_add_4 (by decide +kernel) ?_
  refine bk_icmp_ge (a := n) (b := 8) (tgt := 30) hx hb (by omega) (by omega) d_Pl_add_6 (by decide) (fun c6 => ?_) (fun c6 => ?_)
  · refine lv_iconst (v := oI none) hx hb d_Pl_add_30 (by decide +kernel) ?_
    have hP9 := hP.sub (ws' := [(h, .inr (3, [.ref a1, .ref a2, .ref a3, .ref a4, .ref a5, .int (nI n)])), (a1, .inl (cL, 8, .inr (.inl (aL inn)))), (a2, .inl (cI, 8, .inl (aI pk)))]) [0, 1, 2] rfl
    have hD9 := hD.sub (ws' := [(h, .inr (3, [.ref a1, .ref a2, .ref a3, .ref a4, .ref a5, .int (nI n)])), (a1, .inl (cL, 8, .inr (.inl (aL inn)))), (a2, .inl (cI, 8, .inl (aI pk)))]) [0, 1, 2] (by decide) rfl
    exact W.iret (v := oI none) hx hb hr (fun t9 ht9 hW9 => ⟨⟨oI none, (n, inn, pk), rfl, Or.inr ⟨fun z9 => by obtain ⟨y1, y2, y3⟩ := z9; first | omega | exact inL_low (by decide) (by decide) c11 y2 | exact inL_high (by decide) c19 y2 | contradiction, rfl, rfl⟩, by rw [ht9]; exact hP9, va_K.moved hW9.alike hK, hD9⟩, hS.F ht9⟩) hS.2.2 d_Pl_add_31
  · refine lv_lload_n hx hb d_Pl_add_9 rfl (lv_at hl 1 rfl) ?_
    refine lv_lconst (v := lN 0) hx hb d_Pl_add_10 (by decide +kernel) ?_
    refine bk_lcmp_lt (x := x1) (y := lN 0) (tgt := 30) hx hb d_Pl_add_11 d_Pl_add_12 (by decide) (fun c11 => ?_) (fun c11 => ?_)
    · refine lv_iconst (v := oI none) hx hb d_Pl_add_30 (by decide +kernel) ?_
      have hP9 := hP.sub (ws' := [(h, .inr (3, [.ref a1, .ref a2, .ref a3, .ref a4, .ref a5, .int (nI n)])), (a1, .inl (cL, 8, .inr (.inl (aL inn)))), (a2, .inl (cI, 8, .inl (aI pk)))]) [0, 1, 2] rfl
      have hD9 := hD.sub (ws' := [(h, .inr (3, [.ref a1, .ref a2, .ref a3, .ref a4, .ref a5, .int (nI n)])), (a1, .inl (cL, 8, .inr (.inl (aL inn)))), (a2, .inl (cI, 8, .inl (aI pk)))]) [0, 1, 2] (by decide) rfl
      exact W.iret (v := oI none) hx hb hr (fun t9 ht9 hW9 => ⟨⟨oI none, (n, inn, pk), rfl, Or.inr ⟨fun z9 => by obtain ⟨y1, y2, y3⟩ := z9; first | omega | exact inL_low (by decide) (by decide) c11 y2 | exact inL_high (by decide) c19 y2 | contradiction, rfl, rfl⟩, by rw [ht9]; exact hP9, va_K.moved hW9.alike hK, hD9⟩, hS.F ht9⟩) hS.2.2 d_Pl_add_31
    · refine lv_lload_n hx hb d_Pl_add_15 rfl (lv_at hl 1 rfl) ?_
      refine lv_ldc2 (own := R_Pl) (v := 1000000000) hx hb hown (htg _ k2_53) d_Pl_add_16 ?_
      refine bk_topl (y := lN 1000000000) (by decide +kernel) ?_
      refine bk_lcmp_gt (x := x1) (y := lN 1000000000) (tgt := 30) hx hb d_Pl_add_19 d_Pl_add_20 (by decide) (fun c19 => ?_) (fun c19 => ?_)
      · refine lv_iconst (v := oI none) hx hb d_Pl_add_30 (by decide +kernel) ?_
        have hP9 := hP.sub (ws' := [(h, .inr (3, [.ref a1, .ref a2, .ref a3, .ref a4, .ref a5, .int (nI n)])), (a1, .inl (cL, 8, .inr (.inl (aL inn)))), (a2, .inl (cI, 8, .inl (aI pk)))]) [0, 1, 2] rfl
        have hD9 := hD.sub (ws' := [(h, .inr (3, [.ref a1, .ref a2, .ref a3, .ref a4, .ref a5, .int (nI n)])), (a1, .inl (cL, 8, .inr (.inl (aL inn)))), (a2, .inl (cI, 8, .inl (aI pk)))]) [0, 1, 2] (by decide) rfl
        exact W.iret (v := oI none) hx hb hr (fun t9 ht9 hW9 => ⟨⟨oI none, (n, inn, pk), rfl, Or.inr ⟨fun z9 => by obtain ⟨y1, y2, y3⟩ := z9; first | omega | exact inL_low (by decide) (by decide) c11 y2 | exact inL_high (by decide) c19 y2 | contradiction, rfl, rfl⟩, by rw [ht9]; exact hP9, va_K.moved hW9.alike hK, hD9⟩, hS.F ht9⟩) hS.2.2 d_Pl_add_31
      · obtain ⟨q, -, hq, hxq⟩ := inL_of (a := 0) (b := 1000000000) (by decide) (by decide) c11 c19
        refine lv_iload_n hx hb d_Pl_add_23 rfl (lv_at hl 2 rfl) ?_
        refine vp_callSi (va_runSN (As := [.int x2]) (rest := []) ⟨hx, hb, hml, hown, htg⟩ (c_B_isKind l dC dI cI cL cZ x2 ) ⟨va_cnB 1 htg (gd kc_B_isKind) rfl rfl rfl (hN _ (List.mem_of_getElem? (i := 8) rfl)) (htg _ k1_1) (by decide +kernel) ⟨Nat.le_of_ble_eq_true rfl, Nat.le_of_ble_eq_true rfl⟩, htg _ k1_204, trivial⟩ ⟨bk_blind0, fun U hU hW => ⟨rfl, trivial⟩⟩ rfl rfl hl.1 rfl (lv_room (Nat.le_of_ble_eq_true rfl)) d_Pl_add_24 ⟨Nat.le_of_ble_eq_true rfl, Nat.le_of_ble_eq_true rfl⟩).run (fun r24 e24 => ?_)
        rcases e24 with ⟨⟨j24, hj24, hx24⟩, rfl⟩ | ⟨n24, rfl⟩
        · refine bk_if_ne (a := 1) (tgt := 32) hx hb (by omega) d_Pl_add_27 (by decide) (fun c27 => ?_) (fun c27 => absurd c27 (by decide))
          refine lv_aload_n hx hb d_Pl_add_32 rfl (lv_at hl 0 rfl) ?_
          refine va_get (D := (dC, dI)) (ci := 3) (v := .int (nI n)) (C := R_Pl) (T := F_Pl) (N := 6) hx hb htg iw_Pl hown hK hP 0 rfl rfl 5 (by decide) (htg _ k1_84) (fun _ h9 => h9) rfl d_Pl_add_33 ?_
          refine lv_istore (lv' := [(4, .int (nI n)), (0, .ref h), (1, .long x1), (3, .int x2)]) hx hb d_Pl_add_36 hl (by decide) rfl (fun ls hl => ?_)
          refine lv_aload_n hx hb d_Pl_add_38 rfl (lv_at hl 1 rfl) ?_
          refine va_get (D := (dC, dI)) (ci := 3) (v := .ref a1) (C := R_Pl) (T := F_Pl) (N := 6) hx hb htg iw_Pl hown hK hP 0 rfl rfl 0 (by decide) (htg _ k1_79) (fun _ h9 => h9) rfl d_Pl_add_39 ?_
          refine lv_iload hx hb d_Pl_add_42 (lv_at hl 0 rfl) ?_
          refine lv_lload_n hx hb d_Pl_add_44 rfl (lv_at hl 2 rfl) ?_
          refine bk_topl (y := lN q) hxq ?_
          refine bk_last (x := lN q) (f2 := aL (va_up inn n q)) hx hb hK hP hD hS 1 1 rfl rfl (by omega) (by decide) (aL_up _ _ _) d_Pl_add_45 (fun H locs hP hD hS => ?_)
          have hP : va_P (dC, dI) vwCl [(h, .inr (3, [.ref a1, .ref a2, .ref a3, .ref a4, .ref a5, .int (nI n)])), (a1, .inl (cL, 8, .inr (.inl (aL (va_up inn n q))))), (a2, .inl (cI, 8, .inl (aI pk)))] H := hP
          have hD : va_D A [(h, .inr (3, [.ref a1, .ref a2, .ref a3, .ref a4, .ref a5, .int (nI n)])), (a1, .inl (cL, 8, .inr (.inl (aL (va_up inn n q))))), (a2, .inl (cI, 8, .inl (aI pk)))] := hD
          refine lv_aload_n hx hb d_Pl_add_46 rfl (lv_at hl 1 rfl) ?_
          refine va_get (D := (dC, dI)) (ci := 3) (v := .ref a2) (C := R_Pl) (T := F_Pl) (N := 6) hx hb htg iw_Pl hown hK hP 0 rfl rfl 1 (by decide) (htg _ k1_80) (fun _ h9 => h9) rfl d_Pl_add_47 ?_
          refine lv_iload hx hb d_Pl_add_50 (lv_at hl 0 rfl) ?_
          refine lv_iload_n hx hb d_Pl_add_52 rfl (lv_at hl 3 rfl) ?_
          refine bk_topi (y := nI j24) hx24 ?_
          refine bk_iast (x := nI j24) (f2 := aI (va_up pk n j24)) hx hb hK hP hD hS 2 0 rfl rfl (by omega) (by decide) (aI_up _ _ _) d_Pl_add_53 (fun H locs hP hD hS => ?_)
          have hP : va_P (dC, dI) vwCl [(h, .inr (3, [.ref a1, .ref a2, .ref a3, .ref a4, .ref a5, .int (nI n)])), (a1, .inl (cL, 8, .inr (.inl (aL (va_up inn n q))))), (a2, .inl (cI, 8, .inl (aI (va_up pk n j24))))] H := hP
          have hD : va_D A [(h, .inr (3, [.ref a1, .ref a2, .ref a3, .ref a4, .ref a5, .int (nI n)])), (a1, .inl (cL, 8, .inr (.inl (aL (va_up inn n q))))), (a2, .inl (cI, 8, .inl (aI (va_up pk n j24))))] := hD
          refine lv_aload_n hx hb d_Pl_add_54 rfl (lv_at hl 1 rfl) ?_
          refine lv_iload hx hb d_Pl_add_55 (lv_at hl 0 rfl) ?_
          refine lv_iconst (v := nI 1) hx hb d_Pl_add_57 (by decide +kernel) ?_
          refine bk_iadd hx hb d_Pl_add_58 ?_
          refine va_put (D := (dC, dI)) (ci := 3) (v := .int (nI (n + 1))) (ty := (t_Pl 5)) (C := R_Pl) (T := F_Pl) (N := 6) hx hb htg iw_Pl t_Pl tk_Pl nm_Pl hown hK hP hD hS 0 rfl rfl 5 (by decide) (htg _ k1_84) (fun _ h9 => h9) rfl (by decide +kernel) rfl rfl (Nat.le_of_ble_eq_true rfl) d_Pl_add_59 (fun H locs hP hD hS => ?_)
          have hP : va_P (dC, dI) vwCl [(h, .inr (3, [.ref a1, .ref a2, .ref a3, .ref a4, .ref a5, .int (nI (n + 1))])), (a1, .inl (cL, 8, .inr (.inl (aL (va_up inn n q))))), (a2, .inl (cI, 8, .inl (aI (va_up pk n j24))))] H := hP
          have hD : va_D A [(h, .inr (3, [.ref a1, .ref a2, .ref a3, .ref a4, .ref a5, .int (nI (n + 1))])), (a1, .inl (cL, 8, .inr (.inl (aL (va_up inn n q))))), (a2, .inl (cI, 8, .inl (aI (va_up pk n j24))))] := hD
          refine lv_iload hx hb d_Pl_add_62 (lv_at hl 0 rfl) ?_
          have hP9 := hP.sub (ws' := [(h, .inr (3, [.ref a1, .ref a2, .ref a3, .ref a4, .ref a5, .int (nI (n + 1))])), (a1, .inl (cL, 8, .inr (.inl (aL (va_up inn n q))))), (a2, .inl (cI, 8, .inl (aI (va_up pk n j24))))]) [0, 1, 2] rfl
          have hD9 := hD.sub (ws' := [(h, .inr (3, [.ref a1, .ref a2, .ref a3, .ref a4, .ref a5, .int (nI (n + 1))])), (a1, .inl (cL, 8, .inr (.inl (aL (va_up inn n q))))), (a2, .inl (cI, 8, .inl (aI (va_up pk n j24))))]) [0, 1, 2] (by decide) rfl
          exact W.iret (v := nI n) hx hb hr (fun t9 ht9 hW9 => ⟨⟨nI n, (n + 1, va_up inn n q, va_up pk n j24), rfl, Or.inl ⟨⟨by omega, ⟨q, by omega, hq, hxq⟩, ⟨j24, hj24, hx24⟩⟩, rfl, by rw [hx24, hxq, tn_nI (by omega), tl_lN (by omega)]⟩, by rw [ht9]; exact hP9, va_K.moved hW9.alike hK, hD9⟩, hS.F ht9⟩) hS.2.2 d_Pl_add_64
        · refine bk_if_ne (a := 0) (tgt := 32) hx hb (by omega) d_Pl_add_27 (by decide) (fun c27 => absurd c27 (by decide)) (fun c27 => ?_)
          refine lv_iconst (v := oI none) hx hb d_Pl_add_30 (by decide +kernel) ?_
          have hP9 := hP.sub (ws' := [(h, .inr (3, [.ref a1, .ref a2, .ref a3, .ref a4, .ref a5, .int (nI n)])), (a1, .inl (cL, 8, .inr (.inl (aL inn)))), (a2, .inl (cI, 8, .inl (aI pk)))]) [0, 1, 2] rfl
          have hD9 := hD.sub (ws' := [(h, .inr (3, [.ref a1, .ref a2, .ref a3, .ref a4, .ref a5, .int (nI n)])), (a1, .inl (cL, 8, .inr (.inl (aL inn)))), (a2, .inl (cI, 8, .inl (aI pk)))]) [0, 1, 2] (by decide) rfl
          exact W.iret (v := oI none) hx hb hr (fun t9 ht9 hW9 => ⟨⟨oI none, (n, inn, pk), rfl, Or.inr ⟨fun z9 => by obtain ⟨y1, y2, y3⟩ := z9; first | omega | exact inL_low (by decide) (by decide) c11 y2 | exact inL_high (by decide) c19 y2 | contradiction, rfl, rfl⟩, by rw [ht9]; exact hP9, va_K.moved hW9.alike hK, hD9⟩, hS.F ht9⟩) hS.2.2 d_Pl_add_31
set_option maxHeartbeats 4000000 in
set_option maxRecDepth 100000 in
theorem c_Pl_addOut (l : Launch) (dC : Nat → ClassId) (dI : Nat → Nat → Nat) (cI cL cZ : ClassId) (sz : Nat) (h a1 a2 a3 a4 a5 n : Nat) (inn pk ou ok og : Nat → Nat) (x1 x2 : Int32) (x3 : Int64) (hi : plI n inn pk ou ok og) : Met l y_Pl_addOut ws_Pl_addOut { frames := 1, cells := 0, slots := 0, locals := 21 } (va_Pc [.ref h, .int x1, .int x2, .long x3] (wrP (dC, dI) vwCl [(cI, .int), (cL, .long), (cZ, .boolean)] [(h, .inr (3, [.ref a1, .ref a2, .ref a3, .ref a4, .ref a5, .int (nI n)])), (a1, .inl (cL, 8, .inr (.inl (aL inn)))), (a2, .inl (cI, 8, .inl (aI pk))), (a3, .inl (cI, 8, .inl (aI ou))), (a4, .inl (cI, 64, .inl (aI ok))), (a5, .inl (cL, 64, .inr (.inl (aL og))))] sz)) (va_Qi (fun (r : Int32) (u : (Nat → Nat) × (Nat → Nat) × (Nat → Nat)) => (outOk n ou x1 x2 x3 ∧ r = nI (ou (tn x1)) ∧ u = (va_up ou (tn x1) (ou (tn x1) + 1), va_up ok (tn x1 * 8 + ou (tn x1)) (tn x2), va_up og (tn x1 * 8 + ou (tn x1)) (tl x3))) ∨ (¬ outOk n ou x1 x2 x3 ∧ r = oI none ∧ u = (ou, ok, og))) (fun (u : (Nat → Nat) × (Nat → Nat) × (Nat → Nat)) => wrQ (dC, dI) vwCl [(cI, .int), (cL, .long), (cZ, .boolean)] (va_A [(h, .inr (3, [.ref a1, .ref a2, .ref a3, .ref a4, .ref a5, .int (nI n)])), (a1, .inl (cL, 8, .inr (.inl (aL inn)))), (a2, .inl (cI, 8, .inl (aI pk))), (a3, .inl (cI, 8, .inl (aI ou))), (a4, .inl (cI, 64, .inl (aI ok))), (a5, .inl (cL, 64, .inr (.inl (aL og))))] sz) [(h, .inr (3, [.ref a1, .ref a2, .ref a3, .ref a4, .ref a5, .int (nI n)])), (a1, .inl (cL, 8, .inr (.inl (aL inn)))), (a2, .inl (cI, 8, .inl (aI pk))), (a3, .inl (cI, 8, .inl (aI u.1))), (a4, .inl (cI, 64, .inl (aI u.2.1))), (a5, .inl (cL, 64, .inr (.inl (aL u.2.2))))]) (va_A [(h, .inr (3, [.ref a1, .ref a2, .ref a3, .ref a4, .ref a5, .int (nI n)])), (a1, .inl (cL, 8, .inr (.inl (aL inn)))), (a2, .inl (cI, 8, .inl (aI pk))), (a3, .inl (cI, 8, .inl (aI ou))), (a4, .inl (cI, 64, .inl (aI ok))), (a5, .inl (cL, 64, .inr (.inl (aL og))))] sz)) 0 0 (va_A [(h, .inr (3, [.ref a1, .ref a2, .ref a3, .ref a4, .ref a5, .int (nI n)])), (a1, .inl (cL, 8, .inr (.inl (aL inn)))), (a2, .inl (cI, 8, .inl (aI pk))), (a3, .inl (cI, 8, .inl (aI ou))), (a4, .inl (cI, 64, .inl (aI ok))), (a5, .inl (cL, 64, .inr (.inl (aL og))))] sz) := by
  refine Met.ofW (cc := b_Pl_addOut) (maxL := 6) (ret := (some .int)) (by decide) rfl ?_
  intro pr en s m args below meth c s₁ B hml hv
  obtain ⟨rfl, hN, hsz, hP, hK, hD0⟩ := hv
  have hx := B.exec
  have hb := B.bytes
  have hr := B.returns
  have hts := atoms_spec (ws := ws_Pl_addOut) B.pre
  have htg : ∀ w ∈ gW, w.before _ s = true := fun w h => hts w (List.mem_cons_of_mem _ h)
  have hown : s.vm.findClass R_Pl = some m.cls := findClass_of_methodNamed B.named
  have hlocks := B.notSynchronized
  subst hsz
  have hD := hD0.self (sz := s.heap.size)
  generalize hAe : va_A [(h, .inr (3, [.ref a1, .ref a2, .ref a3, .ref a4, .ref a5, .int (nI n)])), (a1, .inl (cL, 8, .inr (.inl (aL inn)))), (a2, .inl (cI, 8, .inl (aI pk))), (a3, .inl (cI, 8, .inl (aI ou))), (a4, .inl (cI, 64, .inl (aI ok))), (a5, .inl (cL, 64, .inr (.inl (aL og))))] s.heap.size = A at hD ⊢
  have hA : ∀ q : Nat, s.heap.size ≤ q → A q := fun q h => by rw [← hAe]; exact Or.inr h
  have hS : va_S A s.heap s.heap [] := va_S.rf
  have hP : va_P (dC, dI) vwCl [(h, .inr (3, [.ref a1, .ref a2, .ref a3, .ref a4, .ref a5, .int (nI n)])), (a1, .inl (cL, 8, .inr (.inl (aL inn)))), (a2, .inl (cI, 8, .inl (aI pk))), (a3, .inl (cI, 8, .inl (aI ou))), (a4, .inl (cI, 64, .inl (aI ok))), (a5, .inl (cL, 64, .inr (.inl (aL og))))] s.heap := hP
  have hl := lv_entry ([.ref h, .int x1, .int x2, .long x3]) (n := 6) (Nat.le_of_ble_eq_true rfl)
  rw [lg_entry_eq]
  generalize (lg_sl ([.ref h, .int x1, .int x2, .long x3]) ++ List.replicate (6 - (lg_sl ([.ref h, .int x1, .int x2, .long x3])).length) Slot.unset).toArray = ls at hl ⊢
  have hl : lv_has ls 6 [(0, .ref h), (1, .int x1), (2, .int x2), (3, .long x3)] := hl
  have hn := hi.1
  refine lv_aload_n hx hb d_Pl_addOut_0 rfl (lv_at hl 0 rfl) ?_
  refine lv_iload_n hx hb d_Pl_addOut_1 rfl (lv_at hl 1 rfl) ?_
  refine vp_callSi (va_runV (As := [.int x1]) (rest := []) ⟨hx, hb, hml, hown, htg⟩ (c_Pl_has l dC dI cI cL cZ h a1 a2 a3 a4 a5 n x1 (by omega)) (cwV 1 htg (gdV k2_63 k2_64 k2_65 k1_4 kc_Pl_has) rfl rfl rfl (by decide +kernel) ⟨Nat.le_of_ble_eq_true rfl, Nat.le_of_ble_eq_true rfl⟩) ⟨bk_blind, va_recv hK hP (ci := 3) (q0 := 0) rfl rfl, fun U hU hW => ⟨rfl, nw_warm hW hN, by rw [hU]; exact hP.sub [0] rfl, va_K.moved hW.alike hK⟩⟩ rfl rfl hl.1 rfl (lv_room (Nat.le_of_ble_eq_true rfl)) d_Pl_addOut_2 ⟨Nat.le_of_ble_eq_true rfl, Nat.le_of_ble_eq_true rfl⟩).run (fun r2 e2 => ?_)
  rcases e2 with ⟨⟨j2, hj2, hx2⟩, rfl⟩ | ⟨n2, rfl⟩
  · refine bk_if_eq (a := 1) (tgt := 33) hx hb (by omega) d_Pl_addOut_5 (by decide) (fun c5 => absurd c5 (by decide)) (fun c5 => ?_)
    have hou := (hi.2.1 j2 hj2).2.2.1
    refine lv_iload_n hx hb d_Pl_addOut_8 rfl (lv_at hl 2 rfl) ?_
    refine vp_callSi (va_runSN (As := [.int x2]) (rest := []) ⟨hx, hb, hml, hown, htg⟩ (c_B_isKind l dC dI cI cL cZ x2 ) ⟨va_cnB 1 htg (gd kc_B_isKind) rfl rfl rfl (hN _ (List.mem_of_getElem? (i := 8) rfl)) (htg _ k1_1) (by decide +kernel) ⟨Nat.le_of_ble_eq_true rfl, Nat.le_of_ble_eq_true rfl⟩, htg _ k1_204, trivial⟩ ⟨bk_blind0, fun U hU hW => ⟨rfl, trivial⟩⟩ rfl rfl hl.1 rfl (lv_room (Nat.le_of_ble_eq_true rfl)) d_Pl_addOut_9 ⟨Nat.le_of_ble_eq_true rfl, Nat.le_of_ble_eq_true rfl⟩).run (fun r9 e9 => ?_)
    rcases e9 with ⟨⟨j9, hj9, hx9⟩, rfl⟩ | ⟨n9, rfl⟩
    · refine bk_if_eq (a := 1) (tgt := 33) hx hb (by omega) d_Pl_addOut_12 (by decide) (fun c12 => absurd c12 (by decide)) (fun c12 => ?_)
      refine lv_lload_n hx hb d_Pl_addOut_15 rfl (lv_at hl 3 rfl) ?_
      refine vp_callSi (va_runSN (As := [.long x3]) (rest := []) ⟨hx, hb, hml, hown, htg⟩ (c_B_isWeighed l dC dI cI cL cZ x3 ) ⟨va_cnB 1 htg (gd kc_B_isWeighed) rfl rfl rfl (hN _ (List.mem_of_getElem? (i := 9) rfl)) (htg _ k1_1) (by decide +kernel) ⟨Nat.le_of_ble_eq_true rfl, Nat.le_of_ble_eq_true rfl⟩, htg _ k1_207, trivial⟩ ⟨bk_blind0, fun U hU hW => ⟨rfl, trivial⟩⟩ rfl rfl hl.1 rfl (lv_room (Nat.le_of_ble_eq_true rfl)) d_Pl_addOut_16 ⟨Nat.le_of_ble_eq_true rfl, Nat.le_of_ble_eq_true rfl⟩).run (fun r16 e16 => ?_)
      rcases e16 with ⟨⟨j16, ha16, hj16, hx16⟩, rfl⟩ | ⟨n16, rfl⟩
      · refine bk_if_eq (a := 1) (tgt := 33) hx hb (by omega) d_Pl_addOut_19 (by decide) (fun c19 => absurd c19 (by decide)) (fun c19 => ?_)
        refine lv_aload_n hx hb d_Pl_addOut_22 rfl (lv_at hl 0 rfl) ?_
        refine va_get (D := (dC, dI)) (ci := 3) (v := .ref a3) (C := R_Pl) (T := F_Pl) (N := 6) hx hb htg iw_Pl hown hK hP 0 rfl rfl 2 (by decide) (htg _ k1_81) (fun _ h9 => h9) rfl d_Pl_addOut_23 ?_
        refine lv_iload_n hx hb d_Pl_addOut_26 rfl (lv_at hl 1 rfl) ?_
        refine bk_topi (y := nI j2) hx2 ?_
        refine bk_iald (v := nI (ou j2)) hx hb hK hP 3 0 rfl rfl (by omega) (by decide) rfl d_Pl_addOut_27 ?_
        refine lv_bipush (v := nI 8) hx hb d_Pl_addOut_28 (by decide +kernel) ?_
        refine bk_icmp_lt (a := ou j2) (b := 8) (tgt := 35) hx hb (by omega) (by omega) d_Pl_addOut_30 (by decide) (fun c30 => ?_) (fun c30 => ?_)
        · refine lv_aload_n hx hb d_Pl_addOut_35 rfl (lv_at hl 0 rfl) ?_
          refine va_get (D := (dC, dI)) (ci := 3) (v := .ref a3) (C := R_Pl) (T := F_Pl) (N := 6) hx hb htg iw_Pl hown hK hP 0 rfl rfl 2 (by decide) (htg _ k1_81) (fun _ h9 => h9) rfl d_Pl_addOut_36 ?_
          refine lv_iload_n hx hb d_Pl_addOut_39 rfl (lv_at hl 1 rfl) ?_
          refine bk_topi (y := nI j2) hx2 ?_
          refine bk_iald (v := nI (ou j2)) hx hb hK hP 3 0 rfl rfl (by omega) (by decide) rfl d_Pl_addOut_40 ?_
          refine lv_istore (lv' := [(5, .int (nI (ou j2))), (0, .ref h), (1, .int x1), (2, .int x2), (3, .long x3)]) hx hb d_Pl_addOut_41 hl (by decide) rfl (fun ls hl => ?_)
          refine lv_aload_n hx hb d_Pl_addOut_43 rfl (lv_at hl 1 rfl) ?_
          refine va_get (D := (dC, dI)) (ci := 3) (v := .ref a4) (C := R_Pl) (T := F_Pl) (N := 6) hx hb htg iw_Pl hown hK hP 0 rfl rfl 3 (by decide) (htg _ k1_82) (fun _ h9 => h9) rfl d_Pl_addOut_44 ?_
          refine lv_iload_n hx hb d_Pl_addOut_47 rfl (lv_at hl 2 rfl) ?_
          refine bk_topi (y := nI j2) hx2 ?_
          refine lv_bipush (v := nI 8) hx hb d_Pl_addOut_48 (by decide +kernel) ?_
          refine bk_imul hx hb d_Pl_addOut_50 ?_
          refine lv_iload hx hb d_Pl_addOut_51 (lv_at hl 0 rfl) ?_
          refine bk_iadd hx hb d_Pl_addOut_53 ?_
          refine lv_iload_n hx hb d_Pl_addOut_54 rfl (lv_at hl 3 rfl) ?_
          refine bk_topi (y := nI j9) hx9 ?_
          refine bk_iast (x := nI j9) (f2 := aI (va_up ok ((j2 * 8) + (ou j2)) j9)) hx hb hK hP hD hS 4 0 rfl rfl (by omega) (by decide) (aI_up _ _ _) d_Pl_addOut_55 (fun H locs hP hD hS => ?_)
          have hP : va_P (dC, dI) vwCl [(h, .inr (3, [.ref a1, .ref a2, .ref a3, .ref a4, .ref a5, .int (nI n)])), (a1, .inl (cL, 8, .inr (.inl (aL inn)))), (a2, .inl (cI, 8, .inl (aI pk))), (a3, .inl (cI, 8, .inl (aI ou))), (a4, .inl (cI, 64, .inl (aI (va_up ok ((j2 * 8) + (ou j2)) j9)))), (a5, .inl (cL, 64, .inr (.inl (aL og))))] H := hP
          have hD : va_D A [(h, .inr (3, [.ref a1, .ref a2, .ref a3, .ref a4, .ref a5, .int (nI n)])), (a1, .inl (cL, 8, .inr (.inl (aL inn)))), (a2, .inl (cI, 8, .inl (aI pk))), (a3, .inl (cI, 8, .inl (aI ou))), (a4, .inl (cI, 64, .inl (aI (va_up ok ((j2 * 8) + (ou j2)) j9)))), (a5, .inl (cL, 64, .inr (.inl (aL og))))] := hD
          refine lv_aload_n hx hb d_Pl_addOut_56 rfl (lv_at hl 1 rfl) ?_
          refine va_get (D := (dC, dI)) (ci := 3) (v := .ref a5) (C := R_Pl) (T := F_Pl) (N := 6) hx hb htg iw_Pl hown hK hP 0 rfl rfl 4 (by decide) (htg _ k1_83) (fun _ h9 => h9) rfl d_Pl_addOut_57 ?_
          refine lv_iload_n hx hb d_Pl_addOut_60 rfl (lv_at hl 2 rfl) ?_
          refine bk_topi (y := nI j2) hx2 ?_
          refine lv_bipush (v := nI 8) hx hb d_Pl_addOut_61 (by decide +kernel) ?_
          refine bk_imul hx hb d_Pl_addOut_63 ?_
          refine lv_iload hx hb d_Pl_addOut_64 (lv_at hl 0 rfl) ?_
          refine bk_iadd hx hb d_Pl_addOut_66 ?_
          refine lv_lload_n hx hb d_Pl_addOut_67 rfl (lv_at hl 4 rfl) ?_
          refine bk_topl (y := lN j16) hx16 ?_
          refine bk_last (x := lN j16) (f2 := aL (va_up og ((j2 * 8) + (ou j2)) j16)) hx hb hK hP hD hS 5 1 rfl rfl (by omega) (by decide) (aL_up _ _ _) d_Pl_addOut_68 (fun H locs hP hD hS => ?_)
          have hP : va_P (dC, dI) vwCl [(h, .inr (3, [.ref a1, .ref a2, .ref a3, .ref a4, .ref a5, .int (nI n)])), (a1, .inl (cL, 8, .inr (.inl (aL inn)))), (a2, .inl (cI, 8, .inl (aI pk))), (a3, .inl (cI, 8, .inl (aI ou))), (a4, .inl (cI, 64, .inl (aI (va_up ok ((j2 * 8) + (ou j2)) j9)))), (a5, .inl (cL, 64, .inr (.inl (aL (va_up og ((j2 * 8) + (ou j2)) j16)))))] H := hP
          have hD : va_D A [(h, .inr (3, [.ref a1, .ref a2, .ref a3, .ref a4, .ref a5, .int (nI n)])), (a1, .inl (cL, 8, .inr (.inl (aL inn)))), (a2, .inl (cI, 8, .inl (aI pk))), (a3, .inl (cI, 8, .inl (aI ou))), (a4, .inl (cI, 64, .inl (aI (va_up ok ((j2 * 8) + (ou j2)) j9)))), (a5, .inl (cL, 64, .inr (.inl (aL (va_up og ((j2 * 8) + (ou j2)) j16)))))] := hD
          refine lv_aload_n hx hb d_Pl_addOut_69 rfl (lv_at hl 1 rfl) ?_
          refine va_get (D := (dC, dI)) (ci := 3) (v := .ref a3) (C := R_Pl) (T := F_Pl) (N := 6) hx hb htg iw_Pl hown hK hP 0 rfl rfl 2 (by decide) (htg _ k1_81) (fun _ h9 => h9) rfl d_Pl_addOut_70 ?_
          refine lv_iload_n hx hb d_Pl_addOut_73 rfl (lv_at hl 2 rfl) ?_
          refine bk_topi (y := nI j2) hx2 ?_
          refine lv_iload hx hb d_Pl_addOut_74 (lv_at hl 0 rfl) ?_
          refine lv_iconst (v := nI 1) hx hb d_Pl_addOut_76 (by decide +kernel) ?_
          refine bk_iadd hx hb d_Pl_addOut_77 ?_
          refine bk_iast (x := nI ((ou j2) + 1)) (f2 := aI (va_up ou j2 ((ou j2) + 1))) hx hb hK hP hD hS 3 0 rfl rfl (by omega) (by decide) (aI_up _ _ _) d_Pl_addOut_78 (fun H locs hP hD hS => ?_)
          have hP : va_P (dC, dI) vwCl [(h, .inr (3, [.ref a1, .ref a2, .ref a3, .ref a4, .ref a5, .int (nI n)])), (a1, .inl (cL, 8, .inr (.inl (aL inn)))), (a2, .inl (cI, 8, .inl (aI pk))), (a3, .inl (cI, 8, .inl (aI (va_up ou j2 ((ou j2) + 1))))), (a4, .inl (cI, 64, .inl (aI (va_up ok ((j2 * 8) + (ou j2)) j9)))), (a5, .inl (cL, 64, .inr (.inl (aL (va_up og ((j2 * 8) + (ou j2)) j16)))))] H := hP
          have hD : va_D A [(h, .inr (3, [.ref a1, .ref a2, .ref a3, .ref a4, .ref a5, .int (nI n)])), (a1, .inl (cL, 8, .inr (.inl (aL inn)))), (a2, .inl (cI, 8, .inl (aI pk))), (a3, .inl (cI, 8, .inl (aI (va_up ou j2 ((ou j2) + 1))))), (a4, .inl (cI, 64, .inl (aI (va_up ok ((j2 * 8) + (ou j2)) j9)))), (a5, .inl (cL, 64, .inr (.inl (aL (va_up og ((j2 * 8) + (ou j2)) j16)))))] := hD
          refine lv_iload hx hb d_Pl_addOut_79 (lv_at hl 0 rfl) ?_
          have hP9 := hP.sub (ws' := [(h, .inr (3, [.ref a1, .ref a2, .ref a3, .ref a4, .ref a5, .int (nI n)])), (a1, .inl (cL, 8, .inr (.inl (aL inn)))), (a2, .inl (cI, 8, .inl (aI pk))), (a3, .inl (cI, 8, .inl (aI (va_up ou j2 ((ou j2) + 1))))), (a4, .inl (cI, 64, .inl (aI (va_up ok ((j2 * 8) + (ou j2)) j9)))), (a5, .inl (cL, 64, .inr (.inl (aL (va_up og ((j2 * 8) + (ou j2)) j16)))))]) [0, 1, 2, 3, 4, 5] rfl
          have hD9 := hD.sub (ws' := [(h, .inr (3, [.ref a1, .ref a2, .ref a3, .ref a4, .ref a5, .int (nI n)])), (a1, .inl (cL, 8, .inr (.inl (aL inn)))), (a2, .inl (cI, 8, .inl (aI pk))), (a3, .inl (cI, 8, .inl (aI (va_up ou j2 ((ou j2) + 1))))), (a4, .inl (cI, 64, .inl (aI (va_up ok ((j2 * 8) + (ou j2)) j9)))), (a5, .inl (cL, 64, .inr (.inl (aL (va_up og ((j2 * 8) + (ou j2)) j16)))))]) [0, 1, 2, 3, 4, 5] (by decide) rfl
          exact W.iret (v := nI (ou j2)) hx hb hr (fun t9 ht9 hW9 => ⟨⟨nI (ou j2), (va_up ou j2 ((ou j2) + 1), va_up ok ((j2 * 8) + (ou j2)) j9, va_up og ((j2 * 8) + (ou j2)) j16), rfl, Or.inl ⟨⟨⟨j2, hj2, hx2⟩, ⟨j9, hj9, hx9⟩, ⟨j16, ha16, hj16, hx16⟩, by rw [hx2, tn_nI (by omega)]; exact c30⟩, by rw [hx2, tn_nI (by omega)], by rw [hx2, hx9, hx16, tn_nI (by omega), tn_nI (by omega), tl_lN (by omega)]⟩, by rw [ht9]; exact hP9, va_K.moved hW9.alike hK, hD9⟩, hS.F ht9⟩) hS.2.2 d_Pl_addOut_81
        · refine lv_iconst (v := oI none) hx hb d_Pl_addOut_33 (by decide +kernel) ?_
          have hP9 := hP.sub (ws' := [(h, .inr (3, [.ref a1, .ref a2, .ref a3, .ref a4, .ref a5, .int (nI n)])), (a1, .inl (cL, 8, .inr (.inl (aL inn)))), (a2, .inl (cI, 8, .inl (aI pk))), (a3, .inl (cI, 8, .inl (aI ou))), (a4, .inl (cI, 64, .inl (aI ok))), (a5, .inl (cL, 64, .inr (.inl (aL og))))]) [0, 1, 2, 3, 4, 5] rfl
          have hD9 := hD.sub (ws' := [(h, .inr (3, [.ref a1, .ref a2, .ref a3, .ref a4, .ref a5, .int (nI n)])), (a1, .inl (cL, 8, .inr (.inl (aL inn)))), (a2, .inl (cI, 8, .inl (aI pk))), (a3, .inl (cI, 8, .inl (aI ou))), (a4, .inl (cI, 64, .inl (aI ok))), (a5, .inl (cL, 64, .inr (.inl (aL og))))]) [0, 1, 2, 3, 4, 5] (by decide) rfl
          exact W.iret (v := oI none) hx hb hr (fun t9 ht9 hW9 => ⟨⟨oI none, (ou, ok, og), rfl, Or.inr ⟨fun z9 => by obtain ⟨y1, y2, y3, y4⟩ := z9; first | contradiction | (rw [hx2, tn_nI (by omega)] at y4; omega), rfl, rfl⟩, by rw [ht9]; exact hP9, va_K.moved hW9.alike hK, hD9⟩, hS.F ht9⟩) hS.2.2 d_Pl_addOut_34
      · refine bk_if_eq (a := 0) (tgt := 33) hx hb (by omega) d_Pl_addOut_19 (by decide) (fun c19 => ?_) (fun c19 => absurd c19 (by decide))
        refine lv_iconst (v := oI none) hx hb d_Pl_addOut_33 (by decide +kernel) ?_
        have hP9 := hP.sub (ws' := [(h, .inr (3, [.ref a1, .ref a2, .ref a3, .ref a4, .ref a5, .int (nI n)])), (a1, .inl (cL, 8, .inr (.inl (aL inn)))), (a2, .inl (cI, 8, .inl (aI pk))), (a3, .inl (cI, 8, .inl (aI ou))), (a4, .inl (cI, 64, .inl (aI ok))), (a5, .inl (cL, 64, .inr (.inl (aL og))))]) [0, 1, 2, 3, 4, 5] rfl
        have hD9 := hD.sub (ws' := [(h, .inr (3, [.ref a1, .ref a2, .ref a3, .ref a4, .ref a5, .int (nI n)])), (a1, .inl (cL, 8, .inr (.inl (aL inn)))), (a2, .inl (cI, 8, .inl (aI pk))), (a3, .inl (cI, 8, .inl (aI ou))), (a4, .inl (cI, 64, .inl (aI ok))), (a5, .inl (cL, 64, .inr (.inl (aL og))))]) [0, 1, 2, 3, 4, 5] (by decide) rfl
        exact W.iret (v := oI none) hx hb hr (fun t9 ht9 hW9 => ⟨⟨oI none, (ou, ok, og), rfl, Or.inr ⟨fun z9 => by obtain ⟨y1, y2, y3, y4⟩ := z9; first | contradiction | (rw [hx2, tn_nI (by omega)] at y4; omega), rfl, rfl⟩, by rw [ht9]; exact hP9, va_K.moved hW9.alike hK, hD9⟩, hS.F ht9⟩) hS.2.2 d_Pl_addOut_34
    · refine bk_if_eq (a := 0) (tgt := 33) hx hb (by omega) d_Pl_addOut_12 (by decide) (fun c12 => ?_) (fun c12 => absurd c12 (by decide))
      refine lv_iconst (v := oI none) hx hb d_Pl_addOut_33 (by decide +kernel) ?_
      have hP9 := hP.sub (ws' := [(h, .inr (3, [.ref a1, .ref a2, .ref a3, .ref a4, .ref a5, .int (nI n)])), (a1, .inl (cL, 8, .inr (.inl (aL inn)))), (a2, .inl (cI, 8, .inl (aI pk))), (a3, .inl (cI, 8, .inl (aI ou))), (a4, .inl (cI, 64, .inl (aI ok))), (a5, .inl (cL, 64, .inr (.inl (aL og))))]) [0, 1, 2, 3, 4, 5] rfl
      have hD9 := hD.sub (ws' := [(h, .inr (3, [.ref a1, .ref a2, .ref a3, .ref a4, .ref a5, .int (nI n)])), (a1, .inl (cL, 8, .inr (.inl (aL inn)))), (a2, .inl (cI, 8, .inl (aI pk))), (a3, .inl (cI, 8, .inl (aI ou))), (a4, .inl (cI, 64, .inl (aI ok))), (a5, .inl (cL, 64, .inr (.inl (aL og))))]) [0, 1, 2, 3, 4, 5] (by decide) rfl
      exact W.iret (v := oI none) hx hb hr (fun t9 ht9 hW9 => ⟨⟨oI none, (ou, ok, og), rfl, Or.inr ⟨fun z9 => by obtain ⟨y1, y2, y3, y4⟩ := z9; first | contradiction | (rw [hx2, tn_nI (by omega)] at y4; omega), rfl, rfl⟩, by rw [ht9]; exact hP9, va_K.moved hW9.alike hK, hD9⟩, hS.F ht9⟩) hS.2.2 d_Pl_addOut_34
  · refine bk_if_eq (a := 0) (tgt := 33) hx hb (by omega) d_Pl_addOut_5 (by decide) (fun c5 => ?_) (fun c5 => absurd c5 (by decide))
    refine lv_iconst (v := oI none) hx hb d_Pl_addOut_33 (by decide +kernel) ?_
    have hP9 := hP.sub (ws' := [(h, .inr (3, [.ref a1, .ref a2, .ref a3, .ref a4, .ref a5, .int (nI n)])), (a1, .inl (cL, 8, .inr (.inl (aL inn)))), (a2, .inl (cI, 8, .inl (aI pk))), (a3, .inl (cI, 8, .inl (aI ou))), (a4, .inl (cI, 64, .inl (aI ok))), (a5, .inl (cL, 64, .inr (.inl (aL og))))]) [0, 1, 2, 3, 4, 5] rfl
    have hD9 := hD.sub (ws' := [(h, .inr (3, [.ref a1, .ref a2, .ref a3, .ref a4, .ref a5, .int (nI n)])), (a1, .inl (cL, 8, .inr (.inl (aL inn)))), (a2, .inl (cI, 8, .inl (aI pk))), (a3, .inl (cI, 8, .inl (aI ou))), (a4, .inl (cI, 64, .inl (aI ok))), (a5, .inl (cL, 64, .inr (.inl (aL og))))]) [0, 1, 2, 3, 4, 5] (by decide) rfl
    exact W.iret (v := oI none) hx hb hr (fun t9 ht9 hW9 => ⟨⟨oI none, (ou, ok, og), rfl, Or.inr ⟨fun z9 => by obtain ⟨y1, y2, y3, y4⟩ := z9; first | contradiction | (rw [hx2, tn_nI (by omega)] at y4; omega), rfl, rfl⟩, by rw [ht9]; exact hP9, va_K.moved hW9.alike hK, hD9⟩, hS.F ht9⟩) hS.2.2 d_Pl_addOut_34
set_option maxHeartbeats 4000000 in
set_option maxRecDepth 100000 in
theorem c_Pl_ownKind (l : Launch) (dC : Nat → ClassId) (dI : Nat → Nat → Nat) (cI cL cZ : ClassId) (h a1 a2 a3 a4 a5 n : Nat) (inn pk ou ok og : Nat → Nat) (p : Nat) (hi : plI n inn pk ou ok og) (hp : p < n) : Met l y_Pl_ownKind ws_Pl_ownKind { frames := 0, cells := 0, slots := 0, locals := 0 } (va_Pc [.ref h, .int (nI p)] (rdP (dC, dI) vwCl [(cI, .int), (cL, .long), (cZ, .boolean)] [(h, .inr (3, [.ref a1, .ref a2, .ref a3, .ref a4, .ref a5, .int (nI n)])), (a1, .inl (cL, 8, .inr (.inl (aL inn)))), (a2, .inl (cI, 8, .inl (aI pk))), (a3, .inl (cI, 8, .inl (aI ou))), (a4, .inl (cI, 64, .inl (aI ok))), (a5, .inl (cL, 64, .inr (.inl (aL og))))])) (vp_Si (fun r => r = nI (ownM ok pk p (ou p)))) 0 0 (fun _ => False) := by
  refine Met.ofW (cc := b_Pl_ownKind) (maxL := 4) (ret := (some .int)) (by decide) rfl ?_
  intro pr en s m args below meth c s₁ B hml hv
  obtain ⟨rfl, hN, hP, hK⟩ := hv
  have hx := B.exec
  have hb := B.bytes
  have hr := B.returns
  have hts := atoms_spec (ws := ws_Pl_ownKind) B.pre
  have htg : ∀ w ∈ gW, w.before _ s = true := fun w h => hts w (List.mem_cons_of_mem _ h)
  have hown : s.vm.findClass R_Pl = some m.cls := findClass_of_methodNamed B.named
  have hlocks := B.notSynchronized
  have hl := lv_entry ([.ref h, .int (nI p)]) (n := 4) (Nat.le_of_ble_eq_true rfl)
  rw [lg_entry_eq]
  generalize (lg_sl ([.ref h, .int (nI p)]) ++ List.replicate (4 - (lg_sl ([.ref h, .int (nI p)])).length) Slot.unset).toArray = ls at hl ⊢
  have hl : lv_has ls 4 [(0, .ref h), (1, .int (nI p))] := hl
  have hn := hi.1
  obtain ⟨f1, f2, f3, f4⟩ := hi.2.1 p hp
  refine lv_iconst (v := nI 0) hx hb d_Pl_ownKind_0 (by decide +kernel) ?_
  refine lv_istore_n (lv' := [(2, .int (nI 0)), (0, .ref h), (1, .int (nI p))]) hx hb d_Pl_ownKind_1 rfl hl (by decide) rfl (fun ls hl => ?_)
  refine lv_iconst (v := nI 0) hx hb d_Pl_ownKind_2 (by decide +kernel) ?_
  refine lv_istore_n (lv' := [(3, .int (nI 0)), (2, .int (nI 0)), (0, .ref h), (1, .int (nI p))]) hx hb d_Pl_ownKind_3 rfl hl (by decide) rfl (fun ls hl => ?_)
  have J4 : ∀ (k : Nat) (i : Nat) (s0 : Nat), (i + k = ou p) → (s0 = ownM ok pk p i) → ∀ (ls : Array Slot), lv_has ls 4 [(0, .ref h), (1, .int (nI p)), (2, .int (nI s0)), (3, .int (nI i))] → W pr l en (headSpec ws_Pl_ownKind { frames := 0, cells := 0, slots := 0, locals := 0 }).room s m ([.ref h, .int (nI p)] : List Value).toArray below meth c s.heap [] 0 0 (MQ below (vp_Si (fun r => r = nI (ownM ok pk p (ou p)))) ([.ref h, .int (nI p)] : List Value).toArray s 0 0 (fun _ => False)) (F0 m 4 ls []) := by
    intro k
    induction k with
    | zero =>
      intro i s0 hk hs0 ls hl
      refine lv_iload_n hx hb d_Pl_ownKind_4 rfl (lv_at hl 3 rfl) ?_
      refine lv_aload_n hx hb d_Pl_ownKind_5 rfl (lv_at hl 0 rfl) ?_
      refine va_get (D := (dC, dI)) (ci := 3) (v := .ref a3) (C := R_Pl) (T := F_Pl) (N := 6) hx hb htg iw_Pl hown hK hP 0 rfl rfl 2 (by decide) (htg _ k1_81) (fun _ h9 => h9) rfl d_Pl_ownKind_6 ?_
      refine lv_iload_n hx hb d_Pl_ownKind_9 rfl (lv_at hl 1 rfl) ?_
      refine bk_iald (v := nI (ou p)) hx hb hK hP 3 0 rfl rfl (by omega) (by decide) rfl d_Pl_ownKind_10 ?_
      refine bk_icmp_ge (a := i) (b := ou p) (tgt := 46) hx hb (by omega) (by omega) d_Pl_ownKind_11 (by decide) (fun c11 => ?_) (fun c11 => by exfalso; omega)
      refine lv_iload_n hx hb d_Pl_ownKind_46 rfl (lv_at hl 2 rfl) ?_
      exact W.iret (v := nI s0) hx hb hr (fun t9 ht9 hW9 => ⟨nI s0, rfl, (by rw [hs0, show i = ou p by omega]), ht9⟩) (fun q h => nomatch h) d_Pl_ownKind_47
    | succ k ih4 =>
      intro i s0 hk hs0 ls hl
      have g1 := (f4 i (by omega)).1
      have hlt := ownM_lt ok pk p i
      refine lv_iload_n hx hb d_Pl_ownKind_4 rfl (lv_at hl 3 rfl) ?_
      refine lv_aload_n hx hb d_Pl_ownKind_5 rfl (lv_at hl 0 rfl) ?_
      refine va_get (D := (dC, dI)) (ci := 3) (v := .ref a3) (C := R_Pl) (T := F_Pl) (N := 6) hx hb htg iw_Pl hown hK hP 0 rfl rfl 2 (by decide) (htg _ k1_81) (fun _ h9 => h9) rfl d_Pl_ownKind_6 ?_
      refine lv_iload_n hx hb d_Pl_ownKind_9 rfl (lv_at hl 1 rfl) ?_
      refine bk_iald (v := nI (ou p)) hx hb hK hP 3 0 rfl rfl (by omega) (by decide) rfl d_Pl_ownKind_10 ?_
      refine bk_icmp_ge (a := i) (b := ou p) (tgt := 46) hx hb (by omega) (by omega) d_Pl_ownKind_11 (by decide) (fun c11 => by exfalso; omega) (fun c11 => ?_)
      refine lv_aload_n hx hb d_Pl_ownKind_14 rfl (lv_at hl 0 rfl) ?_
      refine va_get (D := (dC, dI)) (ci := 3) (v := .ref a4) (C := R_Pl) (T := F_Pl) (N := 6) hx hb htg iw_Pl hown hK hP 0 rfl rfl 3 (by decide) (htg _ k1_82) (fun _ h9 => h9) rfl d_Pl_ownKind_15 ?_
      refine lv_iload_n hx hb d_Pl_ownKind_18 rfl (lv_at hl 1 rfl) ?_
      refine lv_bipush (v := nI 8) hx hb d_Pl_ownKind_19 (by decide +kernel) ?_
      refine bk_imul hx hb d_Pl_ownKind_21 ?_
      refine lv_iload_n hx hb d_Pl_ownKind_22 rfl (lv_at hl 3 rfl) ?_
      refine bk_iadd hx hb d_Pl_ownKind_23 ?_
      refine bk_iald (v := nI (ok ((p * 8) + i))) hx hb hK hP 4 0 rfl rfl (by omega) (by decide) rfl d_Pl_ownKind_24 ?_
      refine lv_aload_n hx hb d_Pl_ownKind_25 rfl (lv_at hl 0 rfl) ?_
      refine va_get (D := (dC, dI)) (ci := 3) (v := .ref a2) (C := R_Pl) (T := F_Pl) (N := 6) hx hb htg iw_Pl hown hK hP 0 rfl rfl 1 (by decide) (htg _ k1_80) (fun _ h9 => h9) rfl d_Pl_ownKind_26 ?_
      refine lv_iload_n hx hb d_Pl_ownKind_29 rfl (lv_at hl 1 rfl) ?_
      refine bk_iald (v := nI (pk p)) hx hb hK hP 2 0 rfl rfl (by omega) (by decide) rfl d_Pl_ownKind_30 ?_
      refine bk_icmp_ne (a := ok ((p * 8) + i)) (b := pk p) (tgt := 40) hx hb (by omega) (by omega) d_Pl_ownKind_31 (by decide) (fun c31 => ?_) (fun c31 => ?_)
      · refine lv_iinc (v := nI (i + 1)) (lv' := [(3, .int (nI (i + 1))), (0, .ref h), (1, .int (nI p)), (2, .int (nI s0))]) hx hb d_Pl_ownKind_40 hl (k := 3) rfl (bk_inc i) (by decide) rfl (fun ls hl => ?_)
        refine lv_goto (tgt := 4) hx hb d_Pl_ownKind_43 (by decide) ?_
        exact ih4 (i + 1) s0 (by omega) (by rw [ownM, hs0, if_neg c31, Nat.add_zero]) ls (lv_sub hl [1, 2, 3, 0] rfl)
      · refine lv_iload_n hx hb d_Pl_ownKind_34 rfl (lv_at hl 2 rfl) ?_
        refine lv_iconst (v := nI 1) hx hb d_Pl_ownKind_35 (by decide +kernel) ?_
        refine lv_iload_n hx hb d_Pl_ownKind_36 rfl (lv_at hl 3 rfl) ?_
        refine lv_ishl hx hb d_Pl_ownKind_37 ?_
        refine lv_ior hx hb d_Pl_ownKind_38 ?_
        refine bk_topi (y := nI (s0 + 2 ^ i)) (bit_or i (by omega) s0 (by rw [hs0]; exact hlt)) ?_
        refine lv_istore_n (lv' := [(2, .int (nI (s0 + 2 ^ i))), (0, .ref h), (1, .int (nI p)), (3, .int (nI i))]) hx hb d_Pl_ownKind_39 rfl hl (by decide) rfl (fun ls hl => ?_)
        refine lv_iinc (v := nI (i + 1)) (lv' := [(3, .int (nI (i + 1))), (2, .int (nI (s0 + 2 ^ i))), (0, .ref h), (1, .int (nI p))]) hx hb d_Pl_ownKind_40 hl (k := 3) rfl (bk_inc i) (by decide) rfl (fun ls hl => ?_)
        refine lv_goto (tgt := 4) hx hb d_Pl_ownKind_43 (by decide) ?_
        exact ih4 (i + 1) (s0 + 2 ^ i) (by omega) (by rw [ownM, hs0, if_pos c31]) ls (lv_sub hl [2, 3, 1, 0] rfl)
  exact J4 (ou p) 0 0 (by omega) rfl ls (lv_sub hl [2, 3, 1, 0] rfl)
set_option maxHeartbeats 4000000 in
set_option maxRecDepth 100000 in
theorem c_Pl_gramsOfSet (l : Launch) (dC : Nat → ClassId) (dI : Nat → Nat → Nat) (cI cL cZ : ClassId) (h a1 a2 a3 a4 a5 n : Nat) (inn pk ou ok og : Nat → Nat) (p s0 : Nat) (hi : plI n inn pk ou ok og) (hp : p < n) (hs : s0 < 256) : Met l y_Pl_gramsOfSet ws_Pl_gramsOfSet { frames := 0, cells := 0, slots := 0, locals := 0 } (va_Pc [.ref h, .int (nI p), .int (nI s0)] (rdP (dC, dI) vwCl [(cI, .int), (cL, .long), (cZ, .boolean)] [(h, .inr (3, [.ref a1, .ref a2, .ref a3, .ref a4, .ref a5, .int (nI n)])), (a1, .inl (cL, 8, .inr (.inl (aL inn)))), (a2, .inl (cI, 8, .inl (aI pk))), (a3, .inl (cI, 8, .inl (aI ou))), (a4, .inl (cI, 64, .inl (aI ok))), (a5, .inl (cL, 64, .inr (.inl (aL og))))])) (vp_Sl (fun r => r = lN (gsum og p s0 (ou p)))) 0 0 (fun _ => False) := by
  refine Met.ofW (cc := b_Pl_gramsOfSet) (maxL := 6) (ret := (some .long)) (by decide) rfl ?_
  intro pr en s m args below meth c s₁ B hml hv
  obtain ⟨rfl, hN, hP, hK⟩ := hv
  have hx := B.exec
  have hb := B.bytes
  have hr := B.returns
  have hts := atoms_spec (ws := ws_Pl_gramsOfSet) B.pre
  have htg : ∀ w ∈ gW, w.before _ s = true := fun w h => hts w (List.mem_cons_of_mem _ h)
  have hown : s.vm.findClass R_Pl = some m.cls := findClass_of_methodNamed B.named
  have hlocks := B.notSynchronized
  have hl := lv_entry ([.ref h, .int (nI p), .int (nI s0)]) (n := 6) (Nat.le_of_ble_eq_true rfl)
  rw [lg_entry_eq]
  generalize (lg_sl ([.ref h, .int (nI p), .int (nI s0)]) ++ List.replicate (6 - (lg_sl ([.ref h, .int (nI p), .int (nI s0)])).length) Slot.unset).toArray = ls at hl ⊢
  have hl : lv_has ls 6 [(0, .ref h), (1, .int (nI p)), (2, .int (nI s0))] := hl
  have hn := hi.1
  obtain ⟨f1, f2, f3, f4⟩ := hi.2.1 p hp
  refine lv_lconst (v := lN 0) hx hb d_Pl_gramsOfSet_0 (by decide +kernel) ?_
  refine lv_lstore_n (lv' := [(3, .long (lN 0)), (0, .ref h), (1, .int (nI p)), (2, .int (nI s0))]) hx hb d_Pl_gramsOfSet_1 rfl hl (by decide) rfl (fun ls hl => ?_)
  refine lv_iconst (v := nI 0) hx hb d_Pl_gramsOfSet_2 (by decide +kernel) ?_
  refine lv_istore (lv' := [(5, .int (nI 0)), (3, .long (lN 0)), (0, .ref h), (1, .int (nI p)), (2, .int (nI s0))]) hx hb d_Pl_gramsOfSet_3 hl (by decide) rfl (fun ls hl => ?_)
  have J5 : ∀ (k : Nat) (i : Nat) (t : Nat), (i + k = ou p) → (t = gsum og p s0 i) → ∀ (ls : Array Slot), lv_has ls 6 [(0, .ref h), (1, .int (nI p)), (2, .int (nI s0)), (3, .long (lN t)), (5, .int (nI i))] → W pr l en (headSpec ws_Pl_gramsOfSet { frames := 0, cells := 0, slots := 0, locals := 0 }).room s m ([.ref h, .int (nI p), .int (nI s0)] : List Value).toArray below meth c s.heap [] 0 0 (MQ below (vp_Sl (fun r => r = lN (gsum og p s0 (ou p)))) ([.ref h, .int (nI p), .int (nI s0)] : List Value).toArray s 0 0 (fun _ => False)) (F0 m 5 ls []) := by
    intro k
    induction k with
    | zero =>
      intro i t hk htt ls hl
      refine lv_iload hx hb d_Pl_gramsOfSet_5 (lv_at hl 4 rfl) ?_
      refine lv_aload_n hx hb d_Pl_gramsOfSet_7 rfl (lv_at hl 0 rfl) ?_
      refine va_get (D := (dC, dI)) (ci := 3) (v := .ref a3) (C := R_Pl) (T := F_Pl) (N := 6) hx hb htg iw_Pl hown hK hP 0 rfl rfl 2 (by decide) (htg _ k1_81) (fun _ h9 => h9) rfl d_Pl_gramsOfSet_8 ?_
      refine lv_iload_n hx hb d_Pl_gramsOfSet_11 rfl (lv_at hl 1 rfl) ?_
      refine bk_iald (v := nI (ou p)) hx hb hK hP 3 0 rfl rfl (by omega) (by decide) rfl d_Pl_gramsOfSet_12 ?_
      refine bk_icmp_ge (a := i) (b := ou p) (tgt := 46) hx hb (by omega) (by omega) d_Pl_gramsOfSet_13 (by decide) (fun c13 => ?_) (fun c13 => by exfalso; omega)
      refine lv_lload_n hx hb d_Pl_gramsOfSet_46 rfl (lv_at hl 3 rfl) ?_
      exact W.lret (v := lN t) hx hb hr (fun t9 ht9 hW9 => ⟨lN t, rfl, (by rw [htt, show i = ou p by omega]), ht9⟩) (fun q h => nomatch h) d_Pl_gramsOfSet_47
    | succ k ih5 =>
      intro i t hk htt ls hl
      have g1 := (f4 i (by omega)).2
      refine lv_iload hx hb d_Pl_gramsOfSet_5 (lv_at hl 4 rfl) ?_
      refine lv_aload_n hx hb d_Pl_gramsOfSet_7 rfl (lv_at hl 0 rfl) ?_
      refine va_get (D := (dC, dI)) (ci := 3) (v := .ref a3) (C := R_Pl) (T := F_Pl) (N := 6) hx hb htg iw_Pl hown hK hP 0 rfl rfl 2 (by decide) (htg _ k1_81) (fun _ h9 => h9) rfl d_Pl_gramsOfSet_8 ?_
      refine lv_iload_n hx hb d_Pl_gramsOfSet_11 rfl (lv_at hl 1 rfl) ?_
      refine bk_iald (v := nI (ou p)) hx hb hK hP 3 0 rfl rfl (by omega) (by decide) rfl d_Pl_gramsOfSet_12 ?_
      refine bk_icmp_ge (a := i) (b := ou p) (tgt := 46) hx hb (by omega) (by omega) d_Pl_gramsOfSet_13 (by decide) (fun c13 => by exfalso; omega) (fun c13 => ?_)
      refine lv_iload_n hx hb d_Pl_gramsOfSet_16 rfl (lv_at hl 2 rfl) ?_
      refine lv_iconst (v := nI 1) hx hb d_Pl_gramsOfSet_17 (by decide +kernel) ?_
      refine lv_iload hx hb d_Pl_gramsOfSet_18 (lv_at hl 4 rfl) ?_
      refine lv_ishl hx hb d_Pl_gramsOfSet_20 ?_
      refine lv_iand hx hb d_Pl_gramsOfSet_21 ?_
      refine lv_if_eq (x := ((nI s0) &&& ((nI 1) <<< ((nI i) &&& 31)))) (tgt := 40) hx hb d_Pl_gramsOfSet_22 (by decide) (fun c22 => ?_) (fun c22 => ?_)
      · refine lv_iinc (v := nI (i + 1)) (lv' := [(5, .int (nI (i + 1))), (0, .ref h), (1, .int (nI p)), (2, .int (nI s0)), (3, .long (lN t))]) hx hb d_Pl_gramsOfSet_40 hl (k := 4) rfl (bk_inc i) (by decide) rfl (fun ls hl => ?_)
        refine lv_goto (tgt := 5) hx hb d_Pl_gramsOfSet_43 (by decide) ?_
        exact ih5 (i + 1) t (by omega) (by rw [gsum, htt, if_neg (by rw [(bit_and s0 hs i (by omega)).mp c22]; decide), Nat.add_zero]) ls (lv_sub hl [1, 2, 3, 4, 0] rfl)
      · refine lv_lload_n hx hb d_Pl_gramsOfSet_25 rfl (lv_at hl 3 rfl) ?_
        refine lv_aload_n hx hb d_Pl_gramsOfSet_26 rfl (lv_at hl 0 rfl) ?_
        refine va_get (D := (dC, dI)) (ci := 3) (v := .ref a5) (C := R_Pl) (T := F_Pl) (N := 6) hx hb htg iw_Pl hown hK hP 0 rfl rfl 4 (by decide) (htg _ k1_83) (fun _ h9 => h9) rfl d_Pl_gramsOfSet_27 ?_
        refine lv_iload_n hx hb d_Pl_gramsOfSet_30 rfl (lv_at hl 1 rfl) ?_
        refine lv_bipush (v := nI 8) hx hb d_Pl_gramsOfSet_31 (by decide +kernel) ?_
        refine bk_imul hx hb d_Pl_gramsOfSet_33 ?_
        refine lv_iload hx hb d_Pl_gramsOfSet_34 (lv_at hl 4 rfl) ?_
        refine bk_iadd hx hb d_Pl_gramsOfSet_36 ?_
        refine bk_lald (v := lN (og ((p * 8) + i))) hx hb hK hP 5 1 rfl rfl (by omega) (by decide) rfl d_Pl_gramsOfSet_37 ?_
        refine bk_ladd hx hb d_Pl_gramsOfSet_38 ?_
        refine lv_lstore_n (lv' := [(3, .long (lN (t + (og ((p * 8) + i))))), (0, .ref h), (1, .int (nI p)), (2, .int (nI s0)), (5, .int (nI i))]) hx hb d_Pl_gramsOfSet_39 rfl hl (by decide) rfl (fun ls hl => ?_)
        refine lv_iinc (v := nI (i + 1)) (lv' := [(5, .int (nI (i + 1))), (3, .long (lN (t + (og ((p * 8) + i))))), (0, .ref h), (1, .int (nI p)), (2, .int (nI s0))]) hx hb d_Pl_gramsOfSet_40 hl (k := 4) rfl (bk_inc i) (by decide) rfl (fun ls hl => ?_)
        refine lv_goto (tgt := 5) hx hb d_Pl_gramsOfSet_43 (by decide) ?_
        exact ih5 (i + 1) (t + (og ((p * 8) + i))) (by omega) (by rw [gsum, htt, if_pos (by cases e : s0.testBit i with | true => rfl | false => exact absurd ((bit_and s0 hs i (by omega)).mpr e) c22)]) ls (lv_sub hl [2, 3, 4, 1, 0] rfl)
  exact J5 (ou p) 0 0 (by omega) rfl ls (lv_sub hl [2, 3, 4, 1, 0] rfl)
set_option maxHeartbeats 4000000 in
set_option maxRecDepth 100000 in
theorem c_Pl_lackOf (l : Launch) (dC : Nat → ClassId) (dI : Nat → Nat → Nat) (cI cL cZ : ClassId) (h a1 a2 a3 a4 a5 n : Nat) (inn pk ou ok og : Nat → Nat) (p : Nat) (hi : plI n inn pk ou ok og) (hp : p < n) : Met l y_Pl_lackOf ws_Pl_lackOf { frames := 1, cells := 0, slots := 0, locals := 25 } (va_Pc [.ref h, .int (nI p)] (rdP (dC, dI) vwCl [(cI, .int), (cL, .long), (cZ, .boolean)] [(h, .inr (3, [.ref a1, .ref a2, .ref a3, .ref a4, .ref a5, .int (nI n)])), (a1, .inl (cL, 8, .inr (.inl (aL inn)))), (a2, .inl (cI, 8, .inl (aI pk))), (a3, .inl (cI, 8, .inl (aI ou))), (a4, .inl (cI, 64, .inl (aI ok))), (a5, .inl (cL, 64, .inr (.inl (aL og))))])) (vp_Sl (fun r => r = lN (lackN inn pk ou ok og p))) 0 0 (fun _ => False) := by
  refine Met.ofW (cc := b_Pl_lackOf) (maxL := 2) (ret := (some .long)) (by decide) rfl ?_
  intro pr en s m args below meth c s₁ B hml hv
  obtain ⟨rfl, hN, hP, hK⟩ := hv
  have hx := B.exec
  have hb := B.bytes
  have hr := B.returns
  have hts := atoms_spec (ws := ws_Pl_lackOf) B.pre
  have htg : ∀ w ∈ gW, w.before _ s = true := fun w h => hts w (List.mem_cons_of_mem _ h)
  have hown : s.vm.findClass R_Pl = some m.cls := findClass_of_methodNamed B.named
  have hlocks := B.notSynchronized
  have hl := lv_entry ([.ref h, .int (nI p)]) (n := 2) (Nat.le_of_ble_eq_true rfl)
  rw [lg_entry_eq]
  generalize (lg_sl ([.ref h, .int (nI p)]) ++ List.replicate (2 - (lg_sl ([.ref h, .int (nI p)])).length) Slot.unset).toArray = ls at hl ⊢
  have hl : lv_has ls 2 [(0, .ref h), (1, .int (nI p))] := hl
  have hn := hi.1
  obtain ⟨f1, f2, f3, f4⟩ := hi.2.1 p hp
  have hg := gsum_le (og := og) (p := p) (s := ownM ok pk p (ou p)) (ou p) (fun i hi9 => (f4 i hi9).2)
  refine lv_aload_n hx hb d_Pl_lackOf_0 rfl (lv_at hl 0 rfl) ?_
  refine lv_iload_n hx hb d_Pl_lackOf_1 rfl (lv_at hl 1 rfl) ?_
  refine vp_callSi (va_runV (As := [.int (nI p)]) (rest := []) ⟨hx, hb, hml, hown, htg⟩ (c_Pl_has l dC dI cI cL cZ h a1 a2 a3 a4 a5 n (nI p) (by omega)) (cwV 1 htg (gdV k2_63 k2_64 k2_65 k1_4 kc_Pl_has) rfl rfl rfl (by decide +kernel) ⟨Nat.le_of_ble_eq_true rfl, Nat.le_of_ble_eq_true rfl⟩) ⟨bk_blind, va_recv hK hP (ci := 3) (q0 := 0) rfl rfl, fun U hU hW => ⟨rfl, nw_warm hW hN, by rw [hU]; exact hP.sub [0] rfl, va_K.moved hW.alike hK⟩⟩ rfl rfl hl.1 rfl (lv_room (Nat.le_of_ble_eq_true rfl)) d_Pl_lackOf_2 ⟨Nat.le_of_ble_eq_true rfl, Nat.le_of_ble_eq_true rfl⟩).run (fun r2 e2 => ?_)
  obtain ⟨-, rfl⟩ := e2.resolve_right (fun z9 => z9.1 ⟨p, hp, rfl⟩)
  refine bk_if_eq (a := 1) (tgt := 32) hx hb (by omega) d_Pl_lackOf_5 (by decide) (fun c5 => absurd c5 (by decide)) (fun c5 => ?_)
  refine lv_lconst (v := lN 0) hx hb d_Pl_lackOf_8 (by decide +kernel) ?_
  refine lv_aload_n hx hb d_Pl_lackOf_9 rfl (lv_at hl 0 rfl) ?_
  refine lv_iload_n hx hb d_Pl_lackOf_10 rfl (lv_at hl 1 rfl) ?_
  refine lv_aload_n hx hb d_Pl_lackOf_11 rfl (lv_at hl 0 rfl) ?_
  refine lv_iload_n hx hb d_Pl_lackOf_12 rfl (lv_at hl 1 rfl) ?_
  refine vp_callSi (va_runV (As := [.int (nI p)]) (rest := [.int (nI p), .ref h, .long (lN 0)]) ⟨hx, hb, hml, hown, htg⟩ (c_Pl_ownKind l dC dI cI cL cZ h a1 a2 a3 a4 a5 n inn pk ou ok og p hi hp) (cwV 1 htg (gdV k2_77 k2_79 ks_Pl_ownKind k1_4 kc_Pl_ownKind) rfl rfl rfl (by decide +kernel) ⟨Nat.le_of_ble_eq_true rfl, Nat.le_of_ble_eq_true rfl⟩) ⟨bk_blind, va_recv hK hP (ci := 3) (q0 := 0) rfl rfl, fun U hU hW => ⟨rfl, nw_warm hW hN, by rw [hU]; exact hP.sub [0, 1, 2, 3, 4, 5] rfl, va_K.moved hW.alike hK⟩⟩ rfl rfl hl.1 rfl (lv_room (Nat.le_of_ble_eq_true rfl)) d_Pl_lackOf_13 ⟨Nat.le_of_ble_eq_true rfl, Nat.le_of_ble_eq_true rfl⟩).run (fun r13 e13 => ?_)
  subst e13
  refine vp_callSl (va_runV (As := [.int (nI p), .int (nI (ownM ok pk p (ou p)))]) (rest := [.long (lN 0)]) ⟨hx, hb, hml, hown, htg⟩ (c_Pl_gramsOfSet l dC dI cI cL cZ h a1 a2 a3 a4 a5 n inn pk ou ok og p (ownM ok pk p (ou p)) hi hp (ownM_256 f3)) (cwV 2 htg (gdV k2_81 k2_83 ks_Pl_gramsOfSet k1_4 kc_Pl_gramsOfSet) rfl rfl rfl (by decide +kernel) ⟨Nat.le_of_ble_eq_true rfl, Nat.le_of_ble_eq_true rfl⟩) ⟨bk_blind, va_recv hK hP (ci := 3) (q0 := 0) rfl rfl, fun U hU hW => ⟨rfl, nw_warm hW hN, by rw [hU]; exact hP.sub [0, 1, 2, 3, 4, 5] rfl, va_K.moved hW.alike hK⟩⟩ rfl rfl hl.1 rfl (lv_room (Nat.le_of_ble_eq_true rfl)) d_Pl_lackOf_16 ⟨Nat.le_of_ble_eq_true rfl, Nat.le_of_ble_eq_true rfl⟩).run (fun r16 e16 => ?_)
  subst e16
  refine lv_aload_n hx hb d_Pl_lackOf_19 rfl (lv_at hl 0 rfl) ?_
  refine va_get (D := (dC, dI)) (ci := 3) (v := .ref a1) (C := R_Pl) (T := F_Pl) (N := 6) hx hb htg iw_Pl hown hK hP 0 rfl rfl 0 (by decide) (htg _ k1_79) (fun _ h9 => h9) rfl d_Pl_lackOf_20 ?_
  refine lv_iload_n hx hb d_Pl_lackOf_23 rfl (lv_at hl 1 rfl) ?_
  refine bk_lald (v := lN (inn p)) hx hb hK hP 1 1 rfl rfl (by omega) (by decide) rfl d_Pl_lackOf_24 ?_
  refine lv_lsub hx hb d_Pl_lackOf_25 ?_
  refine va_mmax_long hx hb (by rw [hml]; exact hl.1.symm) hown (htg _ k2_85) (htg _ k1_238) (htg _ k1_10) (htg _ k1_239) (Nat.le_of_ble_eq_true rfl) (Nat.le_of_ble_eq_true rfl) (Nat.le_of_ble_eq_true rfl) (Nat.le_of_ble_eq_true rfl) d_Pl_lackOf_26 ?_
  refine bk_topl (y := lN (lackN inn pk ou ok og p)) (bk_max0L (by omega) (by omega)) ?_
  refine lv_goto (tgt := 33) hx hb d_Pl_lackOf_29 (by decide) ?_
  exact W.lret (v := lN (lackN inn pk ou ok og p)) hx hb hr (fun t9 ht9 hW9 => ⟨lN (lackN inn pk ou ok og p), rfl, rfl, ht9⟩) (fun q h => nomatch h) d_Pl_lackOf_33
set_option maxHeartbeats 4000000 in
set_option maxRecDepth 100000 in
theorem c_Pl_isBefore (l : Launch) (dC : Nat → ClassId) (dI : Nat → Nat → Nat) (cI cL cZ : ClassId) (s0 t0 : Nat) (hs : s0 < 256) (ht : t0 < 256) : Met l y_Pl_isBefore ws_Pl_isBefore { frames := 1, cells := 0, slots := 0, locals := 20 } (va_Pc [.int (nI s0), .int (nI t0)] (fun _ => True)) (vp_Si (fun r => (bfP s0 t0 ∧ r = nI 1) ∨ (¬ bfP s0 t0 ∧ r = nI 0))) 0 0 (fun _ => False) := by
  refine Met.ofW (cc := b_Pl_isBefore) (maxL := 5) (ret := (some .boolean)) (by decide) rfl ?_
  intro pr en s m args below meth c s₁ B hml hv
  obtain ⟨rfl, -⟩ := hv
  have hx := B.exec
  have hb := B.bytes
  have hr := B.returns
  have hts := atoms_spec (ws := ws_Pl_isBefore) B.pre
  have htg : ∀ w ∈ gW, w.before _ s = true := fun w h => hts w (List.mem_cons_of_mem _ h)
  have hown : s.vm.findClass R_Pl = some m.cls := findClass_of_methodNamed B.named
  have hlocks := B.notSynchronized
  have hl := lv_entry ([.int (nI s0), .int (nI t0)]) (n := 5) (Nat.le_of_ble_eq_true rfl)
  rw [lg_entry_eq]
  generalize (lg_sl ([.int (nI s0), .int (nI t0)]) ++ List.replicate (5 - (lg_sl ([.int (nI s0), .int (nI t0)])).length) Slot.unset).toArray = ls at hl ⊢
  have hl : lv_has ls 5 [(0, .int (nI s0)), (1, .int (nI t0))] := hl
  refine lv_iload_n hx hb d_Pl_isBefore_0 rfl (lv_at hl 1 rfl) ?_
  refine vp_callSi (va_runS (As := [.int (nI t0)]) (rest := []) ⟨hx, hb, hml, hown, htg⟩ (c_In_bitCount l dC dI cI cL cZ (nI t0) ) (va_cwS 1 htg (gdS k2_99 k2_100 k1_15 kc_In_bitCount) rfl rfl rfl (by decide +kernel) ⟨Nat.le_of_ble_eq_true rfl, Nat.le_of_ble_eq_true rfl⟩) ⟨bk_blind0, fun U hU hW => ⟨rfl, trivial⟩⟩ rfl rfl hl.1 rfl (lv_room (Nat.le_of_ble_eq_true rfl)) d_Pl_isBefore_1 ⟨Nat.le_of_ble_eq_true rfl, Nat.le_of_ble_eq_true rfl⟩).run (fun r1 e1 => ?_)
  rw [bcF_nat t0 ht] at e1
  subst e1
  refine lv_iload_n hx hb d_Pl_isBefore_4 rfl (lv_at hl 0 rfl) ?_
  refine vp_callSi (va_runS (As := [.int (nI s0)]) (rest := [.int (nI (popc t0))]) ⟨hx, hb, hml, hown, htg⟩ (c_In_bitCount l dC dI cI cL cZ (nI s0) ) (va_cwS 1 htg (gdS k2_99 k2_100 k1_15 kc_In_bitCount) rfl rfl rfl (by decide +kernel) ⟨Nat.le_of_ble_eq_true rfl, Nat.le_of_ble_eq_true rfl⟩) ⟨bk_blind0, fun U hU hW => ⟨rfl, trivial⟩⟩ rfl rfl hl.1 rfl (lv_room (Nat.le_of_ble_eq_true rfl)) d_Pl_isBefore_5 ⟨Nat.le_of_ble_eq_true rfl, Nat.le_of_ble_eq_true rfl⟩).run (fun r5 e5 => ?_)
  rw [bcF_nat s0 hs] at e5
  subst e5
  refine lv_isub hx hb d_Pl_isBefore_8 ?_
  refine lv_istore_n (lv' := [(2, .int ((nI (popc t0)) - (nI (popc s0)))), (0, .int (nI s0)), (1, .int (nI t0))]) hx hb d_Pl_isBefore_9 rfl hl (by decide) rfl (fun ls hl => ?_)
  refine lv_iload_n hx hb d_Pl_isBefore_10 rfl (lv_at hl 1 rfl) ?_
  refine lv_iload_n hx hb d_Pl_isBefore_11 rfl (lv_at hl 2 rfl) ?_
  refine lv_ixor hx hb d_Pl_isBefore_12 ?_
  refine lv_istore_n (lv' := [(3, .int ((nI s0) ^^^ (nI t0))), (2, .int ((nI (popc t0)) - (nI (popc s0)))), (0, .int (nI s0)), (1, .int (nI t0))]) hx hb d_Pl_isBefore_13 rfl hl (by decide) rfl (fun ls hl => ?_)
  refine lv_iload_n hx hb d_Pl_isBefore_14 rfl (lv_at hl 0 rfl) ?_
  refine lv_iload_n hx hb d_Pl_isBefore_15 rfl (lv_at hl 0 rfl) ?_
  refine lv_ineg hx hb d_Pl_isBefore_16 ?_
  refine lv_iand hx hb d_Pl_isBefore_17 ?_
  refine lv_istore (lv' := [(4, .int (((nI s0) ^^^ (nI t0)) &&& (-((nI s0) ^^^ (nI t0))))), (3, .int ((nI s0) ^^^ (nI t0))), (2, .int ((nI (popc t0)) - (nI (popc s0)))), (0, .int (nI s0)), (1, .int (nI t0))]) hx hb d_Pl_isBefore_18 hl (by decide) rfl (fun ls hl => ?_)
  refine lv_iload_n hx hb d_Pl_isBefore_20 rfl (lv_at hl 2 rfl) ?_
  refine lv_if_gt (x := ((nI (popc t0)) - (nI (popc s0)))) (tgt := 35) hx hb d_Pl_isBefore_21 (by decide) (fun c21 => ?_) (fun c21 => ?_)
  · refine lv_iconst (v := nI 1) hx hb d_Pl_isBefore_35 (by decide +kernel) ?_
    refine lv_goto (tgt := 40) hx hb d_Pl_isBefore_36 (by decide) ?_
    exact W.zret (v := nI 1) (ty := .boolean) hx hb hr rfl (fun t9 ht9 hW9 => ⟨nI 1, rfl, Or.inl ⟨by first | exact Or.inl c21 | exact Or.inr ⟨c25, c32⟩, rfl⟩, ht9⟩) (fun q h => nomatch h) d_Pl_isBefore_40
  · refine lv_iload_n hx hb d_Pl_isBefore_24 rfl (lv_at hl 2 rfl) ?_
    refine lv_if_ne (x := ((nI (popc t0)) - (nI (popc s0)))) (tgt := 39) hx hb d_Pl_isBefore_25 (by decide) (fun c25 => ?_) (fun c25 => ?_)
    · refine lv_iconst (v := nI 0) hx hb d_Pl_isBefore_39 (by decide +kernel) ?_
      exact W.zret (v := nI 0) (ty := .boolean) hx hb hr rfl (fun t9 ht9 hW9 => ⟨nI 0, rfl, Or.inr ⟨fun z9 => z9.elim (fun y => c21 y) (fun y => by first | exact y.2 c32 | exact c25 y.1), rfl⟩, ht9⟩) (fun q h => nomatch h) d_Pl_isBefore_40
    · refine lv_iload_n hx hb d_Pl_isBefore_28 rfl (lv_at hl 3 rfl) ?_
      refine lv_iload hx hb d_Pl_isBefore_29 (lv_at hl 0 rfl) ?_
      refine lv_iand hx hb d_Pl_isBefore_31 ?_
      refine lv_if_eq (x := ((nI s0) &&& (((nI s0) ^^^ (nI t0)) &&& (-((nI s0) ^^^ (nI t0)))))) (tgt := 39) hx hb d_Pl_isBefore_32 (by decide) (fun c32 => ?_) (fun c32 => ?_)
      · refine lv_iconst (v := nI 0) hx hb d_Pl_isBefore_39 (by decide +kernel) ?_
        exact W.zret (v := nI 0) (ty := .boolean) hx hb hr rfl (fun t9 ht9 hW9 => ⟨nI 0, rfl, Or.inr ⟨fun z9 => z9.elim (fun y => c21 y) (fun y => by first | exact y.2 c32 | exact c25 y.1), rfl⟩, ht9⟩) (fun q h => nomatch h) d_Pl_isBefore_40
      · refine lv_iconst (v := nI 1) hx hb d_Pl_isBefore_35 (by decide +kernel) ?_
        refine lv_goto (tgt := 40) hx hb d_Pl_isBefore_36 (by decide) ?_
        exact W.zret (v := nI 1) (ty := .boolean) hx hb hr rfl (fun t9 ht9 hW9 => ⟨nI 1, rfl, Or.inl ⟨by first | exact Or.inl c21 | exact Or.inr ⟨c25, c32⟩, rfl⟩, ht9⟩) (fun q h => nomatch h) d_Pl_isBefore_40
set_option maxHeartbeats 4000000 in
set_option maxRecDepth 100000 in
theorem c_Pl_leastSet (l : Launch) (dC : Nat → ClassId) (dI : Nat → Nat → Nat) (cI cL cZ : ClassId) (h a1 a2 a3 a4 a5 n : Nat) (inn pk ou ok og : Nat → Nat) (p : Nat) (hi : plI n inn pk ou ok og) (hp : p < n) : Met l y_Pl_leastSet ws_Pl_leastSet { frames := 2, cells := 0, slots := 0, locals := 46 } (va_Pc [.ref h, .int (nI p)] (rdP (dC, dI) vwCl [(cI, .int), (cL, .long), (cZ, .boolean)] [(h, .inr (3, [.ref a1, .ref a2, .ref a3, .ref a4, .ref a5, .int (nI n)])), (a1, .inl (cL, 8, .inr (.inl (aL inn)))), (a2, .inl (cI, 8, .inl (aI pk))), (a3, .inl (cI, 8, .inl (aI ou))), (a4, .inl (cI, 64, .inl (aI ok))), (a5, .inl (cL, 64, .inr (.inl (aL og))))])) (vp_Si (fun r => r = nI (lsR inn pk ou ok og p))) 0 0 (fun _ => False) := by
  refine Met.ofW (cc := b_Pl_leastSet) (maxL := 8) (ret := (some .int)) (by decide) rfl ?_
  intro pr en s m args below meth c s₁ B hml hv
  obtain ⟨rfl, hN, hP, hK⟩ := hv
  have hx := B.exec
  have hb := B.bytes
  have hr := B.returns
  have hts := atoms_spec (ws := ws_Pl_leastSet) B.pre
  have htg : ∀ w ∈ gW, w.before _ s = true := fun w h => hts w (List.mem_cons_of_mem _ h)
  have hown : s.vm.findClass R_Pl = some m.cls := findClass_of_methodNamed B.named
  have hlocks := B.notSynchronized
  have hl := lv_entry ([.ref h, .int (nI p)]) (n := 8) (Nat.le_of_ble_eq_true rfl)
  rw [lg_entry_eq]
  generalize (lg_sl ([.ref h, .int (nI p)]) ++ List.replicate (8 - (lg_sl ([.ref h, .int (nI p)])).length) Slot.unset).toArray = ls at hl ⊢
  have hl : lv_has ls 8 [(0, .ref h), (1, .int (nI p))] := hl
  have hn := hi.1
  obtain ⟨f1, f2, f3, f4⟩ := hi.2.1 p hp
  have ho := ownM_256 (ok := ok) (pk := pk) (p := p) f3
  have hg := gsum_le (og := og) (p := p) (s := ownM ok pk p (ou p)) (ou p) (fun i hi9 => (f4 i hi9).2)
  have hlk : lackN inn pk ou ok og p ≤ 8000000000 := by unfold lackN; omega
  refine lv_aload_n hx hb d_Pl_leastSet_0 rfl (lv_at hl 0 rfl) ?_
  refine lv_iload_n hx hb d_Pl_leastSet_1 rfl (lv_at hl 1 rfl) ?_
  refine vp_callSl (va_runV (As := [.int (nI p)]) (rest := []) ⟨hx, hb, hml, hown, htg⟩ (c_Pl_lackOf l dC dI cI cL cZ h a1 a2 a3 a4 a5 n inn pk ou ok og p hi hp) (cwV 1 htg (gdV k2_95 k2_74 k2_75 k1_4 kc_Pl_lackOf) rfl rfl rfl (by decide +kernel) ⟨Nat.le_of_ble_eq_true rfl, Nat.le_of_ble_eq_true rfl⟩) ⟨bk_blind, va_recv hK hP (ci := 3) (q0 := 0) rfl rfl, fun U hU hW => ⟨rfl, nw_warm hW hN, by rw [hU]; exact hP.sub [0, 1, 2, 3, 4, 5] rfl, va_K.moved hW.alike hK⟩⟩ rfl rfl hl.1 rfl (lv_room (Nat.le_of_ble_eq_true rfl)) d_Pl_leastSet_2 ⟨Nat.le_of_ble_eq_true rfl, Nat.le_of_ble_eq_true rfl⟩).run (fun r2 e2 => ?_)
  subst e2
  refine lv_lstore_n (lv' := [(2, .long (lN (lackN inn pk ou ok og p))), (0, .ref h), (1, .int (nI p))]) hx hb d_Pl_leastSet_5 rfl hl (by decide) rfl (fun ls hl => ?_)
  refine lv_lload_n hx hb d_Pl_leastSet_6 rfl (lv_at hl 0 rfl) ?_
  refine lv_lconst (v := lN 0) hx hb d_Pl_leastSet_7 (by decide +kernel) ?_
  refine bk_ncmp_gt (a := lackN inn pk ou ok og p) (b := 0) (tgt := 14) hx hb (by omega) (by omega) d_Pl_leastSet_8 d_Pl_leastSet_9 (by decide) (fun c8 => ?_) (fun c8 => ?_)
  · refine lv_aload_n hx hb d_Pl_leastSet_14 rfl (lv_at hl 1 rfl) ?_
    refine lv_iload_n hx hb d_Pl_leastSet_15 rfl (lv_at hl 2 rfl) ?_
    refine vp_callSi (va_runV (As := [.int (nI p)]) (rest := []) ⟨hx, hb, hml, hown, htg⟩ (c_Pl_ownKind l dC dI cI cL cZ h a1 a2 a3 a4 a5 n inn pk ou ok og p hi hp) (cwV 1 htg (gdV k2_77 k2_79 ks_Pl_ownKind k1_4 kc_Pl_ownKind) rfl rfl rfl (by decide +kernel) ⟨Nat.le_of_ble_eq_true rfl, Nat.le_of_ble_eq_true rfl⟩) ⟨bk_blind, va_recv hK hP (ci := 3) (q0 := 0) rfl rfl, fun U hU hW => ⟨rfl, nw_warm hW hN, by rw [hU]; exact hP.sub [0, 1, 2, 3, 4, 5] rfl, va_K.moved hW.alike hK⟩⟩ rfl rfl hl.1 rfl (lv_room (Nat.le_of_ble_eq_true rfl)) d_Pl_leastSet_16 ⟨Nat.le_of_ble_eq_true rfl, Nat.le_of_ble_eq_true rfl⟩).run (fun r16 e16 => ?_)
    subst e16
    refine lv_istore (lv' := [(4, .int (nI (ownM ok pk p (ou p)))), (2, .long (lN (lackN inn pk ou ok og p))), (0, .ref h), (1, .int (nI p))]) hx hb d_Pl_leastSet_19 hl (by decide) rfl (fun ls hl => ?_)
    refine lv_iload hx hb d_Pl_leastSet_21 (lv_at hl 0 rfl) ?_
    refine lv_istore (lv' := [(5, .int (nI (ownM ok pk p (ou p)))), (4, .int (nI (ownM ok pk p (ou p)))), (2, .long (lN (lackN inn pk ou ok og p))), (0, .ref h), (1, .int (nI p))]) hx hb d_Pl_leastSet_23 hl (by decide) rfl (fun ls hl => ?_)
    refine lv_iconst (v := nI 1) hx hb d_Pl_leastSet_25 (by decide +kernel) ?_
    refine lv_istore (lv' := [(6, .int (nI 1)), (5, .int (nI (ownM ok pk p (ou p)))), (4, .int (nI (ownM ok pk p (ou p)))), (2, .long (lN (lackN inn pk ou ok og p))), (0, .ref h), (1, .int (nI p))]) hx hb d_Pl_leastSet_26 hl (by decide) rfl (fun ls hl => ?_)
    have J28 : ∀ (k : Nat) (q : Nat) (b : Nat), (q + k = ownM ok pk p (ou p)) → (b = (lsF (ownM ok pk p (ou p)) (lackN inn pk ou ok og p) og p (ou p) q)) → ∀ (ls : Array Slot), lv_has ls 8 [(0, .ref h), (1, .int (nI p)), (2, .long (lN (lackN inn pk ou ok og p))), (4, .int (nI (ownM ok pk p (ou p)))), (5, .int (nI b)), (6, .int (nI (q + 1)))] → W pr l en (headSpec ws_Pl_leastSet { frames := 2, cells := 0, slots := 0, locals := 46 }).room s m ([.ref h, .int (nI p)] : List Value).toArray below meth c s.heap [] 0 0 (MQ below (vp_Si (fun r => r = nI (lsR inn pk ou ok og p))) ([.ref h, .int (nI p)] : List Value).toArray s 0 0 (fun _ => False)) (F0 m 28 ls []) := by
      intro k
      induction k with
      | zero =>
        intro q b hk hbb ls hl
        have hb6 : b < 256 := by rw [hbb]; exact lsF_lt ho q (by omega)
        refine lv_iload hx hb d_Pl_leastSet_28 (lv_at hl 5 rfl) ?_
        refine lv_iload hx hb d_Pl_leastSet_30 (lv_at hl 3 rfl) ?_
        refine bk_icmp_gt (a := q + 1) (b := ownM ok pk p (ou p)) (tgt := 89) hx hb (by omega) (by omega) d_Pl_leastSet_32 (by decide) (fun c32 => ?_) (fun c32 => by exfalso; omega)
        refine lv_iload hx hb d_Pl_leastSet_89 (lv_at hl 4 rfl) ?_
        exact W.iret (v := nI b) hx hb hr (fun t9 ht9 hW9 => ⟨nI b, rfl, (by rw [lsR, if_neg (by omega), hbb, show q = ownM ok pk p (ou p) by omega]), ht9⟩) (fun q h => nomatch h) d_Pl_leastSet_91
      | succ k ih28 =>
        intro q b hk hbb ls hl
        have hb6 : b < 256 := by rw [hbb]; exact lsF_lt ho q (by omega)
        have hg2 := gsum_le (og := og) (p := p) (s := q + 1) (ou p) (fun i hi9 => (f4 i hi9).2)
        refine lv_iload hx hb d_Pl_leastSet_28 (lv_at hl 5 rfl) ?_
        refine lv_iload hx hb d_Pl_leastSet_30 (lv_at hl 3 rfl) ?_
        refine bk_icmp_gt (a := q + 1) (b := ownM ok pk p (ou p)) (tgt := 89) hx hb (by omega) (by omega) d_Pl_leastSet_32 (by decide) (fun c32 => by exfalso; omega) (fun c32 => ?_)
        refine lv_iload hx hb d_Pl_leastSet_35 (lv_at hl 5 rfl) ?_
        refine lv_iload hx hb d_Pl_leastSet_37 (lv_at hl 3 rfl) ?_
        refine lv_iconst (v := oI none) hx hb d_Pl_leastSet_39 (by decide +kernel) ?_
        refine lv_ixor hx hb d_Pl_leastSet_40 ?_
        refine lv_iand hx hb d_Pl_leastSet_41 ?_
        refine lv_if_ne (x := ((nI (q + 1)) &&& ((nI (ownM ok pk p (ou p))) ^^^ (oI none)))) (tgt := 49) hx hb d_Pl_leastSet_42 (by decide) (fun c42 => ?_) (fun c42 => ?_)
        · refine lv_iconst (v := nI 0) hx hb d_Pl_leastSet_49 (by decide +kernel) ?_
          refine lv_istore (lv' := [(7, .int (nI 0)), (0, .ref h), (1, .int (nI p)), (2, .long (lN (lackN inn pk ou ok og p))), (4, .int (nI (ownM ok pk p (ou p)))), (5, .int (nI b)), (6, .int (nI (q + 1)))]) hx hb d_Pl_leastSet_50 hl (by decide) rfl (fun ls hl => ?_)
          refine lv_iload hx hb d_Pl_leastSet_52 (lv_at hl 0 rfl) ?_
          refine bk_if_eq (a := 0) (tgt := 83) hx hb (by omega) d_Pl_leastSet_54 (by decide) (fun c54 => ?_) (fun c54 => absurd c54 (by decide))
          refine lv_iinc (v := nI (q + 1 + 1)) (lv' := [(6, .int (nI (q + 1 + 1))), (7, .int (nI 0)), (0, .ref h), (1, .int (nI p)), (2, .long (lN (lackN inn pk ou ok og p))), (4, .int (nI (ownM ok pk p (ou p)))), (5, .int (nI b))]) hx hb d_Pl_leastSet_83 hl (k := 6) rfl (bk_inc (q + 1)) (by decide) rfl (fun ls hl => ?_)
          refine lv_goto (tgt := 28) hx hb d_Pl_leastSet_86 (by decide) ?_
          exact ih28 (q + 1) b (by omega) (by rw [← lsF_no (by rintro ⟨y1, y2, y3⟩; rw [← hbb] at y2; first | exact c42 y1 | exact n61 y2 | omega)]; exact hbb) ls (lv_sub hl [2, 3, 4, 5, 6, 0] rfl)
        · refine lv_iconst (v := nI 1) hx hb d_Pl_leastSet_45 (by decide +kernel) ?_
          refine lv_goto (tgt := 50) hx hb d_Pl_leastSet_46 (by decide) ?_
          refine lv_istore (lv' := [(7, .int (nI 1)), (0, .ref h), (1, .int (nI p)), (2, .long (lN (lackN inn pk ou ok og p))), (4, .int (nI (ownM ok pk p (ou p)))), (5, .int (nI b)), (6, .int (nI (q + 1)))]) hx hb d_Pl_leastSet_50 hl (by decide) rfl (fun ls hl => ?_)
          refine lv_iload hx hb d_Pl_leastSet_52 (lv_at hl 0 rfl) ?_
          refine bk_if_eq (a := 1) (tgt := 83) hx hb (by omega) d_Pl_leastSet_54 (by decide) (fun c54 => absurd c54 (by decide)) (fun c54 => ?_)
          refine lv_iload hx hb d_Pl_leastSet_57 (lv_at hl 6 rfl) ?_
          refine lv_iload hx hb d_Pl_leastSet_59 (lv_at hl 5 rfl) ?_
          refine vp_callSi (va_runS (As := [.int (nI (q + 1)), .int (nI b)]) (rest := []) ⟨hx, hb, hml, hown, htg⟩ (c_Pl_isBefore l dC dI cI cL cZ (q + 1) b (by omega) hb6) (va_cwS 2 htg (gdS k2_96 k2_97 k1_4 kc_Pl_isBefore) rfl rfl rfl (by decide +kernel) ⟨Nat.le_of_ble_eq_true rfl, Nat.le_of_ble_eq_true rfl⟩) ⟨bk_blind0, fun U hU hW => ⟨rfl, trivial⟩⟩ rfl rfl hl.1 rfl (lv_room (Nat.le_of_ble_eq_true rfl)) d_Pl_leastSet_61 ⟨Nat.le_of_ble_eq_true rfl, Nat.le_of_ble_eq_true rfl⟩).run (fun r61 e61 => ?_)
          rcases e61 with ⟨b61, rfl⟩ | ⟨n61, rfl⟩
          · refine bk_if_eq (a := 1) (tgt := 83) hx hb (by omega) d_Pl_leastSet_64 (by decide) (fun c64 => absurd c64 (by decide)) (fun c64 => ?_)
            refine lv_aload_n hx hb d_Pl_leastSet_67 rfl (lv_at hl 1 rfl) ?_
            refine lv_iload_n hx hb d_Pl_leastSet_68 rfl (lv_at hl 2 rfl) ?_
            refine lv_iload hx hb d_Pl_leastSet_69 (lv_at hl 6 rfl) ?_
            refine vp_callSl (va_runV (As := [.int (nI p), .int (nI (q + 1))]) (rest := []) ⟨hx, hb, hml, hown, htg⟩ (c_Pl_gramsOfSet l dC dI cI cL cZ h a1 a2 a3 a4 a5 n inn pk ou ok og p (q + 1) hi hp (by omega)) (cwV 2 htg (gdV k2_81 k2_83 ks_Pl_gramsOfSet k1_4 kc_Pl_gramsOfSet) rfl rfl rfl (by decide +kernel) ⟨Nat.le_of_ble_eq_true rfl, Nat.le_of_ble_eq_true rfl⟩) ⟨bk_blind, va_recv hK hP (ci := 3) (q0 := 0) rfl rfl, fun U hU hW => ⟨rfl, nw_warm hW hN, by rw [hU]; exact hP.sub [0, 1, 2, 3, 4, 5] rfl, va_K.moved hW.alike hK⟩⟩ rfl rfl hl.1 rfl (lv_room (Nat.le_of_ble_eq_true rfl)) d_Pl_leastSet_71 ⟨Nat.le_of_ble_eq_true rfl, Nat.le_of_ble_eq_true rfl⟩).run (fun r71 e71 => ?_)
            subst e71
            refine lv_lload_n hx hb d_Pl_leastSet_74 rfl (lv_at hl 3 rfl) ?_
            refine bk_ncmp_lt (a := gsum og p (q + 1) (ou p)) (b := lackN inn pk ou ok og p) (tgt := 83) hx hb (by omega) (by omega) d_Pl_leastSet_75 d_Pl_leastSet_76 (by decide) (fun c75 => ?_) (fun c75 => ?_)
            · refine lv_iinc (v := nI (q + 1 + 1)) (lv' := [(6, .int (nI (q + 1 + 1))), (7, .int (nI 1)), (0, .ref h), (1, .int (nI p)), (2, .long (lN (lackN inn pk ou ok og p))), (4, .int (nI (ownM ok pk p (ou p)))), (5, .int (nI b))]) hx hb d_Pl_leastSet_83 hl (k := 6) rfl (bk_inc (q + 1)) (by decide) rfl (fun ls hl => ?_)
              refine lv_goto (tgt := 28) hx hb d_Pl_leastSet_86 (by decide) ?_
              exact ih28 (q + 1) b (by omega) (by rw [← lsF_no (by rintro ⟨y1, y2, y3⟩; rw [← hbb] at y2; first | exact c42 y1 | exact n61 y2 | omega)]; exact hbb) ls (lv_sub hl [2, 3, 4, 5, 6, 0] rfl)
            · refine lv_iload hx hb d_Pl_leastSet_79 (lv_at hl 6 rfl) ?_
              refine lv_istore (lv' := [(5, .int (nI (q + 1))), (7, .int (nI 1)), (0, .ref h), (1, .int (nI p)), (2, .long (lN (lackN inn pk ou ok og p))), (4, .int (nI (ownM ok pk p (ou p)))), (6, .int (nI (q + 1)))]) hx hb d_Pl_leastSet_81 hl (by decide) rfl (fun ls hl => ?_)
              refine lv_iinc (v := nI (q + 1 + 1)) (lv' := [(6, .int (nI (q + 1 + 1))), (5, .int (nI (q + 1))), (7, .int (nI 1)), (0, .ref h), (1, .int (nI p)), (2, .long (lN (lackN inn pk ou ok og p))), (4, .int (nI (ownM ok pk p (ou p))))]) hx hb d_Pl_leastSet_83 hl (k := 6) rfl (bk_inc (q + 1)) (by decide) rfl (fun ls hl => ?_)
              refine lv_goto (tgt := 28) hx hb d_Pl_leastSet_86 (by decide) ?_
              exact ih28 (q + 1) (q + 1) (by omega) (lsF_yes c42 (by rw [← hbb]; exact b61) c75) ls (lv_sub hl [3, 4, 5, 6, 1, 0] rfl)
          · refine bk_if_eq (a := 0) (tgt := 83) hx hb (by omega) d_Pl_leastSet_64 (by decide) (fun c64 => ?_) (fun c64 => absurd c64 (by decide))
            refine lv_iinc (v := nI (q + 1 + 1)) (lv' := [(6, .int (nI (q + 1 + 1))), (7, .int (nI 1)), (0, .ref h), (1, .int (nI p)), (2, .long (lN (lackN inn pk ou ok og p))), (4, .int (nI (ownM ok pk p (ou p)))), (5, .int (nI b))]) hx hb d_Pl_leastSet_83 hl (k := 6) rfl (bk_inc (q + 1)) (by decide) rfl (fun ls hl => ?_)
            refine lv_goto (tgt := 28) hx hb d_Pl_leastSet_86 (by decide) ?_
            exact ih28 (q + 1) b (by omega) (by rw [← lsF_no (by rintro ⟨y1, y2, y3⟩; rw [← hbb] at y2; first | exact c42 y1 | exact n61 y2 | omega)]; exact hbb) ls (lv_sub hl [2, 3, 4, 5, 6, 0] rfl)
    exact J28 (ownM ok pk p (ou p)) 0 (ownM ok pk p (ou p)) (by omega) rfl ls (lv_sub hl [4, 5, 3, 2, 1, 0] rfl)
  · refine lv_iconst (v := nI 0) hx hb d_Pl_leastSet_12 (by decide +kernel) ?_
    exact W.iret (v := nI 0) hx hb hr (fun t9 ht9 hW9 => ⟨nI 0, rfl, (by rw [lsR, if_pos (by omega)]), ht9⟩) (fun q h => nomatch h) d_Pl_leastSet_13
set_option maxHeartbeats 4000000 in
set_option maxRecDepth 100000 in
theorem c_B_bitAt (l : Launch) (dC : Nat → ClassId) (dI : Nat → Nat → Nat) (cI cL cZ : ClassId) (s0 : Nat) (x : Int32) (hs : s0 < 256) : Met l y_B_bitAt ws_B_bitAt { frames := 0, cells := 0, slots := 0, locals := 0 } (va_Pc [.int (nI s0), .int x] (fun _ => True)) (vp_Si (fun r => ∃ o, r = oI o ∧ kth (fun i => s0.testBit i) 8 x o)) 0 0 (fun _ => False) := by
  refine Met.ofW (cc := b_B_bitAt) (maxL := 4) (ret := (some .int)) (by decide) rfl ?_
  intro pr en s m args below meth c s₁ B hml hv
  obtain ⟨rfl, -⟩ := hv
  have hx := B.exec
  have hb := B.bytes
  have hr := B.returns
  have hts := atoms_spec (ws := ws_B_bitAt) B.pre
  have htg : ∀ w ∈ gW, w.before _ s = true := fun w h => hts w (List.mem_cons_of_mem _ h)
  have hown : s.vm.findClass R_B = some m.cls := findClass_of_methodNamed B.named
  have hlocks := B.notSynchronized
  have hl := lv_entry ([.int (nI s0), .int x]) (n := 4) (Nat.le_of_ble_eq_true rfl)
  rw [lg_entry_eq]
  generalize (lg_sl ([.int (nI s0), .int x]) ++ List.replicate (4 - (lg_sl ([.int (nI s0), .int x])).length) Slot.unset).toArray = ls at hl ⊢
  have hl : lv_has ls 4 [(0, .int (nI s0)), (1, .int x)] := hl
  refine lv_iconst (v := nI 0) hx hb d_B_bitAt_0 (by decide +kernel) ?_
  refine lv_istore_n (lv' := [(2, .int (nI 0)), (0, .int (nI s0)), (1, .int x)]) hx hb d_B_bitAt_1 rfl hl (by decide) rfl (fun ls hl => ?_)
  refine lv_iconst (v := nI 0) hx hb d_B_bitAt_2 (by decide +kernel) ?_
  refine lv_istore_n (lv' := [(3, .int (nI 0)), (2, .int (nI 0)), (0, .int (nI s0)), (1, .int x)]) hx hb d_B_bitAt_3 rfl hl (by decide) rfl (fun ls hl => ?_)
  have J4 : ∀ (k : Nat) (i : Nat) (b : Nat), (i + k = 8) → (b = cntB (fun i => s0.testBit i) i) → (noYet (fun i => s0.testBit i) x i) → ∀ (ls : Array Slot), lv_has ls 4 [(0, .int (nI s0)), (1, .int x), (2, .int (nI b)), (3, .int (nI i))] → W pr l en (headSpec ws_B_bitAt { frames := 0, cells := 0, slots := 0, locals := 0 }).room s m ([.int (nI s0), .int x] : List Value).toArray below meth c s.heap [] 0 0 (MQ below (vp_Si (fun r => ∃ o, r = oI o ∧ kth (fun i => s0.testBit i) 8 x o)) ([.int (nI s0), .int x] : List Value).toArray s 0 0 (fun _ => False)) (F0 m 4 ls []) := by
    intro k
    induction k with
    | zero =>
      intro i b hk hc hy ls hl
      refine lv_iload_n hx hb d_B_bitAt_4 rfl (lv_at hl 3 rfl) ?_
      refine lv_bipush (v := nI 8) hx hb d_B_bitAt_5 (by decide +kernel) ?_
      refine bk_icmp_ge (a := i) (b := 8) (tgt := 34) hx hb (by omega) (by omega) d_B_bitAt_7 (by decide) (fun c7 => ?_) (fun c7 => by exfalso; omega)
      refine lv_iconst (v := oI none) hx hb d_B_bitAt_34 (by decide +kernel) ?_
      exact W.iret (v := oI none) hx hb hr (fun t9 ht9 hW9 => ⟨oI none, rfl, ⟨none, rfl, by rw [show i = 8 by omega] at hy; exact hy⟩, ht9⟩) (fun q h => nomatch h) d_B_bitAt_35
    | succ k ih4 =>
      intro i b hk hc hy ls hl
      have hle := cntB_le (fun i => s0.testBit i) i
      refine lv_iload_n hx hb d_B_bitAt_4 rfl (lv_at hl 3 rfl) ?_
      refine lv_bipush (v := nI 8) hx hb d_B_bitAt_5 (by decide +kernel) ?_
      refine bk_icmp_ge (a := i) (b := 8) (tgt := 34) hx hb (by omega) (by omega) d_B_bitAt_7 (by decide) (fun c7 => by exfalso; omega) (fun c7 => ?_)
      refine lv_iload_n hx hb d_B_bitAt_10 rfl (lv_at hl 0 rfl) ?_
      refine lv_iconst (v := nI 1) hx hb d_B_bitAt_11 (by decide +kernel) ?_
      refine lv_iload_n hx hb d_B_bitAt_12 rfl (lv_at hl 3 rfl) ?_
      refine lv_ishl hx hb d_B_bitAt_13 ?_
      refine lv_iand hx hb d_B_bitAt_14 ?_
      refine lv_if_eq (x := ((nI s0) &&& ((nI 1) <<< ((nI i) &&& 31)))) (tgt := 28) hx hb d_B_bitAt_15 (by decide) (fun c15 => ?_) (fun c15 => ?_)
      · refine lv_iinc (v := nI (i + 1)) (lv' := [(3, .int (nI (i + 1))), (0, .int (nI s0)), (1, .int x), (2, .int (nI b))]) hx hb d_B_bitAt_28 hl (k := 3) rfl (bk_inc i) (by decide) rfl (fun ls hl => ?_)
        refine lv_goto (tgt := 4) hx hb d_B_bitAt_31 (by decide) ?_
        exact ih4 (i + 1) b (by omega) (cntB_no hc ((bit_and s0 hs i (by omega)).mp c15)) (noYet_no hy ((bit_and s0 hs i (by omega)).mp c15)) ls (lv_sub hl [1, 2, 3, 0] rfl)
      · refine lv_iload_n hx hb d_B_bitAt_18 rfl (lv_at hl 2 rfl) ?_
        refine lv_iload_n hx hb d_B_bitAt_19 rfl (lv_at hl 1 rfl) ?_
        refine lv_icmp_ne (x := nI b) (y := x) (tgt := 25) hx hb d_B_bitAt_20 (by decide) (fun c20 => ?_) (fun c20 => ?_)
        · refine lv_iinc (v := nI (b + 1)) (lv' := [(2, .int (nI (b + 1))), (0, .int (nI s0)), (1, .int x), (3, .int (nI i))]) hx hb d_B_bitAt_25 hl (k := 2) rfl (bk_inc b) (by decide) rfl (fun ls hl => ?_)
          refine lv_iinc (v := nI (i + 1)) (lv' := [(3, .int (nI (i + 1))), (2, .int (nI (b + 1))), (0, .int (nI s0)), (1, .int x)]) hx hb d_B_bitAt_28 hl (k := 3) rfl (bk_inc i) (by decide) rfl (fun ls hl => ?_)
          refine lv_goto (tgt := 4) hx hb d_B_bitAt_31 (by decide) ?_
          exact ih4 (i + 1) (b + 1) (by omega) (cntB_yes hc (bit_yes hs (by omega) c15)) (noYet_ne hy hc c20) ls (lv_sub hl [2, 3, 1, 0] rfl)
        · refine lv_iload_n hx hb d_B_bitAt_23 rfl (lv_at hl 3 rfl) ?_
          exact W.iret (v := nI i) hx hb hr (fun t9 ht9 hW9 => ⟨nI i, rfl, ⟨some i, rfl, by omega, (bit_yes hs (by omega) c15), by rw [← hc]; exact c20⟩, ht9⟩) (fun q h => nomatch h) d_B_bitAt_24
  exact J4 8 0 0 (by omega) rfl noYet_0 ls (lv_sub hl [2, 3, 1, 0] rfl)
end
section
set_option maxHeartbeats 4000000 in
set_option maxRecDepth 100000 in
theorem c_Wa_insert (l : Launch) (dC : Nat → ClassId) (dI : Nat → Nat → Nat) (cI cL cZ : ClassId) (sz : Nat) (h a1 : Nat) (mn : Nat → Nat) (c0 v : Nat) (hc : c0 < 30) (hv : v ≤ 20000) (hb0 : ∀ j, j < c0 → mn j ≤ 20000) (hso : sortedN mn c0) : Met l y_Wa_insert ws_Wa_insert { frames := 0, cells := 0, slots := 0, locals := 0 } (va_Pc [.ref h, .int (nI c0), .long (lN v)] (wrP (dC, dI) vwCl [(cI, .int), (cL, .long), (cZ, .boolean)] [(h, .inr (6, [.ref a1])), (a1, .inl (cL, 30, .inr (.inl (aL mn))))] sz)) (va_Qv (fun (u : Nat → Nat) => sortedN u (c0 + 1) ∧ (lstF u 0 (c0 + 1)).Perm (v :: lstF mn 0 c0) ∧ ∀ j, j < c0 + 1 → u j ≤ 20000) (fun (u : Nat → Nat) => wrQ (dC, dI) vwCl [(cI, .int), (cL, .long), (cZ, .boolean)] (va_A [(h, .inr (6, [.ref a1])), (a1, .inl (cL, 30, .inr (.inl (aL mn))))] sz) [(h, .inr (6, [.ref a1])), (a1, .inl (cL, 30, .inr (.inl (aL u))))]) (va_A [(h, .inr (6, [.ref a1])), (a1, .inl (cL, 30, .inr (.inl (aL mn))))] sz)) 0 0 (va_A [(h, .inr (6, [.ref a1])), (a1, .inl (cL, 30, .inr (.inl (aL mn))))] sz) := by
  refine Met.ofW (cc := b_Wa_insert) (maxL := 5) (ret := none) (by decide) rfl ?_
  intro pr en s m args below meth c s₁ B hml hv
  obtain ⟨rfl, hN, hsz, hP, hK, hD0⟩ := hv
  have hx := B.exec
  have hb := B.bytes
  have hr := B.returns
  have hts := atoms_spec (ws := ws_Wa_insert) B.pre
  have htg : ∀ w ∈ gW, w.before _ s = true := fun w h => hts w (List.mem_cons_of_mem _ h)
  have hown : s.vm.findClass R_Wa = some m.cls := findClass_of_methodNamed B.named
  have hlocks := B.notSynchronized
  subst hsz
  have hD := hD0.self (sz := s.heap.size)
  generalize hAe : va_A [(h, .inr (6, [.ref a1])), (a1, .inl (cL, 30, .inr (.inl (aL mn))))] s.heap.size = A at hD ⊢
  have hA : ∀ q : Nat, s.heap.size ≤ q → A q := fun q h => by rw [← hAe]; exact Or.inr h
  have hS : va_S A s.heap s.heap [] := va_S.rf
  have hP : va_P (dC, dI) vwCl [(h, .inr (6, [.ref a1])), (a1, .inl (cL, 30, .inr (.inl (aL mn))))] s.heap := hP
  have hl := lv_entry ([.ref h, .int (nI c0), .long (lN v)]) (n := 5) (Nat.le_of_ble_eq_true rfl)
  rw [lg_entry_eq]
  generalize (lg_sl ([.ref h, .int (nI c0), .long (lN v)]) ++ List.replicate (5 - (lg_sl ([.ref h, .int (nI c0), .long (lN v)])).length) Slot.unset).toArray = ls at hl ⊢
  have hl : lv_has ls 5 [(0, .ref h), (1, .int (nI c0)), (2, .long (lN v))] := hl
  refine lv_iload_n hx hb d_Wa_insert_0 rfl (lv_at hl 1 rfl) ?_
  refine lv_istore (lv' := [(4, .int (nI c0)), (0, .ref h), (1, .int (nI c0)), (2, .long (lN v))]) hx hb d_Wa_insert_1 hl (by decide) rfl (fun ls hl => ?_)
  have J3 : ∀ (k : Nat) (q : Nat) (mq : Nat → Nat), (q = k) → (insI mn mq c0 v q) → ∀ (H : Heap) (locs : List Loc), va_P (dC, dI) vwCl [(h, .inr (6, [.ref a1])), (a1, .inl (cL, 30, .inr (.inl (aL mq))))] H → va_D A [(h, .inr (6, [.ref a1])), (a1, .inl (cL, 30, .inr (.inl (aL mq))))] → va_S A s.heap H locs → ∀ (ls : Array Slot), lv_has ls 5 [(0, .ref h), (1, .int (nI c0)), (2, .long (lN v)), (4, .int (nI q))] → W pr l en (headSpec ws_Wa_insert { frames := 0, cells := 0, slots := 0, locals := 0 }).room s m ([.ref h, .int (nI c0), .long (lN v)] : List Value).toArray below meth c H locs 0 0 (MQ below (va_Qv (fun (u : Nat → Nat) => sortedN u (c0 + 1) ∧ (lstF u 0 (c0 + 1)).Perm (v :: lstF mn 0 c0) ∧ ∀ j, j < c0 + 1 → u j ≤ 20000) (fun (u : Nat → Nat) => wrQ (dC, dI) vwCl [(cI, .int), (cL, .long), (cZ, .boolean)] A [(h, .inr (6, [.ref a1])), (a1, .inl (cL, 30, .inr (.inl (aL u))))]) A) ([.ref h, .int (nI c0), .long (lN v)] : List Value).toArray s 0 0 A) (F0 m 3 ls []) := by
    intro k
    induction k with
    | zero =>
      intro q mq hk hin2 H locs hP hD hS ls hl
      have hqc := hin2.1
      refine lv_iload hx hb d_Wa_insert_3 (lv_at hl 3 rfl) ?_
      refine bk_if_le (a := q) (tgt := 44) hx hb (by omega) d_Wa_insert_5 (by decide) (fun c5 => ?_) (fun c5 => by exfalso; omega)
      refine lv_aload_n hx hb d_Wa_insert_44 rfl (lv_at hl 0 rfl) ?_
      refine va_get (D := (dC, dI)) (ci := 6) (v := .ref a1) (C := R_Wa) (T := F_Wa) (N := 1) hx hb htg iw_Wa hown hK hP 0 rfl rfl 0 (by decide) (htg _ k1_135) (fun _ h9 => h9) rfl d_Wa_insert_45 ?_
      refine lv_iload hx hb d_Wa_insert_48 (lv_at hl 3 rfl) ?_
      refine lv_lload_n hx hb d_Wa_insert_50 rfl (lv_at hl 2 rfl) ?_
      refine bk_last (x := lN v) (f2 := aL (va_up mq q v)) hx hb hK hP hD hS 1 1 rfl rfl (by omega) (by decide) (aL_up _ _ _) d_Wa_insert_51 (fun H locs hP hD hS => ?_)
      have hP : va_P (dC, dI) vwCl [(h, .inr (6, [.ref a1])), (a1, .inl (cL, 30, .inr (.inl (aL (va_up mq q v)))))] H := hP
      have hD : va_D A [(h, .inr (6, [.ref a1])), (a1, .inl (cL, 30, .inr (.inl (aL (va_up mq q v)))))] := hD
      have hP9 := hP.sub (ws' := [(h, .inr (6, [.ref a1])), (a1, .inl (cL, 30, .inr (.inl (aL (va_up mq q v)))))]) [0, 1] rfl
      have hD9 := hD.sub (ws' := [(h, .inr (6, [.ref a1])), (a1, .inl (cL, 30, .inr (.inl (aL (va_up mq q v)))))]) [0, 1] (by decide) rfl
      exact W.vret hx hb hr (fun t9 ht9 hW9 => ⟨⟨(va_up mq q v), rfl, ⟨ins_e hin2 hso (by first | exact Or.inl (by omega) | exact Or.inr c18), hin2.2.2.2, ins_b hin2 hb0 hv⟩, by rw [ht9]; exact hP9, va_K.moved hW9.alike hK, hD9⟩, hS.F ht9⟩) hS.2.2 d_Wa_insert_52
    | succ k ih3 =>
      intro q mq hk hin2 H locs hP hD hS ls hl
      have hqc := hin2.1
      have hq9 : mq (q - 1) ≤ 20000 := by rw [hin2.2.1 (q - 1) (by omega)]; exact hb0 (q - 1) (by omega)
      refine lv_iload hx hb d_Wa_insert_3 (lv_at hl 3 rfl) ?_
      refine bk_if_le (a := q) (tgt := 44) hx hb (by omega) d_Wa_insert_5 (by decide) (fun c5 => by exfalso; omega) (fun c5 => ?_)
      refine lv_aload_n hx hb d_Wa_insert_8 rfl (lv_at hl 0 rfl) ?_
      refine va_get (D := (dC, dI)) (ci := 6) (v := .ref a1) (C := R_Wa) (T := F_Wa) (N := 1) hx hb htg iw_Wa hown hK hP 0 rfl rfl 0 (by decide) (htg _ k1_135) (fun _ h9 => h9) rfl d_Wa_insert_9 ?_
      refine lv_iload hx hb d_Wa_insert_12 (lv_at hl 3 rfl) ?_
      refine lv_iconst (v := nI 1) hx hb d_Wa_insert_14 (by decide +kernel) ?_
      refine bk_isub hx hb (by omega) d_Wa_insert_15 ?_
      refine bk_lald (v := lN (mq (q - 1))) hx hb hK hP 1 1 rfl rfl (by omega) (by decide) rfl d_Wa_insert_16 ?_
      refine lv_lload_n hx hb d_Wa_insert_17 rfl (lv_at hl 2 rfl) ?_
      refine bk_ncmp_le (a := mq (q - 1)) (b := v) (tgt := 44) hx hb (by omega) (by omega) d_Wa_insert_18 d_Wa_insert_19 (by decide) (fun c18 => ?_) (fun c18 => ?_)
      · refine lv_aload_n hx hb d_Wa_insert_44 rfl (lv_at hl 0 rfl) ?_
        refine va_get (D := (dC, dI)) (ci := 6) (v := .ref a1) (C := R_Wa) (T := F_Wa) (N := 1) hx hb htg iw_Wa hown hK hP 0 rfl rfl 0 (by decide) (htg _ k1_135) (fun _ h9 => h9) rfl d_Wa_insert_45 ?_
        refine lv_iload hx hb d_Wa_insert_48 (lv_at hl 3 rfl) ?_
        refine lv_lload_n hx hb d_Wa_insert_50 rfl (lv_at hl 2 rfl) ?_
        refine bk_last (x := lN v) (f2 := aL (va_up mq q v)) hx hb hK hP hD hS 1 1 rfl rfl (by omega) (by decide) (aL_up _ _ _) d_Wa_insert_51 (fun H locs hP hD hS => ?_)
        have hP : va_P (dC, dI) vwCl [(h, .inr (6, [.ref a1])), (a1, .inl (cL, 30, .inr (.inl (aL (va_up mq q v)))))] H := hP
        have hD : va_D A [(h, .inr (6, [.ref a1])), (a1, .inl (cL, 30, .inr (.inl (aL (va_up mq q v)))))] := hD
        have hP9 := hP.sub (ws' := [(h, .inr (6, [.ref a1])), (a1, .inl (cL, 30, .inr (.inl (aL (va_up mq q v)))))]) [0, 1] rfl
        have hD9 := hD.sub (ws' := [(h, .inr (6, [.ref a1])), (a1, .inl (cL, 30, .inr (.inl (aL (va_up mq q v)))))]) [0, 1] (by decide) rfl
        exact W.vret hx hb hr (fun t9 ht9 hW9 => ⟨⟨(va_up mq q v), rfl, ⟨ins_e hin2 hso (by first | exact Or.inl (by omega) | exact Or.inr c18), hin2.2.2.2, ins_b hin2 hb0 hv⟩, by rw [ht9]; exact hP9, va_K.moved hW9.alike hK, hD9⟩, hS.F ht9⟩) hS.2.2 d_Wa_insert_52
      · refine lv_aload_n hx hb d_Wa_insert_22 rfl (lv_at hl 0 rfl) ?_
        refine va_get (D := (dC, dI)) (ci := 6) (v := .ref a1) (C := R_Wa) (T := F_Wa) (N := 1) hx hb htg iw_Wa hown hK hP 0 rfl rfl 0 (by decide) (htg _ k1_135) (fun _ h9 => h9) rfl d_Wa_insert_23 ?_
        refine lv_iload hx hb d_Wa_insert_26 (lv_at hl 3 rfl) ?_
        refine lv_aload_n hx hb d_Wa_insert_28 rfl (lv_at hl 0 rfl) ?_
        refine va_get (D := (dC, dI)) (ci := 6) (v := .ref a1) (C := R_Wa) (T := F_Wa) (N := 1) hx hb htg iw_Wa hown hK hP 0 rfl rfl 0 (by decide) (htg _ k1_135) (fun _ h9 => h9) rfl d_Wa_insert_29 ?_
        refine lv_iload hx hb d_Wa_insert_32 (lv_at hl 3 rfl) ?_
        refine lv_iconst (v := nI 1) hx hb d_Wa_insert_34 (by decide +kernel) ?_
        refine bk_isub hx hb (by omega) d_Wa_insert_35 ?_
        refine bk_lald (v := lN (mq (q - 1))) hx hb hK hP 1 1 rfl rfl (by omega) (by decide) rfl d_Wa_insert_36 ?_
        refine bk_last (x := lN (mq (q - 1))) (f2 := aL (va_up mq q (mq (q - 1)))) hx hb hK hP hD hS 1 1 rfl rfl (by omega) (by decide) (aL_up _ _ _) d_Wa_insert_37 (fun H locs hP hD hS => ?_)
        have hP : va_P (dC, dI) vwCl [(h, .inr (6, [.ref a1])), (a1, .inl (cL, 30, .inr (.inl (aL (va_up mq q (mq (q - 1)))))))] H := hP
        have hD : va_D A [(h, .inr (6, [.ref a1])), (a1, .inl (cL, 30, .inr (.inl (aL (va_up mq q (mq (q - 1)))))))] := hD
        refine lv_iinc (v := nI (q - 1)) (lv' := [(4, .int (nI (q - 1))), (0, .ref h), (1, .int (nI c0)), (2, .long (lN v))]) hx hb d_Wa_insert_38 hl (k := 3) rfl (sb_m1 (by omega)) (by decide) rfl (fun ls hl => ?_)
        refine lv_goto (tgt := 3) hx hb d_Wa_insert_41 (by decide) ?_
        exact ih3 (q - 1) (va_up mq q (mq (q - 1))) (by omega) (ins_s hin2 (by omega) c18) _ _ (hP.sub [0, 1] rfl) (hD.sub [0, 1] (by decide) rfl) hS ls (lv_sub hl [1, 2, 3, 0] rfl)
  exact J3 c0 c0 mn rfl ins_0 _ _ (hP.sub [0, 1] rfl) (hD.sub [0, 1] (by decide) rfl) hS ls (lv_sub hl [1, 2, 3, 0] rfl)
set_option maxHeartbeats 4000000 in
set_option maxRecDepth 100000 in
theorem c_Wa_sortMinutes (l : Launch) (dC : Nat → ClassId) (dI : Nat → Nat → Nat) (cI cL cZ : ClassId) (sz : Nat) (h a1 : Nat) (mn : Nat → Nat) (hbk b1 b2 b3 b4 n : Nat) (sh gr : Nat → Nat) (x : Int32) (hn : n ≤ 30) (hsh : ∀ j, j < n → sh j < 10) (hgr : ∀ j, j < n → gr j ≤ 1000000000) : Met l y_Wa_sortMinutes ws_Wa_sortMinutes { frames := 1, cells := 0, slots := 0, locals := 24 } (va_Pc [.ref h, .ref hbk, .int x] (wrP (dC, dI) vwCl [(cI, .int), (cL, .long), (cZ, .boolean)] [(h, .inr (6, [.ref a1])), (a1, .inl (cL, 30, .inr (.inl (aL mn)))), (hbk, .inr (1, [.ref b1, .ref b2, .ref b3, .ref b4, .int (nI n)])), (b1, .inl (cI, 30, .inl (aI sh))), (b4, .inl (cL, 30, .inr (.inl (aL gr))))] sz)) (va_Qi (fun (r : Int32) (u : Nat → Nat) => ∃ c0, r = nI c0 ∧ c0 ≤ n ∧ sortedN u c0 ∧ (lstF u 0 c0).Perm (cl sh gr x n) ∧ ∀ j, j < c0 → u j ≤ 20000) (fun (u : Nat → Nat) => wrQ (dC, dI) vwCl [(cI, .int), (cL, .long), (cZ, .boolean)] (va_A [(h, .inr (6, [.ref a1])), (a1, .inl (cL, 30, .inr (.inl (aL mn)))), (hbk, .inr (1, [.ref b1, .ref b2, .ref b3, .ref b4, .int (nI n)])), (b1, .inl (cI, 30, .inl (aI sh))), (b4, .inl (cL, 30, .inr (.inl (aL gr))))] sz) [(h, .inr (6, [.ref a1])), (a1, .inl (cL, 30, .inr (.inl (aL u)))), (hbk, .inr (1, [.ref b1, .ref b2, .ref b3, .ref b4, .int (nI n)])), (b1, .inl (cI, 30, .inl (aI sh))), (b4, .inl (cL, 30, .inr (.inl (aL gr))))]) (va_A [(h, .inr (6, [.ref a1])), (a1, .inl (cL, 30, .inr (.inl (aL mn)))), (hbk, .inr (1, [.ref b1, .ref b2, .ref b3, .ref b4, .int (nI n)])), (b1, .inl (cI, 30, .inl (aI sh))), (b4, .inl (cL, 30, .inr (.inl (aL gr))))] sz)) 0 0 (va_A [(h, .inr (6, [.ref a1])), (a1, .inl (cL, 30, .inr (.inl (aL mn)))), (hbk, .inr (1, [.ref b1, .ref b2, .ref b3, .ref b4, .int (nI n)])), (b1, .inl (cI, 30, .inl (aI sh))), (b4, .inl (cL, 30, .inr (.inl (aL gr))))] sz) := by
  refine Met.ofW (cc := b_Wa_sortMinutes) (maxL := 5) (ret := (some .int)) (by decide) rfl ?_
  intro pr en s m args below meth c s₁ B hml hv
  obtain ⟨rfl, hN, hsz, hP, hK, hD0⟩ := hv
  have hx := B.exec
  have hb := B.bytes
  have hr := B.returns
  have hts := atoms_spec (ws := ws_Wa_sortMinutes) B.pre
  have htg : ∀ w ∈ gW, w.before _ s = true := fun w h => hts w (List.mem_cons_of_mem _ h)
  have hown : s.vm.findClass R_Wa = some m.cls := findClass_of_methodNamed B.named
  have hlocks := B.notSynchronized
  subst hsz
  have hD := hD0.self (sz := s.heap.size)
  generalize hAe : va_A [(h, .inr (6, [.ref a1])), (a1, .inl (cL, 30, .inr (.inl (aL mn)))), (hbk, .inr (1, [.ref b1, .ref b2, .ref b3, .ref b4, .int (nI n)])), (b1, .inl (cI, 30, .inl (aI sh))), (b4, .inl (cL, 30, .inr (.inl (aL gr))))] s.heap.size = A at hD ⊢
  have hA : ∀ q : Nat, s.heap.size ≤ q → A q := fun q h => by rw [← hAe]; exact Or.inr h
  have hS : va_S A s.heap s.heap [] := va_S.rf
  have hP : va_P (dC, dI) vwCl [(h, .inr (6, [.ref a1])), (a1, .inl (cL, 30, .inr (.inl (aL mn)))), (hbk, .inr (1, [.ref b1, .ref b2, .ref b3, .ref b4, .int (nI n)])), (b1, .inl (cI, 30, .inl (aI sh))), (b4, .inl (cL, 30, .inr (.inl (aL gr))))] s.heap := hP
  have hl := lv_entry ([.ref h, .ref hbk, .int x]) (n := 5) (Nat.le_of_ble_eq_true rfl)
  rw [lg_entry_eq]
  generalize (lg_sl ([.ref h, .ref hbk, .int x]) ++ List.replicate (5 - (lg_sl ([.ref h, .ref hbk, .int x])).length) Slot.unset).toArray = ls at hl ⊢
  have hl : lv_has ls 5 [(0, .ref h), (1, .ref hbk), (2, .int x)] := hl
  refine lv_iconst (v := nI 0) hx hb d_Wa_sortMinutes_0 (by decide +kernel) ?_
  refine lv_istore_n (lv' := [(3, .int (nI 0)), (0, .ref h), (1, .ref hbk), (2, .int x)]) hx hb d_Wa_sortMinutes_1 rfl hl (by decide) rfl (fun ls hl => ?_)
  refine lv_iconst (v := nI 0) hx hb d_Wa_sortMinutes_2 (by decide +kernel) ?_
  refine lv_istore (lv' := [(4, .int (nI 0)), (3, .int (nI 0)), (0, .ref h), (1, .ref hbk), (2, .int x)]) hx hb d_Wa_sortMinutes_3 hl (by decide) rfl (fun ls hl => ?_)
  have J5 : ∀ (k : Nat) (i : Nat) (c0 : Nat) (mq : Nat → Nat), (i + k = n) → (c0 ≤ i) → (sortedN mq c0) → ((lstF mq 0 c0).Perm (cl sh gr x i)) → (∀ j, j < c0 → mq j ≤ 20000) → ∀ (H : Heap) (locs : List Loc), va_P (dC, dI) vwCl [(h, .inr (6, [.ref a1])), (a1, .inl (cL, 30, .inr (.inl (aL mq)))), (hbk, .inr (1, [.ref b1, .ref b2, .ref b3, .ref b4, .int (nI n)])), (b1, .inl (cI, 30, .inl (aI sh))), (b4, .inl (cL, 30, .inr (.inl (aL gr))))] H → va_D A [(h, .inr (6, [.ref a1])), (a1, .inl (cL, 30, .inr (.inl (aL mq)))), (hbk, .inr (1, [.ref b1, .ref b2, .ref b3, .ref b4, .int (nI n)])), (b1, .inl (cI, 30, .inl (aI sh))), (b4, .inl (cL, 30, .inr (.inl (aL gr))))] → va_S A s.heap H locs → ∀ (ls : Array Slot), lv_has ls 5 [(0, .ref h), (1, .ref hbk), (2, .int x), (3, .int (nI c0)), (4, .int (nI i))] → W pr l en (headSpec ws_Wa_sortMinutes { frames := 1, cells := 0, slots := 0, locals := 24 }).room s m ([.ref h, .ref hbk, .int x] : List Value).toArray below meth c H locs 0 0 (MQ below (va_Qi (fun (r : Int32) (u : Nat → Nat) => ∃ c0, r = nI c0 ∧ c0 ≤ n ∧ sortedN u c0 ∧ (lstF u 0 c0).Perm (cl sh gr x n) ∧ ∀ j, j < c0 → u j ≤ 20000) (fun (u : Nat → Nat) => wrQ (dC, dI) vwCl [(cI, .int), (cL, .long), (cZ, .boolean)] A [(h, .inr (6, [.ref a1])), (a1, .inl (cL, 30, .inr (.inl (aL u)))), (hbk, .inr (1, [.ref b1, .ref b2, .ref b3, .ref b4, .int (nI n)])), (b1, .inl (cI, 30, .inl (aI sh))), (b4, .inl (cL, 30, .inr (.inl (aL gr))))]) A) ([.ref h, .ref hbk, .int x] : List Value).toArray s 0 0 A) (F0 m 5 ls []) := by
    intro k
    induction k with
    | zero =>
      intro i c0 mq hk hci hso hpe hbo H locs hP hD hS ls hl
      refine lv_iload hx hb d_Wa_sortMinutes_5 (lv_at hl 4 rfl) ?_
      refine lv_aload_n hx hb d_Wa_sortMinutes_7 rfl (lv_at hl 1 rfl) ?_
      refine va_get (D := (dC, dI)) (ci := 1) (v := .int (nI n)) (C := R_Bk) (T := F_Bk) (N := 5) hx hb htg iw_Bk hown hK hP 2 rfl rfl 4 (by decide) (htg _ k1_39) (fun _ h9 => h9) rfl d_Wa_sortMinutes_8 ?_
      refine bk_icmp_ge (a := i) (b := n) (tgt := 60) hx hb (by omega) (by omega) d_Wa_sortMinutes_11 (by decide) (fun c11 => ?_) (fun c11 => by exfalso; omega)
      refine lv_iload_n hx hb d_Wa_sortMinutes_60 rfl (lv_at hl 3 rfl) ?_
      have hP9 := hP.sub (ws' := [(h, .inr (6, [.ref a1])), (a1, .inl (cL, 30, .inr (.inl (aL mq)))), (hbk, .inr (1, [.ref b1, .ref b2, .ref b3, .ref b4, .int (nI n)])), (b1, .inl (cI, 30, .inl (aI sh))), (b4, .inl (cL, 30, .inr (.inl (aL gr))))]) [0, 1, 2, 3, 4] rfl
      have hD9 := hD.sub (ws' := [(h, .inr (6, [.ref a1])), (a1, .inl (cL, 30, .inr (.inl (aL mq)))), (hbk, .inr (1, [.ref b1, .ref b2, .ref b3, .ref b4, .int (nI n)])), (b1, .inl (cI, 30, .inl (aI sh))), (b4, .inl (cL, 30, .inr (.inl (aL gr))))]) [0, 1, 2, 3, 4] (by decide) rfl
      exact W.iret (v := nI c0) hx hb hr (fun t9 ht9 hW9 => ⟨⟨nI c0, (mq), rfl, ⟨c0, rfl, by omega, hso, by rw [show i = n by omega] at hpe; exact hpe, hbo⟩, by rw [ht9]; exact hP9, va_K.moved hW9.alike hK, hD9⟩, hS.F ht9⟩) hS.2.2 d_Wa_sortMinutes_61
    | succ k ih5 =>
      intro i c0 mq hk hci hso hpe hbo H locs hP hD hS ls hl
      have hs1 := hsh i (by omega)
      have hg1 := hgr i (by omega)
      have hco := cost_le hg1
      have hdv : (gr i + 100000 - 1) / 100000 ≤ gr i + 100000 := Nat.le_trans (Nat.div_le_self _ _) (by omega)
      refine lv_iload hx hb d_Wa_sortMinutes_5 (lv_at hl 4 rfl) ?_
      refine lv_aload_n hx hb d_Wa_sortMinutes_7 rfl (lv_at hl 1 rfl) ?_
      refine va_get (D := (dC, dI)) (ci := 1) (v := .int (nI n)) (C := R_Bk) (T := F_Bk) (N := 5) hx hb htg iw_Bk hown hK hP 2 rfl rfl 4 (by decide) (htg _ k1_39) (fun _ h9 => h9) rfl d_Wa_sortMinutes_8 ?_
      refine bk_icmp_ge (a := i) (b := n) (tgt := 60) hx hb (by omega) (by omega) d_Wa_sortMinutes_11 (by decide) (fun c11 => by exfalso; omega) (fun c11 => ?_)
      refine lv_aload_n hx hb d_Wa_sortMinutes_14 rfl (lv_at hl 1 rfl) ?_
      refine va_get (D := (dC, dI)) (ci := 1) (v := .ref b1) (C := R_Bk) (T := F_Bk) (N := 5) hx hb htg iw_Bk hown hK hP 2 rfl rfl 0 (by decide) (htg _ k1_31) (fun _ h9 => h9) rfl d_Wa_sortMinutes_15 ?_
      refine lv_iload hx hb d_Wa_sortMinutes_18 (lv_at hl 4 rfl) ?_
      refine bk_iald (v := nI (sh i)) hx hb hK hP 3 0 rfl rfl (by omega) (by decide) rfl d_Wa_sortMinutes_20 ?_
      refine lv_iload_n hx hb d_Wa_sortMinutes_21 rfl (lv_at hl 2 rfl) ?_
      refine lv_icmp_ne (x := nI (sh i)) (y := x) (tgt := 54) hx hb d_Wa_sortMinutes_22 (by decide) (fun c22 => ?_) (fun c22 => ?_)
      · refine lv_iinc (v := nI (i + 1)) (lv' := [(4, .int (nI (i + 1))), (0, .ref h), (1, .ref hbk), (2, .int x), (3, .int (nI c0))]) hx hb d_Wa_sortMinutes_54 hl (k := 4) rfl (bk_inc i) (by decide) rfl (fun ls hl => ?_)
        refine lv_goto (tgt := 5) hx hb d_Wa_sortMinutes_57 (by decide) ?_
        exact ih5 (i + 1) c0 mq (by omega) (by omega) hso (by rw [cl, if_neg c22]; exact hpe) hbo _ _ (hP.sub [0, 1, 2, 3, 4] rfl) (hD.sub [0, 1, 2, 3, 4] (by decide) rfl) hS ls (lv_sub hl [1, 2, 3, 4, 0] rfl)
      · refine lv_aload_n hx hb d_Wa_sortMinutes_25 rfl (lv_at hl 0 rfl) ?_
        refine lv_iload_n hx hb d_Wa_sortMinutes_26 rfl (lv_at hl 3 rfl) ?_
        refine lv_ldc2 (own := R_Wa) (v := 20) hx hb hown (htg _ k2_181) d_Wa_sortMinutes_27 ?_
        refine bk_topl (y := lN 20) (by decide +kernel) ?_
        refine lv_aload_n hx hb d_Wa_sortMinutes_30 rfl (lv_at hl 1 rfl) ?_
        refine va_get (D := (dC, dI)) (ci := 1) (v := .ref b4) (C := R_Bk) (T := F_Bk) (N := 5) hx hb htg iw_Bk hown hK hP 2 rfl rfl 3 (by decide) (htg _ k1_37) (fun _ h9 => h9) rfl d_Wa_sortMinutes_31 ?_
        refine lv_iload hx hb d_Wa_sortMinutes_34 (lv_at hl 4 rfl) ?_
        refine bk_lald (v := lN (gr i)) hx hb hK hP 4 1 rfl rfl (by omega) (by decide) rfl d_Wa_sortMinutes_36 ?_
        refine lv_ldc2 (own := R_Wa) (v := 100000) hx hb hown (htg _ k2_182) d_Wa_sortMinutes_37 ?_
        refine bk_topl (y := lN 100000) (by decide +kernel) ?_
        refine bk_ladd hx hb d_Wa_sortMinutes_40 ?_
        refine lv_lconst (v := lN 1) hx hb d_Wa_sortMinutes_41 (by decide +kernel) ?_
        refine bk_lsub hx hb (by omega) d_Wa_sortMinutes_42 ?_
        refine lv_ldc2 (own := R_Wa) (v := 100000) hx hb hown (htg _ k2_182) d_Wa_sortMinutes_43 ?_
        refine bk_topl (y := lN 100000) (by decide +kernel) ?_
        refine bk_ldiv hx hb (by omega) (by omega) (by omega) d_Wa_sortMinutes_46 ?_
        refine bk_ladd hx hb d_Wa_sortMinutes_47 ?_
        have hPc := hP.sub (ws' := [(h, .inr (6, [.ref a1])), (a1, .inl (cL, 30, .inr (.inl (aL mq))))]) [0, 1] rfl
        have hDc := hD.sub (ws' := [(h, .inr (6, [.ref a1])), (a1, .inl (cL, 30, .inr (.inl (aL mq))))]) [0, 1] (by decide) rfl
        have hFc := va_free (wc := [(h, .inr (6, [.ref a1])), (a1, .inl (cL, 30, .inr (.inl (aL mq))))]) hD hS hA [0, 1] rfl
        refine va_callv (va_runV (As := [.int (nI c0), .long (lN (20 + ((((gr i) + 100000) - 1) / 100000)))]) (rest := []) ⟨hx, hb, hml, hown, htg⟩ (c_Wa_insert l dC dI cI cL cZ H.size h a1 mq c0 (20 + ((((gr i) + 100000) - 1) / 100000)) (by omega) hco hbo hso) (cwV 2 htg (gdV k2_183 k2_185 ks_Wa_insert k1_7 kc_Wa_insert) rfl rfl rfl (by decide +kernel) ⟨Nat.le_of_ble_eq_true rfl, Nat.le_of_ble_eq_true rfl⟩) ⟨bk_blindW, va_recv hK hP (ci := 6) (q0 := 0) rfl rfl, fun U hU hW => ⟨rfl, nw_warm hW hN, by rw [hU], by rw [hU]; exact hPc, va_K.moved hW.alike hK, hDc.weaken (fun _ _ _ _ => trivial)⟩⟩ rfl rfl hl.1 rfl (lv_room (Nat.le_of_ble_eq_true rfl)) d_Wa_sortMinutes_48 ⟨Nat.le_of_ble_eq_true rfl, Nat.le_of_ble_eq_true rfl⟩) hS (fun q _ h => hFc q h) hFc (fun u t H1 locs ht hvm e48 hB hz1 hk1 hS => ?_)
        obtain ⟨hP1, hK1, hD1⟩ := hB
        rw [ht] at hP1
        try dsimp only at e48
        obtain ⟨mn48, rfl⟩ : ∃ z, z = u := ⟨_, rfl⟩
        obtain ⟨hso48, hpe48, hbo48⟩ := e48
        obtain ⟨hP, hD⟩ := va_join (wr := [(hbk, .inr (1, [.ref b1, .ref b2, .ref b3, .ref b4, .int (nI n)])), (b1, .inl (cI, 30, .inl (aI sh))), (b4, .inl (cL, 30, .inr (.inl (aL gr))))]) (w1 := [(h, .inr (6, [.ref a1])), (a1, .inl (cL, 30, .inr (.inl (aL mn48))))]) hP hD [0, 1] [2, 3, 4] rfl rfl (by decide) (by decide) hk1 hFc hP1 hD1
        generalize H1 = H at hP hS ⊢
        have hP : va_P (dC, dI) vwCl [(h, .inr (6, [.ref a1])), (a1, .inl (cL, 30, .inr (.inl (aL mn48)))), (hbk, .inr (1, [.ref b1, .ref b2, .ref b3, .ref b4, .int (nI n)])), (b1, .inl (cI, 30, .inl (aI sh))), (b4, .inl (cL, 30, .inr (.inl (aL gr))))] H := hP.sub [3, 4, 0, 1, 2] rfl
        have hD : va_D A [(h, .inr (6, [.ref a1])), (a1, .inl (cL, 30, .inr (.inl (aL mn48)))), (hbk, .inr (1, [.ref b1, .ref b2, .ref b3, .ref b4, .int (nI n)])), (b1, .inl (cI, 30, .inl (aI sh))), (b4, .inl (cL, 30, .inr (.inl (aL gr))))] := hD.sub [3, 4, 0, 1, 2] (by decide) rfl
        refine lv_iinc (v := nI (c0 + 1)) (lv' := [(3, .int (nI (c0 + 1))), (0, .ref h), (1, .ref hbk), (2, .int x), (4, .int (nI i))]) hx hb d_Wa_sortMinutes_51 hl (k := 3) rfl (bk_inc c0) (by decide) rfl (fun ls hl => ?_)
        refine lv_iinc (v := nI (i + 1)) (lv' := [(4, .int (nI (i + 1))), (3, .int (nI (c0 + 1))), (0, .ref h), (1, .ref hbk), (2, .int x)]) hx hb d_Wa_sortMinutes_54 hl (k := 4) rfl (bk_inc i) (by decide) rfl (fun ls hl => ?_)
        refine lv_goto (tgt := 5) hx hb d_Wa_sortMinutes_57 (by decide) ?_
        exact ih5 (i + 1) (c0 + 1) mn48 (by omega) (by omega) hso48 (by rw [cl, if_pos c22]; exact hpe48.trans ((hpe.cons _).trans (List.perm_append_singleton _ _).symm)) hbo48 _ _ (hP.sub [0, 1, 2, 3, 4] rfl) (hD.sub [0, 1, 2, 3, 4] (by decide) rfl) hS ls (lv_sub hl [2, 3, 4, 1, 0] rfl)
  exact J5 n 0 0 mn (by omega) (by omega) (fun i j _ h => absurd h (by omega)) (List.Perm.refl _) (fun j h => absurd h (by omega)) _ _ (hP.sub [0, 1, 2, 3, 4] rfl) (hD.sub [0, 1, 2, 3, 4] (by decide) rfl) hS ls (lv_sub hl [2, 3, 4, 1, 0] rfl)
set_option maxHeartbeats 4000000 in
set_option maxRecDepth 100000 in
theorem c_Wa_most (l : Launch) (dC : Nat → ClassId) (dI : Nat → Nat → Nat) (cI cL cZ : ClassId) (sz : Nat) (h a1 : Nat) (mn : Nat → Nat) (hbk b1 b2 b3 b4 n : Nat) (sh gr : Nat → Nat) (x : Int32) (y : Int32) (hn : n ≤ 30) (hsh : ∀ j, j < n → sh j < 10) (hgr : ∀ j, j < n → gr j ≤ 1000000000) : Met l y_Wa_most ws_Wa_most { frames := 2, cells := 0, slots := 0, locals := 48 } (va_Pc [.ref h, .ref hbk, .int x, .int y] (wrP (dC, dI) vwCl [(cI, .int), (cL, .long), (cZ, .boolean)] [(h, .inr (6, [.ref a1])), (a1, .inl (cL, 30, .inr (.inl (aL mn)))), (hbk, .inr (1, [.ref b1, .ref b2, .ref b3, .ref b4, .int (nI n)])), (b1, .inl (cI, 30, .inl (aI sh))), (b4, .inl (cL, 30, .inr (.inl (aL gr))))] sz)) (va_Qi (fun (r : Int32) (u : Nat → Nat) => ∃ k, r = nI k ∧ k ≤ 30 ∧ isCam (cl sh gr x n) y.toInt k) (fun (u : Nat → Nat) => wrQ (dC, dI) vwCl [(cI, .int), (cL, .long), (cZ, .boolean)] (va_A [(h, .inr (6, [.ref a1])), (a1, .inl (cL, 30, .inr (.inl (aL mn)))), (hbk, .inr (1, [.ref b1, .ref b2, .ref b3, .ref b4, .int (nI n)])), (b1, .inl (cI, 30, .inl (aI sh))), (b4, .inl (cL, 30, .inr (.inl (aL gr))))] sz) [(h, .inr (6, [.ref a1])), (a1, .inl (cL, 30, .inr (.inl (aL u)))), (hbk, .inr (1, [.ref b1, .ref b2, .ref b3, .ref b4, .int (nI n)])), (b1, .inl (cI, 30, .inl (aI sh))), (b4, .inl (cL, 30, .inr (.inl (aL gr))))]) (va_A [(h, .inr (6, [.ref a1])), (a1, .inl (cL, 30, .inr (.inl (aL mn)))), (hbk, .inr (1, [.ref b1, .ref b2, .ref b3, .ref b4, .int (nI n)])), (b1, .inl (cI, 30, .inl (aI sh))), (b4, .inl (cL, 30, .inr (.inl (aL gr))))] sz)) 0 0 (va_A [(h, .inr (6, [.ref a1])), (a1, .inl (cL, 30, .inr (.inl (aL mn)))), (hbk, .inr (1, [.ref b1, .ref b2, .ref b3, .ref b4, .int (nI n)])), (b1, .inl (cI, 30, .inl (aI sh))), (b4, .inl (cL, 30, .inr (.inl (aL gr))))] sz) := by
  refine Met.ofW (cc := b_Wa_most) (maxL := 9) (ret := (some .int)) (by decide) rfl ?_
  intro pr en s m args below meth c s₁ B hml hv
  obtain ⟨rfl, hN, hsz, hP, hK, hD0⟩ := hv
  have hx := B.exec
  have hb := B.bytes
  have hr := B.returns
  have hts := atoms_spec (ws := ws_Wa_most) B.pre
  have htg : ∀ w ∈ gW, w.before _ s = true := fun w h => hts w (List.mem_cons_of_mem _ h)
  have hown : s.vm.findClass R_Wa = some m.cls := findClass_of_methodNamed B.named
  have hlocks := B.notSynchronized
  subst hsz
  have hD := hD0.self (sz := s.heap.size)
  generalize hAe : va_A [(h, .inr (6, [.ref a1])), (a1, .inl (cL, 30, .inr (.inl (aL mn)))), (hbk, .inr (1, [.ref b1, .ref b2, .ref b3, .ref b4, .int (nI n)])), (b1, .inl (cI, 30, .inl (aI sh))), (b4, .inl (cL, 30, .inr (.inl (aL gr))))] s.heap.size = A at hD ⊢
  have hA : ∀ q : Nat, s.heap.size ≤ q → A q := fun q h => by rw [← hAe]; exact Or.inr h
  have hS : va_S A s.heap s.heap [] := va_S.rf
  have hP : va_P (dC, dI) vwCl [(h, .inr (6, [.ref a1])), (a1, .inl (cL, 30, .inr (.inl (aL mn)))), (hbk, .inr (1, [.ref b1, .ref b2, .ref b3, .ref b4, .int (nI n)])), (b1, .inl (cI, 30, .inl (aI sh))), (b4, .inl (cL, 30, .inr (.inl (aL gr))))] s.heap := hP
  have hl := lv_entry ([.ref h, .ref hbk, .int x, .int y]) (n := 9) (Nat.le_of_ble_eq_true rfl)
  rw [lg_entry_eq]
  generalize (lg_sl ([.ref h, .ref hbk, .int x, .int y]) ++ List.replicate (9 - (lg_sl ([.ref h, .ref hbk, .int x, .int y])).length) Slot.unset).toArray = ls at hl ⊢
  have hl : lv_has ls 9 [(0, .ref h), (1, .ref hbk), (2, .int x), (3, .int y)] := hl
  refine lv_aload_n hx hb d_Wa_most_0 rfl (lv_at hl 0 rfl) ?_
  refine lv_aload_n hx hb d_Wa_most_1 rfl (lv_at hl 1 rfl) ?_
  refine lv_iload_n hx hb d_Wa_most_2 rfl (lv_at hl 2 rfl) ?_
  have hPc := hP.sub (ws' := [(h, .inr (6, [.ref a1])), (a1, .inl (cL, 30, .inr (.inl (aL mn)))), (hbk, .inr (1, [.ref b1, .ref b2, .ref b3, .ref b4, .int (nI n)])), (b1, .inl (cI, 30, .inl (aI sh))), (b4, .inl (cL, 30, .inr (.inl (aL gr))))]) [0, 1, 2, 3, 4] rfl
  have hDc := hD.sub (ws' := [(h, .inr (6, [.ref a1])), (a1, .inl (cL, 30, .inr (.inl (aL mn)))), (hbk, .inr (1, [.ref b1, .ref b2, .ref b3, .ref b4, .int (nI n)])), (b1, .inl (cI, 30, .inl (aI sh))), (b4, .inl (cL, 30, .inr (.inl (aL gr))))]) [0, 1, 2, 3, 4] (by decide) rfl
  have hFc := va_free (wc := [(h, .inr (6, [.ref a1])), (a1, .inl (cL, 30, .inr (.inl (aL mn)))), (hbk, .inr (1, [.ref b1, .ref b2, .ref b3, .ref b4, .int (nI n)])), (b1, .inl (cI, 30, .inl (aI sh))), (b4, .inl (cL, 30, .inr (.inl (aL gr))))]) hD hS hA [0, 1, 2, 3, 4] rfl
  refine va_calli (va_runV (As := [.ref hbk, .int x]) (rest := []) ⟨hx, hb, hml, hown, htg⟩ (c_Wa_sortMinutes l dC dI cI cL cZ s.heap.size h a1 mn hbk b1 b2 b3 b4 n sh gr x hn hsh hgr) (cwV 2 htg (gdV k2_177 k2_179 ks_Wa_sortMinutes k1_7 kc_Wa_sortMinutes) rfl rfl rfl (by decide +kernel) ⟨Nat.le_of_ble_eq_true rfl, Nat.le_of_ble_eq_true rfl⟩) ⟨bk_blindW, va_recv hK hP (ci := 6) (q0 := 0) rfl rfl, fun U hU hW => ⟨rfl, nw_warm hW hN, by rw [hU], by rw [hU]; exact hPc, va_K.moved hW.alike hK, hDc.weaken (fun _ _ _ _ => trivial)⟩⟩ rfl rfl hl.1 rfl (lv_room (Nat.le_of_ble_eq_true rfl)) d_Wa_most_3 ⟨Nat.le_of_ble_eq_true rfl, Nat.le_of_ble_eq_true rfl⟩) hS (fun q _ h => hFc q h) hFc (fun r3 u t H1 locs ht hvm e3 hB hz1 hk1 hS => ?_)
  obtain ⟨hP1, hK1, hD1⟩ := hB
  rw [ht] at hP1
  try dsimp only at e3
  obtain ⟨mn3, rfl⟩ : ∃ z, z = u := ⟨_, rfl⟩
  obtain ⟨c3, rfl, hc3, hso3, hpe3, hbo3⟩ := e3
  obtain ⟨hP, hD⟩ := va_join (wr := []) (w1 := [(h, .inr (6, [.ref a1])), (a1, .inl (cL, 30, .inr (.inl (aL mn3)))), (hbk, .inr (1, [.ref b1, .ref b2, .ref b3, .ref b4, .int (nI n)])), (b1, .inl (cI, 30, .inl (aI sh))), (b4, .inl (cL, 30, .inr (.inl (aL gr))))]) hP hD [0, 1, 2, 3, 4] [] rfl rfl (by decide) (by decide) hk1 hFc hP1 hD1
  generalize H1 = H at hP hS ⊢
  have hP : va_P (dC, dI) vwCl [(h, .inr (6, [.ref a1])), (a1, .inl (cL, 30, .inr (.inl (aL mn3)))), (hbk, .inr (1, [.ref b1, .ref b2, .ref b3, .ref b4, .int (nI n)])), (b1, .inl (cI, 30, .inl (aI sh))), (b4, .inl (cL, 30, .inr (.inl (aL gr))))] H := hP.sub [0, 1, 2, 3, 4] rfl
  have hD : va_D A [(h, .inr (6, [.ref a1])), (a1, .inl (cL, 30, .inr (.inl (aL mn3)))), (hbk, .inr (1, [.ref b1, .ref b2, .ref b3, .ref b4, .int (nI n)])), (b1, .inl (cI, 30, .inl (aI sh))), (b4, .inl (cL, 30, .inr (.inl (aL gr))))] := hD.sub [0, 1, 2, 3, 4] (by decide) rfl
  refine lv_istore (lv' := [(4, .int (nI c3)), (0, .ref h), (1, .ref hbk), (2, .int x), (3, .int y)]) hx hb d_Wa_most_6 hl (by decide) rfl (fun ls hl => ?_)
  refine lv_iload_n hx hb d_Wa_most_8 rfl (lv_at hl 4 rfl) ?_
  refine lv_i2l (v := (y).toInt64) hx hb d_Wa_most_9 rfl ?_
  refine lv_lstore (lv' := [(5, .long ((y).toInt64)), (4, .int (nI c3)), (0, .ref h), (1, .ref hbk), (2, .int x), (3, .int y)]) hx hb d_Wa_most_10 hl (by decide) rfl (fun ls hl => ?_)
  refine lv_iconst (v := nI 0) hx hb d_Wa_most_12 (by decide +kernel) ?_
  refine lv_istore (lv' := [(7, .int (nI 0)), (5, .long ((y).toInt64)), (4, .int (nI c3)), (0, .ref h), (1, .ref hbk), (2, .int x), (3, .int y)]) hx hb d_Wa_most_13 hl (by decide) rfl (fun ls hl => ?_)
  refine lv_iconst (v := nI 0) hx hb d_Wa_most_15 (by decide +kernel) ?_
  refine lv_istore (lv' := [(8, .int (nI 0)), (7, .int (nI 0)), (5, .long ((y).toInt64)), (4, .int (nI c3)), (0, .ref h), (1, .ref hbk), (2, .int x), (3, .int y)]) hx hb d_Wa_most_16 hl (by decide) rfl (fun ls hl => ?_)
  have J18 : ∀ (k : Nat) (i : Nat) (lf : Int64), (i + k = c3) → (i + grS (lstF mn3 i k) lf.toInt = grS (lstF mn3 0 c3) y.toInt) → (-2147483648 ≤ lf.toInt ∧ lf.toInt < 2147483648) → ∀ (H : Heap) (locs : List Loc), va_P (dC, dI) vwCl [(h, .inr (6, [.ref a1])), (a1, .inl (cL, 30, .inr (.inl (aL mn3)))), (hbk, .inr (1, [.ref b1, .ref b2, .ref b3, .ref b4, .int (nI n)])), (b1, .inl (cI, 30, .inl (aI sh))), (b4, .inl (cL, 30, .inr (.inl (aL gr))))] H → va_D A [(h, .inr (6, [.ref a1])), (a1, .inl (cL, 30, .inr (.inl (aL mn3)))), (hbk, .inr (1, [.ref b1, .ref b2, .ref b3, .ref b4, .int (nI n)])), (b1, .inl (cI, 30, .inl (aI sh))), (b4, .inl (cL, 30, .inr (.inl (aL gr))))] → va_S A s.heap H locs → ∀ (ls : Array Slot), lv_has ls 9 [(0, .ref h), (4, .int (nI c3)), (5, .long lf), (7, .int (nI i)), (8, .int (nI i))] → W pr l en (headSpec ws_Wa_most { frames := 2, cells := 0, slots := 0, locals := 48 }).room s m ([.ref h, .ref hbk, .int x, .int y] : List Value).toArray below meth c H locs 0 0 (MQ below (va_Qi (fun (r : Int32) (u : Nat → Nat) => ∃ k, r = nI k ∧ k ≤ 30 ∧ isCam (cl sh gr x n) y.toInt k) (fun (u : Nat → Nat) => wrQ (dC, dI) vwCl [(cI, .int), (cL, .long), (cZ, .boolean)] A [(h, .inr (6, [.ref a1])), (a1, .inl (cL, 30, .inr (.inl (aL u)))), (hbk, .inr (1, [.ref b1, .ref b2, .ref b3, .ref b4, .int (nI n)])), (b1, .inl (cI, 30, .inl (aI sh))), (b4, .inl (cL, 30, .inr (.inl (aL gr))))]) A) ([.ref h, .ref hbk, .int x, .int y] : List Value).toArray s 0 0 A) (F0 m 18 ls []) := by
    intro k
    induction k with
    | zero =>
      intro i lf hk hg hlf H locs hP hD hS ls hl
      refine lv_iload hx hb d_Wa_most_18 (lv_at hl 4 rfl) ?_
      refine lv_iload hx hb d_Wa_most_20 (lv_at hl 1 rfl) ?_
      refine bk_icmp_ge (a := i) (b := c3) (tgt := 59) hx hb (by omega) (by omega) d_Wa_most_22 (by decide) (fun c22 => ?_) (fun c22 => by exfalso; omega)
      refine lv_iload hx hb d_Wa_most_59 (lv_at hl 3 rfl) ?_
      have hP9 := hP.sub (ws' := [(h, .inr (6, [.ref a1])), (a1, .inl (cL, 30, .inr (.inl (aL mn3)))), (hbk, .inr (1, [.ref b1, .ref b2, .ref b3, .ref b4, .int (nI n)])), (b1, .inl (cI, 30, .inl (aI sh))), (b4, .inl (cL, 30, .inr (.inl (aL gr))))]) [0, 1, 2, 3, 4] rfl
      have hD9 := hD.sub (ws' := [(h, .inr (6, [.ref a1])), (a1, .inl (cL, 30, .inr (.inl (aL mn3)))), (hbk, .inr (1, [.ref b1, .ref b2, .ref b3, .ref b4, .int (nI n)])), (b1, .inl (cI, 30, .inl (aI sh))), (b4, .inl (cL, 30, .inr (.inl (aL gr))))]) [0, 1, 2, 3, 4] (by decide) rfl
      exact W.iret (v := nI i) hx hb hr (fun t9 ht9 hW9 => ⟨⟨nI i, (mn3), rfl, ⟨i, rfl, by omega, lstF mn3 0 c3, sortedN_pw hso3, hpe3, by first | (rw [lstF, grS] at hg; exact hg; done) | (rw [lstF, grS, if_neg (by rw [Int64.lt_iff_toInt_lt, pk_lT (by omega)] at c34; omega)] at hg; exact hg)⟩, by rw [ht9]; exact hP9, va_K.moved hW9.alike hK, hD9⟩, hS.F ht9⟩) hS.2.2 d_Wa_most_61
    | succ k ih18 =>
      intro i lf hk hg hlf H locs hP hD hS ls hl
      have hm1 := hbo3 i (by omega)
      refine lv_iload hx hb d_Wa_most_18 (lv_at hl 4 rfl) ?_
      refine lv_iload hx hb d_Wa_most_20 (lv_at hl 1 rfl) ?_
      refine bk_icmp_ge (a := i) (b := c3) (tgt := 59) hx hb (by omega) (by omega) d_Wa_most_22 (by decide) (fun c22 => by exfalso; omega) (fun c22 => ?_)
      refine lv_aload_n hx hb d_Wa_most_25 rfl (lv_at hl 0 rfl) ?_
      refine va_get (D := (dC, dI)) (ci := 6) (v := .ref a1) (C := R_Wa) (T := F_Wa) (N := 1) hx hb htg iw_Wa hown hK hP 0 rfl rfl 0 (by decide) (htg _ k1_135) (fun _ h9 => h9) rfl d_Wa_most_26 ?_
      refine lv_iload hx hb d_Wa_most_29 (lv_at hl 4 rfl) ?_
      refine bk_lald (v := lN (mn3 i)) hx hb hK hP 1 1 rfl rfl (by omega) (by decide) rfl d_Wa_most_31 ?_
      refine lv_lload hx hb d_Wa_most_32 (lv_at hl 2 rfl) ?_
      refine bk_lcmp_gt (x := lN (mn3 i)) (y := lf) (tgt := 59) hx hb d_Wa_most_34 d_Wa_most_35 (by decide) (fun c34 => ?_) (fun c34 => ?_)
      · refine lv_iload hx hb d_Wa_most_59 (lv_at hl 3 rfl) ?_
        have hP9 := hP.sub (ws' := [(h, .inr (6, [.ref a1])), (a1, .inl (cL, 30, .inr (.inl (aL mn3)))), (hbk, .inr (1, [.ref b1, .ref b2, .ref b3, .ref b4, .int (nI n)])), (b1, .inl (cI, 30, .inl (aI sh))), (b4, .inl (cL, 30, .inr (.inl (aL gr))))]) [0, 1, 2, 3, 4] rfl
        have hD9 := hD.sub (ws' := [(h, .inr (6, [.ref a1])), (a1, .inl (cL, 30, .inr (.inl (aL mn3)))), (hbk, .inr (1, [.ref b1, .ref b2, .ref b3, .ref b4, .int (nI n)])), (b1, .inl (cI, 30, .inl (aI sh))), (b4, .inl (cL, 30, .inr (.inl (aL gr))))]) [0, 1, 2, 3, 4] (by decide) rfl
        exact W.iret (v := nI i) hx hb hr (fun t9 ht9 hW9 => ⟨⟨nI i, (mn3), rfl, ⟨i, rfl, by omega, lstF mn3 0 c3, sortedN_pw hso3, hpe3, by first | (rw [lstF, grS] at hg; exact hg; done) | (rw [lstF, grS, if_neg (by rw [Int64.lt_iff_toInt_lt, pk_lT (by omega)] at c34; omega)] at hg; exact hg)⟩, by rw [ht9]; exact hP9, va_K.moved hW9.alike hK, hD9⟩, hS.F ht9⟩) hS.2.2 d_Wa_most_61
      · have hcl2 : ((mn3 i : Nat) : Int) ≤ lf.toInt := by rw [Int64.le_iff_toInt_le, pk_lT (by omega)] at c34; exact c34
        refine lv_lload hx hb d_Wa_most_38 (lv_at hl 2 rfl) ?_
        refine lv_aload_n hx hb d_Wa_most_40 rfl (lv_at hl 0 rfl) ?_
        refine va_get (D := (dC, dI)) (ci := 6) (v := .ref a1) (C := R_Wa) (T := F_Wa) (N := 1) hx hb htg iw_Wa hown hK hP 0 rfl rfl 0 (by decide) (htg _ k1_135) (fun _ h9 => h9) rfl d_Wa_most_41 ?_
        refine lv_iload hx hb d_Wa_most_44 (lv_at hl 4 rfl) ?_
        refine bk_lald (v := lN (mn3 i)) hx hb hK hP 1 1 rfl rfl (by omega) (by decide) rfl d_Wa_most_46 ?_
        refine lv_lsub hx hb d_Wa_most_47 ?_
        refine lv_lstore (lv' := [(5, .long (lf - (lN (mn3 i)))), (0, .ref h), (4, .int (nI c3)), (7, .int (nI i)), (8, .int (nI i))]) hx hb d_Wa_most_48 hl (by decide) rfl (fun ls hl => ?_)
        refine lv_iinc (v := nI (i + 1)) (lv' := [(7, .int (nI (i + 1))), (5, .long (lf - (lN (mn3 i)))), (0, .ref h), (4, .int (nI c3)), (8, .int (nI i))]) hx hb d_Wa_most_50 hl (k := 3) rfl (bk_inc i) (by decide) rfl (fun ls hl => ?_)
        refine lv_iinc (v := nI (i + 1)) (lv' := [(8, .int (nI (i + 1))), (7, .int (nI (i + 1))), (5, .long (lf - (lN (mn3 i)))), (0, .ref h), (4, .int (nI c3))]) hx hb d_Wa_most_53 hl (k := 4) rfl (bk_inc i) (by decide) rfl (fun ls hl => ?_)
        refine lv_goto (tgt := 18) hx hb d_Wa_most_56 (by decide) ?_
        exact ih18 (i + 1) (lf - lN (mn3 i)) (by omega) (by rw [lsub_toInt hlf hm1 hcl2, Nat.add_right_comm]; rw [lstF, grS, if_pos hcl2] at hg; exact hg) (by rw [lsub_toInt hlf hm1 hcl2]; omega) _ _ (hP.sub [0, 1, 2, 3, 4] rfl) (hD.sub [0, 1, 2, 3, 4] (by decide) rfl) hS ls (lv_sub hl [3, 4, 2, 1, 0] rfl)
  exact J18 c3 0 y.toInt64 (by omega) (by rw [Int32.toInt_toInt64]; exact Nat.zero_add _) (by rw [Int32.toInt_toInt64]; have := Int32.toInt_lt y; have := Int32.le_toInt y; omega) _ _ (hP.sub [0, 1, 2, 3, 4] rfl) (hD.sub [0, 1, 2, 3, 4] (by decide) rfl) hS ls (lv_sub hl [4, 3, 2, 1, 0] rfl)
set_option maxHeartbeats 4000000 in
set_option maxRecDepth 100000 in
theorem c_B_choose (l : Launch) (dC : Nat → ClassId) (dI : Nat → Nat → Nat) (cI cL cZ : ClassId) (a s0 : Nat) (ha : a ≤ 30) (hs : s0 ≤ 30) : Met l y_B_choose ws_B_choose { frames := 0, cells := 0, slots := 0, locals := 0 } (va_Pc [.int (nI a), .int (nI s0)] (fun _ => True)) (vp_Sl (fun r => r = lN (chs a s0))) 0 0 (fun _ => False) := by
  refine Met.ofW (cc := b_B_choose) (maxL := 5) (ret := (some .long)) (by decide) rfl ?_
  intro pr en s m args below meth c s₁ B hml hv
  obtain ⟨rfl, -⟩ := hv
  have hx := B.exec
  have hb := B.bytes
  have hr := B.returns
  have hts := atoms_spec (ws := ws_B_choose) B.pre
  have htg : ∀ w ∈ gW, w.before _ s = true := fun w h => hts w (List.mem_cons_of_mem _ h)
  have hown : s.vm.findClass R_B = some m.cls := findClass_of_methodNamed B.named
  have hlocks := B.notSynchronized
  have hl := lv_entry ([.int (nI a), .int (nI s0)]) (n := 5) (Nat.le_of_ble_eq_true rfl)
  rw [lg_entry_eq]
  generalize (lg_sl ([.int (nI a), .int (nI s0)]) ++ List.replicate (5 - (lg_sl ([.int (nI a), .int (nI s0)])).length) Slot.unset).toArray = ls at hl ⊢
  have hl : lv_has ls 5 [(0, .int (nI a)), (1, .int (nI s0))] := hl
  refine lv_iload_n hx hb d_B_choose_0 rfl (lv_at hl 1 rfl) ?_
  refine lv_iload_n hx hb d_B_choose_1 rfl (lv_at hl 0 rfl) ?_
  refine bk_icmp_le (a := s0) (b := a) (tgt := 7) hx hb (by omega) (by omega) d_B_choose_2 (by decide) (fun c2 => ?_) (fun c2 => ?_)
  · refine lv_lconst (v := lN 1) hx hb d_B_choose_7 (by decide +kernel) ?_
    refine lv_lstore_n (lv' := [(2, .long (lN 1)), (0, .int (nI a)), (1, .int (nI s0))]) hx hb d_B_choose_8 rfl hl (by decide) rfl (fun ls hl => ?_)
    refine lv_iconst (v := nI 1) hx hb d_B_choose_9 (by decide +kernel) ?_
    refine lv_istore (lv' := [(4, .int (nI 1)), (2, .long (lN 1)), (0, .int (nI a)), (1, .int (nI s0))]) hx hb d_B_choose_10 hl (by decide) rfl (fun ls hl => ?_)
    have J12 : ∀ (k : Nat) (i : Nat) (t : Nat), (i + k = s0) → (t = chI a s0 i) → ∀ (ls : Array Slot), lv_has ls 5 [(0, .int (nI a)), (1, .int (nI s0)), (2, .long (lN t)), (4, .int (nI (i + 1)))] → W pr l en (headSpec ws_B_choose { frames := 0, cells := 0, slots := 0, locals := 0 }).room s m ([.int (nI a), .int (nI s0)] : List Value).toArray below meth c s.heap [] 0 0 (MQ below (vp_Sl (fun r => r = lN (chs a s0))) ([.int (nI a), .int (nI s0)] : List Value).toArray s 0 0 (fun _ => False)) (F0 m 12 ls []) := by
      intro k
      induction k with
      | zero =>
        intro i t hk htt ls hl
        refine lv_iload hx hb d_B_choose_12 (lv_at hl 3 rfl) ?_
        refine lv_iload_n hx hb d_B_choose_14 rfl (lv_at hl 1 rfl) ?_
        refine bk_icmp_gt (a := i + 1) (b := s0) (tgt := 38) hx hb (by omega) (by omega) d_B_choose_15 (by decide) (fun c15 => ?_) (fun c15 => by exfalso; omega)
        refine lv_lload_n hx hb d_B_choose_38 rfl (lv_at hl 2 rfl) ?_
        exact W.lret (v := lN t) hx hb hr (fun t9 ht9 hW9 => ⟨lN t, rfl, (by rw [chs, if_neg (by omega), htt, show i = s0 by omega]), ht9⟩) (fun q h => nomatch h) d_B_choose_39
      | succ k ih12 =>
        intro i t hk htt ls hl
        have hle := chI_le a (by omega) s0 (by omega) (by omega) i (by omega) (by omega)
        have hm9 : t * (a - s0 + (i + 1)) ≤ 155117520 * 31 := Nat.mul_le_mul (by omega) (by omega)
        refine lv_iload hx hb d_B_choose_12 (lv_at hl 3 rfl) ?_
        refine lv_iload_n hx hb d_B_choose_14 rfl (lv_at hl 1 rfl) ?_
        refine bk_icmp_gt (a := i + 1) (b := s0) (tgt := 38) hx hb (by omega) (by omega) d_B_choose_15 (by decide) (fun c15 => by exfalso; omega) (fun c15 => ?_)
        refine lv_lload_n hx hb d_B_choose_18 rfl (lv_at hl 2 rfl) ?_
        refine lv_iload_n hx hb d_B_choose_19 rfl (lv_at hl 0 rfl) ?_
        refine lv_iload_n hx hb d_B_choose_20 rfl (lv_at hl 1 rfl) ?_
        refine bk_isub hx hb (by omega) d_B_choose_21 ?_
        refine lv_iload hx hb d_B_choose_22 (lv_at hl 3 rfl) ?_
        refine bk_iadd hx hb d_B_choose_24 ?_
        refine bk_i2l hx hb (by omega) d_B_choose_25 ?_
        refine bk_lmul hx hb d_B_choose_26 ?_
        refine lv_iload hx hb d_B_choose_27 (lv_at hl 3 rfl) ?_
        refine bk_i2l hx hb (by omega) d_B_choose_29 ?_
        refine bk_ldiv hx hb (by omega) (by omega) (by omega) d_B_choose_30 ?_
        refine lv_lstore_n (lv' := [(2, .long (lN ((t * ((a - s0) + (i + 1))) / (i + 1)))), (0, .int (nI a)), (1, .int (nI s0)), (4, .int (nI (i + 1)))]) hx hb d_B_choose_31 rfl hl (by decide) rfl (fun ls hl => ?_)
        refine lv_iinc (v := nI (i + 1 + 1)) (lv' := [(4, .int (nI (i + 1 + 1))), (2, .long (lN ((t * ((a - s0) + (i + 1))) / (i + 1)))), (0, .int (nI a)), (1, .int (nI s0))]) hx hb d_B_choose_32 hl (k := 3) rfl (bk_inc (i + 1)) (by decide) rfl (fun ls hl => ?_)
        refine lv_goto (tgt := 12) hx hb d_B_choose_35 (by decide) ?_
        exact ih12 (i + 1) ((t * ((a - s0) + (i + 1))) / (i + 1)) (by omega) (by rw [htt]; rfl) ls (lv_sub hl [2, 3, 1, 0] rfl)
    exact J12 s0 0 1 (by omega) rfl ls (lv_sub hl [2, 3, 1, 0] rfl)
  · refine lv_lconst (v := lN 0) hx hb d_B_choose_5 (by decide +kernel) ?_
    exact W.lret (v := lN 0) hx hb hr (fun t9 ht9 hW9 => ⟨lN 0, rfl, (by rw [chs, if_pos (by omega)]), ht9⟩) (fun q h => nomatch h) d_B_choose_6
set_option maxHeartbeats 4000000 in
set_option maxRecDepth 100000 in
theorem c_B_commonDivisor (l : Launch) (dC : Nat → ClassId) (dI : Nat → Nat → Nat) (cI cL cZ : ClassId) (a b : Nat) (ha : a < 2 ^ 62) (hb0 : b < 2 ^ 62) : Met l y_B_commonDivisor ws_B_commonDivisor { frames := 0, cells := 0, slots := 0, locals := 0 } (va_Pc [.long (lN a), .long (lN b)] (fun _ => True)) (vp_Sl (fun r => r = lN (gcdF 128 a b))) 0 0 (fun _ => False) := by
  refine Met.ofW (cc := b_B_commonDivisor) (maxL := 11) (ret := (some .long)) (by decide) rfl ?_
  intro pr en s m args below meth c s₁ B hml hv
  obtain ⟨rfl, -⟩ := hv
  have hx := B.exec
  have hb := B.bytes
  have hr := B.returns
  have hts := atoms_spec (ws := ws_B_commonDivisor) B.pre
  have htg : ∀ w ∈ gW, w.before _ s = true := fun w h => hts w (List.mem_cons_of_mem _ h)
  have hown : s.vm.findClass R_B = some m.cls := findClass_of_methodNamed B.named
  have hlocks := B.notSynchronized
  have hl := lv_entry ([.long (lN a), .long (lN b)]) (n := 11) (Nat.le_of_ble_eq_true rfl)
  rw [lg_entry_eq]
  generalize (lg_sl ([.long (lN a), .long (lN b)]) ++ List.replicate (11 - (lg_sl ([.long (lN a), .long (lN b)])).length) Slot.unset).toArray = ls at hl ⊢
  have hl : lv_has ls 11 [(0, .long (lN a)), (2, .long (lN b))] := hl
  refine lv_lload_n hx hb d_B_commonDivisor_0 rfl (lv_at hl 0 rfl) ?_
  refine lv_lstore (lv' := [(4, .long (lN a)), (0, .long (lN a)), (2, .long (lN b))]) hx hb d_B_commonDivisor_1 hl (by decide) rfl (fun ls hl => ?_)
  refine lv_lload_n hx hb d_B_commonDivisor_3 rfl (lv_at hl 2 rfl) ?_
  refine lv_lstore (lv' := [(6, .long (lN b)), (4, .long (lN a)), (0, .long (lN a)), (2, .long (lN b))]) hx hb d_B_commonDivisor_4 hl (by decide) rfl (fun ls hl => ?_)
  refine lv_iconst (v := nI 0) hx hb d_B_commonDivisor_6 (by decide +kernel) ?_
  refine lv_istore (lv' := [(8, .int (nI 0)), (6, .long (lN b)), (4, .long (lN a)), (0, .long (lN a)), (2, .long (lN b))]) hx hb d_B_commonDivisor_7 hl (by decide) rfl (fun ls hl => ?_)
  have J9 : ∀ (k : Nat) (i : Nat) (g : Nat) (l0 : Nat), (i + k = 128) → (gcdF k g l0 = gcdF 128 a b) → (g < 2 ^ 62) → (l0 < 2 ^ 62) → ∀ (ls : Array Slot), lv_has ls 11 [(4, .long (lN g)), (6, .long (lN l0)), (8, .int (nI i))] → W pr l en (headSpec ws_B_commonDivisor { frames := 0, cells := 0, slots := 0, locals := 0 }).room s m ([.long (lN a), .long (lN b)] : List Value).toArray below meth c s.heap [] 0 0 (MQ below (vp_Sl (fun r => r = lN (gcdF 128 a b))) ([.long (lN a), .long (lN b)] : List Value).toArray s 0 0 (fun _ => False)) (F0 m 9 ls []) := by
    intro k
    induction k with
    | zero =>
      intro i g l0 hk hg h1 h2 ls hl
      refine lv_iload hx hb d_B_commonDivisor_9 (lv_at hl 2 rfl) ?_
      refine lv_sipush (v := nI 128) hx hb d_B_commonDivisor_11 (by decide +kernel) ?_
      refine bk_icmp_ge (a := i) (b := 128) (tgt := 45) hx hb (by omega) (by omega) d_B_commonDivisor_14 (by decide) (fun c14 => ?_) (fun c14 => by exfalso; omega)
      refine lv_lload hx hb d_B_commonDivisor_45 (lv_at hl 0 rfl) ?_
      exact W.lret (v := lN g) hx hb hr (fun t9 ht9 hW9 => ⟨lN g, rfl, (by first | (rw [gcdF] at hg; rw [hg]; done) | (rw [gcdF, if_pos c20] at hg; rw [hg])), ht9⟩) (fun q h => nomatch h) d_B_commonDivisor_47
    | succ k ih9 =>
      intro i g l0 hk hg h1 h2 ls hl
      refine lv_iload hx hb d_B_commonDivisor_9 (lv_at hl 2 rfl) ?_
      refine lv_sipush (v := nI 128) hx hb d_B_commonDivisor_11 (by decide +kernel) ?_
      refine bk_icmp_ge (a := i) (b := 128) (tgt := 45) hx hb (by omega) (by omega) d_B_commonDivisor_14 (by decide) (fun c14 => by exfalso; omega) (fun c14 => ?_)
      refine lv_lload hx hb d_B_commonDivisor_17 (lv_at hl 1 rfl) ?_
      refine lv_lconst (v := lN 0) hx hb d_B_commonDivisor_19 (by decide +kernel) ?_
      refine bk_ncmp_eq (a := l0) (b := 0) (tgt := 45) hx hb (by omega) (by omega) d_B_commonDivisor_20 d_B_commonDivisor_21 (by decide) (fun c20 => ?_) (fun c20 => ?_)
      · refine lv_lload hx hb d_B_commonDivisor_45 (lv_at hl 0 rfl) ?_
        exact W.lret (v := lN g) hx hb hr (fun t9 ht9 hW9 => ⟨lN g, rfl, (by first | (rw [gcdF] at hg; rw [hg]; done) | (rw [gcdF, if_pos c20] at hg; rw [hg])), ht9⟩) (fun q h => nomatch h) d_B_commonDivisor_47
      · refine lv_lload hx hb d_B_commonDivisor_24 (lv_at hl 0 rfl) ?_
        refine lv_lload hx hb d_B_commonDivisor_26 (lv_at hl 1 rfl) ?_
        refine bk_lrem hx hb (by omega) (by omega) (by omega) d_B_commonDivisor_28 ?_
        refine lv_lstore (lv' := [(9, .long (lN (g % l0))), (4, .long (lN g)), (6, .long (lN l0)), (8, .int (nI i))]) hx hb d_B_commonDivisor_29 hl (by decide) rfl (fun ls hl => ?_)
        refine lv_lload hx hb d_B_commonDivisor_31 (lv_at hl 2 rfl) ?_
        refine lv_lstore (lv' := [(4, .long (lN l0)), (9, .long (lN (g % l0))), (6, .long (lN l0)), (8, .int (nI i))]) hx hb d_B_commonDivisor_33 hl (by decide) rfl (fun ls hl => ?_)
        refine lv_lload hx hb d_B_commonDivisor_35 (lv_at hl 1 rfl) ?_
        refine lv_lstore (lv' := [(6, .long (lN (g % l0))), (4, .long (lN l0)), (9, .long (lN (g % l0))), (8, .int (nI i))]) hx hb d_B_commonDivisor_37 hl (by decide) rfl (fun ls hl => ?_)
        refine lv_iinc (v := nI (i + 1)) (lv' := [(8, .int (nI (i + 1))), (6, .long (lN (g % l0))), (4, .long (lN l0)), (9, .long (lN (g % l0)))]) hx hb d_B_commonDivisor_39 hl (k := 3) rfl (bk_inc i) (by decide) rfl (fun ls hl => ?_)
        refine lv_goto (tgt := 9) hx hb d_B_commonDivisor_42 (by decide) ?_
        exact ih9 (i + 1) l0 (g % l0) (by omega) (by rw [gcdF, if_neg c20] at hg; exact hg) (by omega) (Nat.lt_of_lt_of_le (Nat.mod_lt _ (by omega)) (by omega)) ls (lv_sub hl [2, 1, 0] rfl)
  exact J9 128 0 a b (by omega) rfl ha hb0 ls (lv_sub hl [2, 1, 0] rfl)
end
section
set_option maxHeartbeats 4000000 in
set_option maxRecDepth 100000 in
theorem c_B_page (l : Launch) (dC : Nat → ClassId) (dI : Nat → Nat → Nat) (cI cL cZ : ClassId) (sz : Nat) (xo up us uj ul uk ut uq uw uc : Nat) (sd : Int64) (a1 a2 a3 a4 n : Nat) (sh dy kd gr : Nat → Nat) (x1 x2 x3 : Int32) (x4 : Int64) (hn : n ≤ 30) : Met l y_B_page ws_B_page { frames := 2, cells := 0, slots := 0, locals := 47 } (va_Pc [.ref xo, .int x1, .int x2, .int x3, .long x4] (wrP (dC, dI) vwCl [(cI, .int), (cL, .long), (cZ, .boolean)] [(xo, .inr (0, [.long sd, .ref up, .ref us, .ref uj, .ref ul, .ref uk, .ref ut, .ref uq, .ref uw, .ref uc])), (up, .inr (1, [.ref a1, .ref a2, .ref a3, .ref a4, .int (nI n)])), (a1, .inl (cI, 30, .inl (aI sh))), (a2, .inl (cI, 30, .inl (aI dy))), (a3, .inl (cI, 30, .inl (aI kd))), (a4, .inl (cL, 30, .inr (.inl (aL gr))))] sz)) (va_Qi (fun (r : Int32) (u : Nat × (Nat → Nat) × (Nat → Nat) × (Nat → Nat) × (Nat → Nat)) => (addOk n x1 x2 x3 x4 ∧ r = nI n ∧ u = (n + 1, va_up sh n (tn x1), va_up dy n (tn x2), va_up kd n (tn x3), va_up gr n (tl x4))) ∨ (¬ addOk n x1 x2 x3 x4 ∧ r = oI none ∧ u = (n, sh, dy, kd, gr))) (fun (u : Nat × (Nat → Nat) × (Nat → Nat) × (Nat → Nat) × (Nat → Nat)) => wrQ (dC, dI) vwCl [(cI, .int), (cL, .long), (cZ, .boolean)] (va_A [(xo, .inr (0, [.long sd, .ref up, .ref us, .ref uj, .ref ul, .ref uk, .ref ut, .ref uq, .ref uw, .ref uc])), (up, .inr (1, [.ref a1, .ref a2, .ref a3, .ref a4, .int (nI n)])), (a1, .inl (cI, 30, .inl (aI sh))), (a2, .inl (cI, 30, .inl (aI dy))), (a3, .inl (cI, 30, .inl (aI kd))), (a4, .inl (cL, 30, .inr (.inl (aL gr))))] sz) [(xo, .inr (0, [.long sd, .ref up, .ref us, .ref uj, .ref ul, .ref uk, .ref ut, .ref uq, .ref uw, .ref uc])), (up, .inr (1, [.ref a1, .ref a2, .ref a3, .ref a4, .int (nI u.1)])), (a1, .inl (cI, 30, .inl (aI u.2.1))), (a2, .inl (cI, 30, .inl (aI u.2.2.1))), (a3, .inl (cI, 30, .inl (aI u.2.2.2.1))), (a4, .inl (cL, 30, .inr (.inl (aL u.2.2.2.2))))]) (va_A [(xo, .inr (0, [.long sd, .ref up, .ref us, .ref uj, .ref ul, .ref uk, .ref ut, .ref uq, .ref uw, .ref uc])), (up, .inr (1, [.ref a1, .ref a2, .ref a3, .ref a4, .int (nI n)])), (a1, .inl (cI, 30, .inl (aI sh))), (a2, .inl (cI, 30, .inl (aI dy))), (a3, .inl (cI, 30, .inl (aI kd))), (a4, .inl (cL, 30, .inr (.inl (aL gr))))] sz)) 0 0 (va_A [(xo, .inr (0, [.long sd, .ref up, .ref us, .ref uj, .ref ul, .ref uk, .ref ut, .ref uq, .ref uw, .ref uc])), (up, .inr (1, [.ref a1, .ref a2, .ref a3, .ref a4, .int (nI n)])), (a1, .inl (cI, 30, .inl (aI sh))), (a2, .inl (cI, 30, .inl (aI dy))), (a3, .inl (cI, 30, .inl (aI kd))), (a4, .inl (cL, 30, .inr (.inl (aL gr))))] sz) := by
  refine Met.ofW (cc := b_B_page) (maxL := 6) (ret := (some .int)) (by decide) rfl ?_
  intro pr en s m args below meth c s₁ B hml hv
  obtain ⟨rfl, hN, hsz, hP, hK, hD0⟩ := hv
  have hx := B.exec
  have hb := B.bytes
  have hr := B.returns
  have hts := atoms_spec (ws := ws_B_page) B.pre
  have htg : ∀ w ∈ gW, w.before _ s = true := fun w h => hts w (List.mem_cons_of_mem _ h)
  have hown : s.vm.findClass R_B = some m.cls := findClass_of_methodNamed B.named
  have hlocks := B.notSynchronized
  subst hsz
  have hD := hD0.self (sz := s.heap.size)
  generalize hAe : va_A [(xo, .inr (0, [.long sd, .ref up, .ref us, .ref uj, .ref ul, .ref uk, .ref ut, .ref uq, .ref uw, .ref uc])), (up, .inr (1, [.ref a1, .ref a2, .ref a3, .ref a4, .int (nI n)])), (a1, .inl (cI, 30, .inl (aI sh))), (a2, .inl (cI, 30, .inl (aI dy))), (a3, .inl (cI, 30, .inl (aI kd))), (a4, .inl (cL, 30, .inr (.inl (aL gr))))] s.heap.size = A at hD ⊢
  have hA : ∀ q : Nat, s.heap.size ≤ q → A q := fun q h => by rw [← hAe]; exact Or.inr h
  have hS : va_S A s.heap s.heap [] := va_S.rf
  have hP : va_P (dC, dI) vwCl [(xo, .inr (0, [.long sd, .ref up, .ref us, .ref uj, .ref ul, .ref uk, .ref ut, .ref uq, .ref uw, .ref uc])), (up, .inr (1, [.ref a1, .ref a2, .ref a3, .ref a4, .int (nI n)])), (a1, .inl (cI, 30, .inl (aI sh))), (a2, .inl (cI, 30, .inl (aI dy))), (a3, .inl (cI, 30, .inl (aI kd))), (a4, .inl (cL, 30, .inr (.inl (aL gr))))] s.heap := hP
  have hl := lv_entry ([.ref xo, .int x1, .int x2, .int x3, .long x4]) (n := 6) (Nat.le_of_ble_eq_true rfl)
  rw [lg_entry_eq]
  generalize (lg_sl ([.ref xo, .int x1, .int x2, .int x3, .long x4]) ++ List.replicate (6 - (lg_sl ([.ref xo, .int x1, .int x2, .int x3, .long x4])).length) Slot.unset).toArray = ls at hl ⊢
  have hl : lv_has ls 6 [(0, .ref xo), (1, .int x1), (2, .int x2), (3, .int x3), (4, .long x4)] := hl
  refine lv_aload_n hx hb d_B_page_0 rfl (lv_at hl 0 rfl) ?_
  refine va_get (D := (dC, dI)) (ci := 0) (v := .ref up) (C := R_B) (T := F_B) (N := 10) hx hb htg iw_B hown hK hP 0 rfl rfl 1 (by decide) (htg _ k1_158) (fun _ h9 => h9) rfl d_B_page_1 ?_
  refine lv_iload_n hx hb d_B_page_4 rfl (lv_at hl 1 rfl) ?_
  refine lv_iload_n hx hb d_B_page_5 rfl (lv_at hl 2 rfl) ?_
  refine lv_iload_n hx hb d_B_page_6 rfl (lv_at hl 3 rfl) ?_
  refine lv_lload hx hb d_B_page_7 (lv_at hl 4 rfl) ?_
  have hPc := hP.sub (ws' := [(up, .inr (1, [.ref a1, .ref a2, .ref a3, .ref a4, .int (nI n)])), (a1, .inl (cI, 30, .inl (aI sh))), (a2, .inl (cI, 30, .inl (aI dy))), (a3, .inl (cI, 30, .inl (aI kd))), (a4, .inl (cL, 30, .inr (.inl (aL gr))))]) [1, 2, 3, 4, 5] rfl
  have hDc := hD.sub (ws' := [(up, .inr (1, [.ref a1, .ref a2, .ref a3, .ref a4, .int (nI n)])), (a1, .inl (cI, 30, .inl (aI sh))), (a2, .inl (cI, 30, .inl (aI dy))), (a3, .inl (cI, 30, .inl (aI kd))), (a4, .inl (cL, 30, .inr (.inl (aL gr))))]) [1, 2, 3, 4, 5] (by decide) rfl
  have hFc := va_free (wc := [(up, .inr (1, [.ref a1, .ref a2, .ref a3, .ref a4, .int (nI n)])), (a1, .inl (cI, 30, .inl (aI sh))), (a2, .inl (cI, 30, .inl (aI dy))), (a3, .inl (cI, 30, .inl (aI kd))), (a4, .inl (cL, 30, .inr (.inl (aL gr))))]) hD hS hA [1, 2, 3, 4, 5] rfl
  refine va_calli (va_runV (As := [.int x1, .int x2, .int x3, .long x4]) (rest := []) ⟨hx, hb, hml, hown, htg⟩ (c_Bk_add l dC dI cI cL cZ s.heap.size up a1 a2 a3 a4 n sh dy kd gr x1 x2 x3 x4 (by omega)) (cwV 4 htg (gdV k1_192 k1_193 k1_194 k1_2 kc_Bk_add) rfl rfl rfl (by decide +kernel) ⟨Nat.le_of_ble_eq_true rfl, Nat.le_of_ble_eq_true rfl⟩) ⟨bk_blindW, va_recv hK hP (ci := 1) (q0 := 1) rfl rfl, fun U hU hW => ⟨rfl, nw_warm hW hN, by rw [hU], by rw [hU]; exact hPc, va_K.moved hW.alike hK, hDc.weaken (fun _ _ _ _ => trivial)⟩⟩ rfl rfl hl.1 rfl (lv_room (Nat.le_of_ble_eq_true rfl)) d_B_page_9 ⟨Nat.le_of_ble_eq_true rfl, Nat.le_of_ble_eq_true rfl⟩) hS (fun q _ h => hFc q h) hFc (fun r9 u t H1 locs ht hvm e9 hB hz1 hk1 hS => ?_)
  obtain ⟨hP1, hK1, hD1⟩ := hB
  rw [ht] at hP1
  try dsimp only at e9
  rcases e9 with ⟨ok9, rfl, rfl⟩ | ⟨no9, rfl, rfl⟩
  · obtain ⟨hP, hD⟩ := va_join (wr := [(xo, .inr (0, [.long sd, .ref up, .ref us, .ref uj, .ref ul, .ref uk, .ref ut, .ref uq, .ref uw, .ref uc]))]) (w1 := [(up, .inr (1, [.ref a1, .ref a2, .ref a3, .ref a4, .int (nI (n + 1))])), (a1, .inl (cI, 30, .inl (aI (va_up sh n (tn x1))))), (a2, .inl (cI, 30, .inl (aI (va_up dy n (tn x2))))), (a3, .inl (cI, 30, .inl (aI (va_up kd n (tn x3))))), (a4, .inl (cL, 30, .inr (.inl (aL (va_up gr n (tl x4))))))]) hP hD [1, 2, 3, 4, 5] [0] rfl rfl (by decide) (by decide) hk1 hFc hP1 hD1
    generalize H1 = H at hP hS ⊢
    have hP : va_P (dC, dI) vwCl [(xo, .inr (0, [.long sd, .ref up, .ref us, .ref uj, .ref ul, .ref uk, .ref ut, .ref uq, .ref uw, .ref uc])), (up, .inr (1, [.ref a1, .ref a2, .ref a3, .ref a4, .int (nI (n + 1))])), (a1, .inl (cI, 30, .inl (aI (va_up sh n (tn x1))))), (a2, .inl (cI, 30, .inl (aI (va_up dy n (tn x2))))), (a3, .inl (cI, 30, .inl (aI (va_up kd n (tn x3))))), (a4, .inl (cL, 30, .inr (.inl (aL (va_up gr n (tl x4))))))] H := hP.sub [0, 1, 2, 3, 4, 5] rfl
    have hD : va_D A [(xo, .inr (0, [.long sd, .ref up, .ref us, .ref uj, .ref ul, .ref uk, .ref ut, .ref uq, .ref uw, .ref uc])), (up, .inr (1, [.ref a1, .ref a2, .ref a3, .ref a4, .int (nI (n + 1))])), (a1, .inl (cI, 30, .inl (aI (va_up sh n (tn x1))))), (a2, .inl (cI, 30, .inl (aI (va_up dy n (tn x2))))), (a3, .inl (cI, 30, .inl (aI (va_up kd n (tn x3))))), (a4, .inl (cL, 30, .inr (.inl (aL (va_up gr n (tl x4))))))] := hD.sub [0, 1, 2, 3, 4, 5] (by decide) rfl
    have hP9 := hP.sub (ws' := [(xo, .inr (0, [.long sd, .ref up, .ref us, .ref uj, .ref ul, .ref uk, .ref ut, .ref uq, .ref uw, .ref uc])), (up, .inr (1, [.ref a1, .ref a2, .ref a3, .ref a4, .int (nI (n + 1))])), (a1, .inl (cI, 30, .inl (aI (va_up sh n (tn x1))))), (a2, .inl (cI, 30, .inl (aI (va_up dy n (tn x2))))), (a3, .inl (cI, 30, .inl (aI (va_up kd n (tn x3))))), (a4, .inl (cL, 30, .inr (.inl (aL (va_up gr n (tl x4))))))]) [0, 1, 2, 3, 4, 5] rfl
    have hD9 := hD.sub (ws' := [(xo, .inr (0, [.long sd, .ref up, .ref us, .ref uj, .ref ul, .ref uk, .ref ut, .ref uq, .ref uw, .ref uc])), (up, .inr (1, [.ref a1, .ref a2, .ref a3, .ref a4, .int (nI (n + 1))])), (a1, .inl (cI, 30, .inl (aI (va_up sh n (tn x1))))), (a2, .inl (cI, 30, .inl (aI (va_up dy n (tn x2))))), (a3, .inl (cI, 30, .inl (aI (va_up kd n (tn x3))))), (a4, .inl (cL, 30, .inr (.inl (aL (va_up gr n (tl x4))))))]) [0, 1, 2, 3, 4, 5] (by decide) rfl
    exact W.iret (v := nI n) hx hb hr (fun t9 ht9 hW9 => ⟨⟨nI n, (n + 1, va_up sh n (tn x1), va_up dy n (tn x2), va_up kd n (tn x3), va_up gr n (tl x4)), rfl, Or.inl ⟨ok9, rfl, rfl⟩, by rw [ht9]; exact hP9, va_K.moved hW9.alike hK, hD9⟩, hS.F ht9⟩) hS.2.2 d_B_page_12
  · obtain ⟨hP, hD⟩ := va_join (wr := [(xo, .inr (0, [.long sd, .ref up, .ref us, .ref uj, .ref ul, .ref uk, .ref ut, .ref uq, .ref uw, .ref uc]))]) (w1 := [(up, .inr (1, [.ref a1, .ref a2, .ref a3, .ref a4, .int (nI n)])), (a1, .inl (cI, 30, .inl (aI sh))), (a2, .inl (cI, 30, .inl (aI dy))), (a3, .inl (cI, 30, .inl (aI kd))), (a4, .inl (cL, 30, .inr (.inl (aL gr))))]) hP hD [1, 2, 3, 4, 5] [0] rfl rfl (by decide) (by decide) hk1 hFc hP1 hD1
    generalize H1 = H at hP hS ⊢
    have hP : va_P (dC, dI) vwCl [(xo, .inr (0, [.long sd, .ref up, .ref us, .ref uj, .ref ul, .ref uk, .ref ut, .ref uq, .ref uw, .ref uc])), (up, .inr (1, [.ref a1, .ref a2, .ref a3, .ref a4, .int (nI n)])), (a1, .inl (cI, 30, .inl (aI sh))), (a2, .inl (cI, 30, .inl (aI dy))), (a3, .inl (cI, 30, .inl (aI kd))), (a4, .inl (cL, 30, .inr (.inl (aL gr))))] H := hP.sub [0, 1, 2, 3, 4, 5] rfl
    have hD : va_D A [(xo, .inr (0, [.long sd, .ref up, .ref us, .ref uj, .ref ul, .ref uk, .ref ut, .ref uq, .ref uw, .ref uc])), (up, .inr (1, [.ref a1, .ref a2, .ref a3, .ref a4, .int (nI n)])), (a1, .inl (cI, 30, .inl (aI sh))), (a2, .inl (cI, 30, .inl (aI dy))), (a3, .inl (cI, 30, .inl (aI kd))), (a4, .inl (cL, 30, .inr (.inl (aL gr))))] := hD.sub [0, 1, 2, 3, 4, 5] (by decide) rfl
    have hP9 := hP.sub (ws' := [(xo, .inr (0, [.long sd, .ref up, .ref us, .ref uj, .ref ul, .ref uk, .ref ut, .ref uq, .ref uw, .ref uc])), (up, .inr (1, [.ref a1, .ref a2, .ref a3, .ref a4, .int (nI n)])), (a1, .inl (cI, 30, .inl (aI sh))), (a2, .inl (cI, 30, .inl (aI dy))), (a3, .inl (cI, 30, .inl (aI kd))), (a4, .inl (cL, 30, .inr (.inl (aL gr))))]) [0, 1, 2, 3, 4, 5] rfl
    have hD9 := hD.sub (ws' := [(xo, .inr (0, [.long sd, .ref up, .ref us, .ref uj, .ref ul, .ref uk, .ref ut, .ref uq, .ref uw, .ref uc])), (up, .inr (1, [.ref a1, .ref a2, .ref a3, .ref a4, .int (nI n)])), (a1, .inl (cI, 30, .inl (aI sh))), (a2, .inl (cI, 30, .inl (aI dy))), (a3, .inl (cI, 30, .inl (aI kd))), (a4, .inl (cL, 30, .inr (.inl (aL gr))))]) [0, 1, 2, 3, 4, 5] (by decide) rfl
    exact W.iret (v := oI none) hx hb hr (fun t9 ht9 hW9 => ⟨⟨oI none, (n, sh, dy, kd, gr), rfl, Or.inr ⟨no9, rfl, rfl⟩, by rw [ht9]; exact hP9, va_K.moved hW9.alike hK, hD9⟩, hS.F ht9⟩) hS.2.2 d_B_page_12
set_option maxHeartbeats 4000000 in
set_option maxRecDepth 100000 in
theorem c_B_sale (l : Launch) (dC : Nat → ClassId) (dI : Nat → Nat → Nat) (cI cL cZ : ClassId) (sz : Nat) (xo up us uj ul uk ut uq uw uc : Nat) (sd : Int64) (a1 a2 a3 a4 n : Nat) (sh dy kd gr : Nat → Nat) (x1 x2 x3 : Int32) (x4 : Int64) (hn : n ≤ 30) : Met l y_B_sale ws_B_sale { frames := 2, cells := 0, slots := 0, locals := 47 } (va_Pc [.ref xo, .int x1, .int x2, .int x3, .long x4] (wrP (dC, dI) vwCl [(cI, .int), (cL, .long), (cZ, .boolean)] [(xo, .inr (0, [.long sd, .ref up, .ref us, .ref uj, .ref ul, .ref uk, .ref ut, .ref uq, .ref uw, .ref uc])), (us, .inr (1, [.ref a1, .ref a2, .ref a3, .ref a4, .int (nI n)])), (a1, .inl (cI, 30, .inl (aI sh))), (a2, .inl (cI, 30, .inl (aI dy))), (a3, .inl (cI, 30, .inl (aI kd))), (a4, .inl (cL, 30, .inr (.inl (aL gr))))] sz)) (va_Qi (fun (r : Int32) (u : Nat × (Nat → Nat) × (Nat → Nat) × (Nat → Nat) × (Nat → Nat)) => (addOk n x1 x2 x3 x4 ∧ r = nI n ∧ u = (n + 1, va_up sh n (tn x1), va_up dy n (tn x2), va_up kd n (tn x3), va_up gr n (tl x4))) ∨ (¬ addOk n x1 x2 x3 x4 ∧ r = oI none ∧ u = (n, sh, dy, kd, gr))) (fun (u : Nat × (Nat → Nat) × (Nat → Nat) × (Nat → Nat) × (Nat → Nat)) => wrQ (dC, dI) vwCl [(cI, .int), (cL, .long), (cZ, .boolean)] (va_A [(xo, .inr (0, [.long sd, .ref up, .ref us, .ref uj, .ref ul, .ref uk, .ref ut, .ref uq, .ref uw, .ref uc])), (us, .inr (1, [.ref a1, .ref a2, .ref a3, .ref a4, .int (nI n)])), (a1, .inl (cI, 30, .inl (aI sh))), (a2, .inl (cI, 30, .inl (aI dy))), (a3, .inl (cI, 30, .inl (aI kd))), (a4, .inl (cL, 30, .inr (.inl (aL gr))))] sz) [(xo, .inr (0, [.long sd, .ref up, .ref us, .ref uj, .ref ul, .ref uk, .ref ut, .ref uq, .ref uw, .ref uc])), (us, .inr (1, [.ref a1, .ref a2, .ref a3, .ref a4, .int (nI u.1)])), (a1, .inl (cI, 30, .inl (aI u.2.1))), (a2, .inl (cI, 30, .inl (aI u.2.2.1))), (a3, .inl (cI, 30, .inl (aI u.2.2.2.1))), (a4, .inl (cL, 30, .inr (.inl (aL u.2.2.2.2))))]) (va_A [(xo, .inr (0, [.long sd, .ref up, .ref us, .ref uj, .ref ul, .ref uk, .ref ut, .ref uq, .ref uw, .ref uc])), (us, .inr (1, [.ref a1, .ref a2, .ref a3, .ref a4, .int (nI n)])), (a1, .inl (cI, 30, .inl (aI sh))), (a2, .inl (cI, 30, .inl (aI dy))), (a3, .inl (cI, 30, .inl (aI kd))), (a4, .inl (cL, 30, .inr (.inl (aL gr))))] sz)) 0 0 (va_A [(xo, .inr (0, [.long sd, .ref up, .ref us, .ref uj, .ref ul, .ref uk, .ref ut, .ref uq, .ref uw, .ref uc])), (us, .inr (1, [.ref a1, .ref a2, .ref a3, .ref a4, .int (nI n)])), (a1, .inl (cI, 30, .inl (aI sh))), (a2, .inl (cI, 30, .inl (aI dy))), (a3, .inl (cI, 30, .inl (aI kd))), (a4, .inl (cL, 30, .inr (.inl (aL gr))))] sz) := by
  refine Met.ofW (cc := b_B_sale) (maxL := 6) (ret := (some .int)) (by decide) rfl ?_
  intro pr en s m args below meth c s₁ B hml hv
  obtain ⟨rfl, hN, hsz, hP, hK, hD0⟩ := hv
  have hx := B.exec
  have hb := B.bytes
  have hr := B.returns
  have hts := atoms_spec (ws := ws_B_sale) B.pre
  have htg : ∀ w ∈ gW, w.before _ s = true := fun w h => hts w (List.mem_cons_of_mem _ h)
  have hown : s.vm.findClass R_B = some m.cls := findClass_of_methodNamed B.named
  have hlocks := B.notSynchronized
  subst hsz
  have hD := hD0.self (sz := s.heap.size)
  generalize hAe : va_A [(xo, .inr (0, [.long sd, .ref up, .ref us, .ref uj, .ref ul, .ref uk, .ref ut, .ref uq, .ref uw, .ref uc])), (us, .inr (1, [.ref a1, .ref a2, .ref a3, .ref a4, .int (nI n)])), (a1, .inl (cI, 30, .inl (aI sh))), (a2, .inl (cI, 30, .inl (aI dy))), (a3, .inl (cI, 30, .inl (aI kd))), (a4, .inl (cL, 30, .inr (.inl (aL gr))))] s.heap.size = A at hD ⊢
  have hA : ∀ q : Nat, s.heap.size ≤ q → A q := fun q h => by rw [← hAe]; exact Or.inr h
  have hS : va_S A s.heap s.heap [] := va_S.rf
  have hP : va_P (dC, dI) vwCl [(xo, .inr (0, [.long sd, .ref up, .ref us, .ref uj, .ref ul, .ref uk, .ref ut, .ref uq, .ref uw, .ref uc])), (us, .inr (1, [.ref a1, .ref a2, .ref a3, .ref a4, .int (nI n)])), (a1, .inl (cI, 30, .inl (aI sh))), (a2, .inl (cI, 30, .inl (aI dy))), (a3, .inl (cI, 30, .inl (aI kd))), (a4, .inl (cL, 30, .inr (.inl (aL gr))))] s.heap := hP
  have hl := lv_entry ([.ref xo, .int x1, .int x2, .int x3, .long x4]) (n := 6) (Nat.le_of_ble_eq_true rfl)
  rw [lg_entry_eq]
  generalize (lg_sl ([.ref xo, .int x1, .int x2, .int x3, .long x4]) ++ List.replicate (6 - (lg_sl ([.ref xo, .int x1, .int x2, .int x3, .long x4])).length) Slot.unset).toArray = ls at hl ⊢
  have hl : lv_has ls 6 [(0, .ref xo), (1, .int x1), (2, .int x2), (3, .int x3), (4, .long x4)] := hl
  refine lv_aload_n hx hb d_B_sale_0 rfl (lv_at hl 0 rfl) ?_
  refine va_get (D := (dC, dI)) (ci := 0) (v := .ref us) (C := R_B) (T := F_B) (N := 10) hx hb htg iw_B hown hK hP 0 rfl rfl 2 (by decide) (htg _ k1_159) (fun _ h9 => h9) rfl d_B_sale_1 ?_
  refine lv_iload_n hx hb d_B_sale_4 rfl (lv_at hl 1 rfl) ?_
  refine lv_iload_n hx hb d_B_sale_5 rfl (lv_at hl 2 rfl) ?_
  refine lv_iload_n hx hb d_B_sale_6 rfl (lv_at hl 3 rfl) ?_
  refine lv_lload hx hb d_B_sale_7 (lv_at hl 4 rfl) ?_
  have hPc := hP.sub (ws' := [(us, .inr (1, [.ref a1, .ref a2, .ref a3, .ref a4, .int (nI n)])), (a1, .inl (cI, 30, .inl (aI sh))), (a2, .inl (cI, 30, .inl (aI dy))), (a3, .inl (cI, 30, .inl (aI kd))), (a4, .inl (cL, 30, .inr (.inl (aL gr))))]) [1, 2, 3, 4, 5] rfl
  have hDc := hD.sub (ws' := [(us, .inr (1, [.ref a1, .ref a2, .ref a3, .ref a4, .int (nI n)])), (a1, .inl (cI, 30, .inl (aI sh))), (a2, .inl (cI, 30, .inl (aI dy))), (a3, .inl (cI, 30, .inl (aI kd))), (a4, .inl (cL, 30, .inr (.inl (aL gr))))]) [1, 2, 3, 4, 5] (by decide) rfl
  have hFc := va_free (wc := [(us, .inr (1, [.ref a1, .ref a2, .ref a3, .ref a4, .int (nI n)])), (a1, .inl (cI, 30, .inl (aI sh))), (a2, .inl (cI, 30, .inl (aI dy))), (a3, .inl (cI, 30, .inl (aI kd))), (a4, .inl (cL, 30, .inr (.inl (aL gr))))]) hD hS hA [1, 2, 3, 4, 5] rfl
  refine va_calli (va_runV (As := [.int x1, .int x2, .int x3, .long x4]) (rest := []) ⟨hx, hb, hml, hown, htg⟩ (c_Bk_add l dC dI cI cL cZ s.heap.size us a1 a2 a3 a4 n sh dy kd gr x1 x2 x3 x4 (by omega)) (cwV 4 htg (gdV k1_192 k1_193 k1_194 k1_2 kc_Bk_add) rfl rfl rfl (by decide +kernel) ⟨Nat.le_of_ble_eq_true rfl, Nat.le_of_ble_eq_true rfl⟩) ⟨bk_blindW, va_recv hK hP (ci := 1) (q0 := 1) rfl rfl, fun U hU hW => ⟨rfl, nw_warm hW hN, by rw [hU], by rw [hU]; exact hPc, va_K.moved hW.alike hK, hDc.weaken (fun _ _ _ _ => trivial)⟩⟩ rfl rfl hl.1 rfl (lv_room (Nat.le_of_ble_eq_true rfl)) d_B_sale_9 ⟨Nat.le_of_ble_eq_true rfl, Nat.le_of_ble_eq_true rfl⟩) hS (fun q _ h => hFc q h) hFc (fun r9 u t H1 locs ht hvm e9 hB hz1 hk1 hS => ?_)
  obtain ⟨hP1, hK1, hD1⟩ := hB
  rw [ht] at hP1
  try dsimp only at e9
  rcases e9 with ⟨ok9, rfl, rfl⟩ | ⟨no9, rfl, rfl⟩
  · obtain ⟨hP, hD⟩ := va_join (wr := [(xo, .inr (0, [.long sd, .ref up, .ref us, .ref uj, .ref ul, .ref uk, .ref ut, .ref uq, .ref uw, .ref uc]))]) (w1 := [(us, .inr (1, [.ref a1, .ref a2, .ref a3, .ref a4, .int (nI (n + 1))])), (a1, .inl (cI, 30, .inl (aI (va_up sh n (tn x1))))), (a2, .inl (cI, 30, .inl (aI (va_up dy n (tn x2))))), (a3, .inl (cI, 30, .inl (aI (va_up kd n (tn x3))))), (a4, .inl (cL, 30, .inr (.inl (aL (va_up gr n (tl x4))))))]) hP hD [1, 2, 3, 4, 5] [0] rfl rfl (by decide) (by decide) hk1 hFc hP1 hD1
    generalize H1 = H at hP hS ⊢
    have hP : va_P (dC, dI) vwCl [(xo, .inr (0, [.long sd, .ref up, .ref us, .ref uj, .ref ul, .ref uk, .ref ut, .ref uq, .ref uw, .ref uc])), (us, .inr (1, [.ref a1, .ref a2, .ref a3, .ref a4, .int (nI (n + 1))])), (a1, .inl (cI, 30, .inl (aI (va_up sh n (tn x1))))), (a2, .inl (cI, 30, .inl (aI (va_up dy n (tn x2))))), (a3, .inl (cI, 30, .inl (aI (va_up kd n (tn x3))))), (a4, .inl (cL, 30, .inr (.inl (aL (va_up gr n (tl x4))))))] H := hP.sub [0, 1, 2, 3, 4, 5] rfl
    have hD : va_D A [(xo, .inr (0, [.long sd, .ref up, .ref us, .ref uj, .ref ul, .ref uk, .ref ut, .ref uq, .ref uw, .ref uc])), (us, .inr (1, [.ref a1, .ref a2, .ref a3, .ref a4, .int (nI (n + 1))])), (a1, .inl (cI, 30, .inl (aI (va_up sh n (tn x1))))), (a2, .inl (cI, 30, .inl (aI (va_up dy n (tn x2))))), (a3, .inl (cI, 30, .inl (aI (va_up kd n (tn x3))))), (a4, .inl (cL, 30, .inr (.inl (aL (va_up gr n (tl x4))))))] := hD.sub [0, 1, 2, 3, 4, 5] (by decide) rfl
    have hP9 := hP.sub (ws' := [(xo, .inr (0, [.long sd, .ref up, .ref us, .ref uj, .ref ul, .ref uk, .ref ut, .ref uq, .ref uw, .ref uc])), (us, .inr (1, [.ref a1, .ref a2, .ref a3, .ref a4, .int (nI (n + 1))])), (a1, .inl (cI, 30, .inl (aI (va_up sh n (tn x1))))), (a2, .inl (cI, 30, .inl (aI (va_up dy n (tn x2))))), (a3, .inl (cI, 30, .inl (aI (va_up kd n (tn x3))))), (a4, .inl (cL, 30, .inr (.inl (aL (va_up gr n (tl x4))))))]) [0, 1, 2, 3, 4, 5] rfl
    have hD9 := hD.sub (ws' := [(xo, .inr (0, [.long sd, .ref up, .ref us, .ref uj, .ref ul, .ref uk, .ref ut, .ref uq, .ref uw, .ref uc])), (us, .inr (1, [.ref a1, .ref a2, .ref a3, .ref a4, .int (nI (n + 1))])), (a1, .inl (cI, 30, .inl (aI (va_up sh n (tn x1))))), (a2, .inl (cI, 30, .inl (aI (va_up dy n (tn x2))))), (a3, .inl (cI, 30, .inl (aI (va_up kd n (tn x3))))), (a4, .inl (cL, 30, .inr (.inl (aL (va_up gr n (tl x4))))))]) [0, 1, 2, 3, 4, 5] (by decide) rfl
    exact W.iret (v := nI n) hx hb hr (fun t9 ht9 hW9 => ⟨⟨nI n, (n + 1, va_up sh n (tn x1), va_up dy n (tn x2), va_up kd n (tn x3), va_up gr n (tl x4)), rfl, Or.inl ⟨ok9, rfl, rfl⟩, by rw [ht9]; exact hP9, va_K.moved hW9.alike hK, hD9⟩, hS.F ht9⟩) hS.2.2 d_B_sale_12
  · obtain ⟨hP, hD⟩ := va_join (wr := [(xo, .inr (0, [.long sd, .ref up, .ref us, .ref uj, .ref ul, .ref uk, .ref ut, .ref uq, .ref uw, .ref uc]))]) (w1 := [(us, .inr (1, [.ref a1, .ref a2, .ref a3, .ref a4, .int (nI n)])), (a1, .inl (cI, 30, .inl (aI sh))), (a2, .inl (cI, 30, .inl (aI dy))), (a3, .inl (cI, 30, .inl (aI kd))), (a4, .inl (cL, 30, .inr (.inl (aL gr))))]) hP hD [1, 2, 3, 4, 5] [0] rfl rfl (by decide) (by decide) hk1 hFc hP1 hD1
    generalize H1 = H at hP hS ⊢
    have hP : va_P (dC, dI) vwCl [(xo, .inr (0, [.long sd, .ref up, .ref us, .ref uj, .ref ul, .ref uk, .ref ut, .ref uq, .ref uw, .ref uc])), (us, .inr (1, [.ref a1, .ref a2, .ref a3, .ref a4, .int (nI n)])), (a1, .inl (cI, 30, .inl (aI sh))), (a2, .inl (cI, 30, .inl (aI dy))), (a3, .inl (cI, 30, .inl (aI kd))), (a4, .inl (cL, 30, .inr (.inl (aL gr))))] H := hP.sub [0, 1, 2, 3, 4, 5] rfl
    have hD : va_D A [(xo, .inr (0, [.long sd, .ref up, .ref us, .ref uj, .ref ul, .ref uk, .ref ut, .ref uq, .ref uw, .ref uc])), (us, .inr (1, [.ref a1, .ref a2, .ref a3, .ref a4, .int (nI n)])), (a1, .inl (cI, 30, .inl (aI sh))), (a2, .inl (cI, 30, .inl (aI dy))), (a3, .inl (cI, 30, .inl (aI kd))), (a4, .inl (cL, 30, .inr (.inl (aL gr))))] := hD.sub [0, 1, 2, 3, 4, 5] (by decide) rfl
    have hP9 := hP.sub (ws' := [(xo, .inr (0, [.long sd, .ref up, .ref us, .ref uj, .ref ul, .ref uk, .ref ut, .ref uq, .ref uw, .ref uc])), (us, .inr (1, [.ref a1, .ref a2, .ref a3, .ref a4, .int (nI n)])), (a1, .inl (cI, 30, .inl (aI sh))), (a2, .inl (cI, 30, .inl (aI dy))), (a3, .inl (cI, 30, .inl (aI kd))), (a4, .inl (cL, 30, .inr (.inl (aL gr))))]) [0, 1, 2, 3, 4, 5] rfl
    have hD9 := hD.sub (ws' := [(xo, .inr (0, [.long sd, .ref up, .ref us, .ref uj, .ref ul, .ref uk, .ref ut, .ref uq, .ref uw, .ref uc])), (us, .inr (1, [.ref a1, .ref a2, .ref a3, .ref a4, .int (nI n)])), (a1, .inl (cI, 30, .inl (aI sh))), (a2, .inl (cI, 30, .inl (aI dy))), (a3, .inl (cI, 30, .inl (aI kd))), (a4, .inl (cL, 30, .inr (.inl (aL gr))))]) [0, 1, 2, 3, 4, 5] (by decide) rfl
    exact W.iret (v := oI none) hx hb hr (fun t9 ht9 hW9 => ⟨⟨oI none, (n, sh, dy, kd, gr), rfl, Or.inr ⟨no9, rfl, rfl⟩, by rw [ht9]; exact hP9, va_K.moved hW9.alike hK, hD9⟩, hS.F ht9⟩) hS.2.2 d_B_sale_12
set_option maxHeartbeats 4000000 in
set_option maxRecDepth 100000 in
theorem c_B_run (l : Launch) (dC : Nat → ClassId) (dI : Nat → Nat → Nat) (cI cL cZ : ClassId) (sz : Nat) (xo up us uj ul uk ut uq uw uc : Nat) (sd : Int64) (a1 a2 : Nat) (sp ps : Nat → Option Nat) (b1 b2 b3 b4 n : Nat) (sh dy kd gr : Nat → Nat) (s1 s2 s3 s4 n2 : Nat) (sh2 dy2 kd2 gr2 : Nat → Nat) (hi : bkI n sh dy kd gr) (hi2 : bkI n2 sh2 dy2 kd2 gr2) : Met l y_B_run ws_B_run { frames := 5, cells := 0, slots := 0, locals := 126 } (va_Pc [.ref xo] (wrP (dC, dI) vwCl [(cI, .int), (cL, .long), (cZ, .boolean)] [(xo, .inr (0, [.long sd, .ref up, .ref us, .ref uj, .ref ul, .ref uk, .ref ut, .ref uq, .ref uw, .ref uc])), (uj, .inr (2, [.ref a1, .ref a2])), (a1, .inl (cI, 30, .inl (aO sp))), (a2, .inl (cI, 30, .inl (aO ps))), (up, .inr (1, [.ref b1, .ref b2, .ref b3, .ref b4, .int (nI n)])), (b1, .inl (cI, 30, .inl (aI sh))), (b2, .inl (cI, 30, .inl (aI dy))), (b3, .inl (cI, 30, .inl (aI kd))), (b4, .inl (cL, 30, .inr (.inl (aL gr)))), (us, .inr (1, [.ref s1, .ref s2, .ref s3, .ref s4, .int (nI n2)])), (s1, .inl (cI, 30, .inl (aI sh2))), (s2, .inl (cI, 30, .inl (aI dy2))), (s3, .inl (cI, 30, .inl (aI kd2))), (s4, .inl (cL, 30, .inr (.inl (aL gr2))))] sz)) (va_Qi (fun (r : Int32) (u : (Nat → Option Nat) × (Nat → Option Nat)) => ∃ i, r = nI i ∧ i ≤ 30 ∧ isRun (ptOf sh dy kd gr sh2 dy2 kd2 gr2) n n2 i ∧ u.1 = (JS (ptOf sh dy kd gr sh2 dy2 kd2 gr2) n n2 i).1 ∧ ∀ p k, u.1 p = some k → p < n ∧ k < n2) (fun (u : (Nat → Option Nat) × (Nat → Option Nat)) => wrQ (dC, dI) vwCl [(cI, .int), (cL, .long), (cZ, .boolean)] (va_A [(xo, .inr (0, [.long sd, .ref up, .ref us, .ref uj, .ref ul, .ref uk, .ref ut, .ref uq, .ref uw, .ref uc])), (uj, .inr (2, [.ref a1, .ref a2])), (a1, .inl (cI, 30, .inl (aO sp))), (a2, .inl (cI, 30, .inl (aO ps))), (up, .inr (1, [.ref b1, .ref b2, .ref b3, .ref b4, .int (nI n)])), (b1, .inl (cI, 30, .inl (aI sh))), (b2, .inl (cI, 30, .inl (aI dy))), (b3, .inl (cI, 30, .inl (aI kd))), (b4, .inl (cL, 30, .inr (.inl (aL gr)))), (us, .inr (1, [.ref s1, .ref s2, .ref s3, .ref s4, .int (nI n2)])), (s1, .inl (cI, 30, .inl (aI sh2))), (s2, .inl (cI, 30, .inl (aI dy2))), (s3, .inl (cI, 30, .inl (aI kd2))), (s4, .inl (cL, 30, .inr (.inl (aL gr2))))] sz) [(xo, .inr (0, [.long sd, .ref up, .ref us, .ref uj, .ref ul, .ref uk, .ref ut, .ref uq, .ref uw, .ref uc])), (uj, .inr (2, [.ref a1, .ref a2])), (a1, .inl (cI, 30, .inl (aO u.1))), (a2, .inl (cI, 30, .inl (aO u.2))), (up, .inr (1, [.ref b1, .ref b2, .ref b3, .ref b4, .int (nI n)])), (b1, .inl (cI, 30, .inl (aI sh))), (b2, .inl (cI, 30, .inl (aI dy))), (b3, .inl (cI, 30, .inl (aI kd))), (b4, .inl (cL, 30, .inr (.inl (aL gr)))), (us, .inr (1, [.ref s1, .ref s2, .ref s3, .ref s4, .int (nI n2)])), (s1, .inl (cI, 30, .inl (aI sh2))), (s2, .inl (cI, 30, .inl (aI dy2))), (s3, .inl (cI, 30, .inl (aI kd2))), (s4, .inl (cL, 30, .inr (.inl (aL gr2))))]) (va_A [(xo, .inr (0, [.long sd, .ref up, .ref us, .ref uj, .ref ul, .ref uk, .ref ut, .ref uq, .ref uw, .ref uc])), (uj, .inr (2, [.ref a1, .ref a2])), (a1, .inl (cI, 30, .inl (aO sp))), (a2, .inl (cI, 30, .inl (aO ps))), (up, .inr (1, [.ref b1, .ref b2, .ref b3, .ref b4, .int (nI n)])), (b1, .inl (cI, 30, .inl (aI sh))), (b2, .inl (cI, 30, .inl (aI dy))), (b3, .inl (cI, 30, .inl (aI kd))), (b4, .inl (cL, 30, .inr (.inl (aL gr)))), (us, .inr (1, [.ref s1, .ref s2, .ref s3, .ref s4, .int (nI n2)])), (s1, .inl (cI, 30, .inl (aI sh2))), (s2, .inl (cI, 30, .inl (aI dy2))), (s3, .inl (cI, 30, .inl (aI kd2))), (s4, .inl (cL, 30, .inr (.inl (aL gr2))))] sz)) 0 0 (va_A [(xo, .inr (0, [.long sd, .ref up, .ref us, .ref uj, .ref ul, .ref uk, .ref ut, .ref uq, .ref uw, .ref uc])), (uj, .inr (2, [.ref a1, .ref a2])), (a1, .inl (cI, 30, .inl (aO sp))), (a2, .inl (cI, 30, .inl (aO ps))), (up, .inr (1, [.ref b1, .ref b2, .ref b3, .ref b4, .int (nI n)])), (b1, .inl (cI, 30, .inl (aI sh))), (b2, .inl (cI, 30, .inl (aI dy))), (b3, .inl (cI, 30, .inl (aI kd))), (b4, .inl (cL, 30, .inr (.inl (aL gr)))), (us, .inr (1, [.ref s1, .ref s2, .ref s3, .ref s4, .int (nI n2)])), (s1, .inl (cI, 30, .inl (aI sh2))), (s2, .inl (cI, 30, .inl (aI dy2))), (s3, .inl (cI, 30, .inl (aI kd2))), (s4, .inl (cL, 30, .inr (.inl (aL gr2))))] sz) := by
  refine Met.ofW (cc := b_B_run) (maxL := 1) (ret := (some .int)) (by decide) rfl ?_
  intro pr en s m args below meth c s₁ B hml hv
  obtain ⟨rfl, hN, hsz, hP, hK, hD0⟩ := hv
  have hx := B.exec
  have hb := B.bytes
  have hr := B.returns
  have hts := atoms_spec (ws := ws_B_run) B.pre
  have htg : ∀ w ∈ gW, w.before _ s = true := fun w h => hts w (List.mem_cons_of_mem _ h)
  have hown : s.vm.findClass R_B = some m.cls := findClass_of_methodNamed B.named
  have hlocks := B.notSynchronized
  subst hsz
  have hD := hD0.self (sz := s.heap.size)
  generalize hAe : va_A [(xo, .inr (0, [.long sd, .ref up, .ref us, .ref uj, .ref ul, .ref uk, .ref ut, .ref uq, .ref uw, .ref uc])), (uj, .inr (2, [.ref a1, .ref a2])), (a1, .inl (cI, 30, .inl (aO sp))), (a2, .inl (cI, 30, .inl (aO ps))), (up, .inr (1, [.ref b1, .ref b2, .ref b3, .ref b4, .int (nI n)])), (b1, .inl (cI, 30, .inl (aI sh))), (b2, .inl (cI, 30, .inl (aI dy))), (b3, .inl (cI, 30, .inl (aI kd))), (b4, .inl (cL, 30, .inr (.inl (aL gr)))), (us, .inr (1, [.ref s1, .ref s2, .ref s3, .ref s4, .int (nI n2)])), (s1, .inl (cI, 30, .inl (aI sh2))), (s2, .inl (cI, 30, .inl (aI dy2))), (s3, .inl (cI, 30, .inl (aI kd2))), (s4, .inl (cL, 30, .inr (.inl (aL gr2))))] s.heap.size = A at hD ⊢
  have hA : ∀ q : Nat, s.heap.size ≤ q → A q := fun q h => by rw [← hAe]; exact Or.inr h
  have hS : va_S A s.heap s.heap [] := va_S.rf
  have hP : va_P (dC, dI) vwCl [(xo, .inr (0, [.long sd, .ref up, .ref us, .ref uj, .ref ul, .ref uk, .ref ut, .ref uq, .ref uw, .ref uc])), (uj, .inr (2, [.ref a1, .ref a2])), (a1, .inl (cI, 30, .inl (aO sp))), (a2, .inl (cI, 30, .inl (aO ps))), (up, .inr (1, [.ref b1, .ref b2, .ref b3, .ref b4, .int (nI n)])), (b1, .inl (cI, 30, .inl (aI sh))), (b2, .inl (cI, 30, .inl (aI dy))), (b3, .inl (cI, 30, .inl (aI kd))), (b4, .inl (cL, 30, .inr (.inl (aL gr)))), (us, .inr (1, [.ref s1, .ref s2, .ref s3, .ref s4, .int (nI n2)])), (s1, .inl (cI, 30, .inl (aI sh2))), (s2, .inl (cI, 30, .inl (aI dy2))), (s3, .inl (cI, 30, .inl (aI kd2))), (s4, .inl (cL, 30, .inr (.inl (aL gr2))))] s.heap := hP
  have hl := lv_entry ([.ref xo]) (n := 1) (Nat.le_of_ble_eq_true rfl)
  rw [lg_entry_eq]
  generalize (lg_sl ([.ref xo]) ++ List.replicate (1 - (lg_sl ([.ref xo])).length) Slot.unset).toArray = ls at hl ⊢
  have hl : lv_has ls 1 [(0, .ref xo)] := hl
  refine lv_aload_n hx hb d_B_run_0 rfl (lv_at hl 0 rfl) ?_
  refine va_get (D := (dC, dI)) (ci := 0) (v := .ref uj) (C := R_B) (T := F_B) (N := 10) hx hb htg iw_B hown hK hP 0 rfl rfl 3 (by decide) (htg _ k1_160) (fun _ h9 => h9) rfl d_B_run_1 ?_
  refine lv_aload_n hx hb d_B_run_4 rfl (lv_at hl 0 rfl) ?_
  refine va_get (D := (dC, dI)) (ci := 0) (v := .ref up) (C := R_B) (T := F_B) (N := 10) hx hb htg iw_B hown hK hP 0 rfl rfl 1 (by decide) (htg _ k1_158) (fun _ h9 => h9) rfl d_B_run_5 ?_
  refine lv_aload_n hx hb d_B_run_8 rfl (lv_at hl 0 rfl) ?_
  refine va_get (D := (dC, dI)) (ci := 0) (v := .ref us) (C := R_B) (T := F_B) (N := 10) hx hb htg iw_B hown hK hP 0 rfl rfl 2 (by decide) (htg _ k1_159) (fun _ h9 => h9) rfl d_B_run_9 ?_
  have hPc := hP.sub (ws' := [(uj, .inr (2, [.ref a1, .ref a2])), (a1, .inl (cI, 30, .inl (aO sp))), (a2, .inl (cI, 30, .inl (aO ps))), (up, .inr (1, [.ref b1, .ref b2, .ref b3, .ref b4, .int (nI n)])), (b1, .inl (cI, 30, .inl (aI sh))), (b2, .inl (cI, 30, .inl (aI dy))), (b3, .inl (cI, 30, .inl (aI kd))), (b4, .inl (cL, 30, .inr (.inl (aL gr)))), (us, .inr (1, [.ref s1, .ref s2, .ref s3, .ref s4, .int (nI n2)])), (s1, .inl (cI, 30, .inl (aI sh2))), (s2, .inl (cI, 30, .inl (aI dy2))), (s3, .inl (cI, 30, .inl (aI kd2))), (s4, .inl (cL, 30, .inr (.inl (aL gr2))))]) [1, 2, 3, 4, 5, 6, 7, 8, 9, 10, 11, 12, 13] rfl
  have hDc := hD.sub (ws' := [(uj, .inr (2, [.ref a1, .ref a2])), (a1, .inl (cI, 30, .inl (aO sp))), (a2, .inl (cI, 30, .inl (aO ps))), (up, .inr (1, [.ref b1, .ref b2, .ref b3, .ref b4, .int (nI n)])), (b1, .inl (cI, 30, .inl (aI sh))), (b2, .inl (cI, 30, .inl (aI dy))), (b3, .inl (cI, 30, .inl (aI kd))), (b4, .inl (cL, 30, .inr (.inl (aL gr)))), (us, .inr (1, [.ref s1, .ref s2, .ref s3, .ref s4, .int (nI n2)])), (s1, .inl (cI, 30, .inl (aI sh2))), (s2, .inl (cI, 30, .inl (aI dy2))), (s3, .inl (cI, 30, .inl (aI kd2))), (s4, .inl (cL, 30, .inr (.inl (aL gr2))))]) [1, 2, 3, 4, 5, 6, 7, 8, 9, 10, 11, 12, 13] (by decide) rfl
  have hFc := va_free (wc := [(uj, .inr (2, [.ref a1, .ref a2])), (a1, .inl (cI, 30, .inl (aO sp))), (a2, .inl (cI, 30, .inl (aO ps))), (up, .inr (1, [.ref b1, .ref b2, .ref b3, .ref b4, .int (nI n)])), (b1, .inl (cI, 30, .inl (aI sh))), (b2, .inl (cI, 30, .inl (aI dy))), (b3, .inl (cI, 30, .inl (aI kd))), (b4, .inl (cL, 30, .inr (.inl (aL gr)))), (us, .inr (1, [.ref s1, .ref s2, .ref s3, .ref s4, .int (nI n2)])), (s1, .inl (cI, 30, .inl (aI sh2))), (s2, .inl (cI, 30, .inl (aI dy2))), (s3, .inl (cI, 30, .inl (aI kd2))), (s4, .inl (cL, 30, .inr (.inl (aL gr2))))]) hD hS hA [1, 2, 3, 4, 5, 6, 7, 8, 9, 10, 11, 12, 13] rfl
  refine va_calli (va_runV (As := [.ref up, .ref us]) (rest := []) ⟨hx, hb, hml, hown, htg⟩ (c_Jo_joinAnew l dC dI cI cL cZ s.heap.size uj a1 a2 sp ps up b1 b2 b3 b4 n sh dy kd gr us s1 s2 s3 s4 n2 sh2 dy2 kd2 gr2 hi hi2) (cwV 2 htg (gdV k1_218 k1_219 k1_220 k1_3 kc_Jo_joinAnew) rfl rfl rfl (by decide +kernel) ⟨Nat.le_of_ble_eq_true rfl, Nat.le_of_ble_eq_true rfl⟩) ⟨bk_blindW, va_recv hK hP (ci := 2) (q0 := 1) rfl rfl, fun U hU hW => ⟨rfl, nw_warm hW hN, by rw [hU], by rw [hU]; exact hPc, va_K.moved hW.alike hK, hDc.weaken (fun _ _ _ _ => trivial)⟩⟩ rfl rfl hl.1 rfl (lv_room (Nat.le_of_ble_eq_true rfl)) d_B_run_12 ⟨Nat.le_of_ble_eq_true rfl, Nat.le_of_ble_eq_true rfl⟩) hS (fun q _ h => hFc q h) hFc (fun r12 u t H1 locs ht hvm e12 hB hz1 hk1 hS => ?_)
  obtain ⟨hP1, hK1, hD1⟩ := hB
  rw [ht] at hP1
  try dsimp only at e12
  obtain ⟨sp12, ps12⟩ := u
  obtain ⟨i12, rfl, hi12, hr12, hs12, hg12⟩ := e12
  try dsimp only at hs12 hg12
  obtain ⟨hP, hD⟩ := va_join (wr := [(xo, .inr (0, [.long sd, .ref up, .ref us, .ref uj, .ref ul, .ref uk, .ref ut, .ref uq, .ref uw, .ref uc]))]) (w1 := [(uj, .inr (2, [.ref a1, .ref a2])), (a1, .inl (cI, 30, .inl (aO sp12))), (a2, .inl (cI, 30, .inl (aO ps12))), (up, .inr (1, [.ref b1, .ref b2, .ref b3, .ref b4, .int (nI n)])), (b1, .inl (cI, 30, .inl (aI sh))), (b2, .inl (cI, 30, .inl (aI dy))), (b3, .inl (cI, 30, .inl (aI kd))), (b4, .inl (cL, 30, .inr (.inl (aL gr)))), (us, .inr (1, [.ref s1, .ref s2, .ref s3, .ref s4, .int (nI n2)])), (s1, .inl (cI, 30, .inl (aI sh2))), (s2, .inl (cI, 30, .inl (aI dy2))), (s3, .inl (cI, 30, .inl (aI kd2))), (s4, .inl (cL, 30, .inr (.inl (aL gr2))))]) hP hD [1, 2, 3, 4, 5, 6, 7, 8, 9, 10, 11, 12, 13] [0] rfl rfl (by decide) (by decide) hk1 hFc hP1 hD1
  generalize H1 = H at hP hS ⊢
  have hP : va_P (dC, dI) vwCl [(xo, .inr (0, [.long sd, .ref up, .ref us, .ref uj, .ref ul, .ref uk, .ref ut, .ref uq, .ref uw, .ref uc])), (uj, .inr (2, [.ref a1, .ref a2])), (a1, .inl (cI, 30, .inl (aO sp12))), (a2, .inl (cI, 30, .inl (aO ps12))), (up, .inr (1, [.ref b1, .ref b2, .ref b3, .ref b4, .int (nI n)])), (b1, .inl (cI, 30, .inl (aI sh))), (b2, .inl (cI, 30, .inl (aI dy))), (b3, .inl (cI, 30, .inl (aI kd))), (b4, .inl (cL, 30, .inr (.inl (aL gr)))), (us, .inr (1, [.ref s1, .ref s2, .ref s3, .ref s4, .int (nI n2)])), (s1, .inl (cI, 30, .inl (aI sh2))), (s2, .inl (cI, 30, .inl (aI dy2))), (s3, .inl (cI, 30, .inl (aI kd2))), (s4, .inl (cL, 30, .inr (.inl (aL gr2))))] H := hP.sub [0, 1, 2, 3, 4, 5, 6, 7, 8, 9, 10, 11, 12, 13] rfl
  have hD : va_D A [(xo, .inr (0, [.long sd, .ref up, .ref us, .ref uj, .ref ul, .ref uk, .ref ut, .ref uq, .ref uw, .ref uc])), (uj, .inr (2, [.ref a1, .ref a2])), (a1, .inl (cI, 30, .inl (aO sp12))), (a2, .inl (cI, 30, .inl (aO ps12))), (up, .inr (1, [.ref b1, .ref b2, .ref b3, .ref b4, .int (nI n)])), (b1, .inl (cI, 30, .inl (aI sh))), (b2, .inl (cI, 30, .inl (aI dy))), (b3, .inl (cI, 30, .inl (aI kd))), (b4, .inl (cL, 30, .inr (.inl (aL gr)))), (us, .inr (1, [.ref s1, .ref s2, .ref s3, .ref s4, .int (nI n2)])), (s1, .inl (cI, 30, .inl (aI sh2))), (s2, .inl (cI, 30, .inl (aI dy2))), (s3, .inl (cI, 30, .inl (aI kd2))), (s4, .inl (cL, 30, .inr (.inl (aL gr2))))] := hD.sub [0, 1, 2, 3, 4, 5, 6, 7, 8, 9, 10, 11, 12, 13] (by decide) rfl
  have hP9 := hP.sub (ws' := [(xo, .inr (0, [.long sd, .ref up, .ref us, .ref uj, .ref ul, .ref uk, .ref ut, .ref uq, .ref uw, .ref uc])), (uj, .inr (2, [.ref a1, .ref a2])), (a1, .inl (cI, 30, .inl (aO sp12))), (a2, .inl (cI, 30, .inl (aO ps12))), (up, .inr (1, [.ref b1, .ref b2, .ref b3, .ref b4, .int (nI n)])), (b1, .inl (cI, 30, .inl (aI sh))), (b2, .inl (cI, 30, .inl (aI dy))), (b3, .inl (cI, 30, .inl (aI kd))), (b4, .inl (cL, 30, .inr (.inl (aL gr)))), (us, .inr (1, [.ref s1, .ref s2, .ref s3, .ref s4, .int (nI n2)])), (s1, .inl (cI, 30, .inl (aI sh2))), (s2, .inl (cI, 30, .inl (aI dy2))), (s3, .inl (cI, 30, .inl (aI kd2))), (s4, .inl (cL, 30, .inr (.inl (aL gr2))))]) [0, 1, 2, 3, 4, 5, 6, 7, 8, 9, 10, 11, 12, 13] rfl
  have hD9 := hD.sub (ws' := [(xo, .inr (0, [.long sd, .ref up, .ref us, .ref uj, .ref ul, .ref uk, .ref ut, .ref uq, .ref uw, .ref uc])), (uj, .inr (2, [.ref a1, .ref a2])), (a1, .inl (cI, 30, .inl (aO sp12))), (a2, .inl (cI, 30, .inl (aO ps12))), (up, .inr (1, [.ref b1, .ref b2, .ref b3, .ref b4, .int (nI n)])), (b1, .inl (cI, 30, .inl (aI sh))), (b2, .inl (cI, 30, .inl (aI dy))), (b3, .inl (cI, 30, .inl (aI kd))), (b4, .inl (cL, 30, .inr (.inl (aL gr)))), (us, .inr (1, [.ref s1, .ref s2, .ref s3, .ref s4, .int (nI n2)])), (s1, .inl (cI, 30, .inl (aI sh2))), (s2, .inl (cI, 30, .inl (aI dy2))), (s3, .inl (cI, 30, .inl (aI kd2))), (s4, .inl (cL, 30, .inr (.inl (aL gr2))))]) [0, 1, 2, 3, 4, 5, 6, 7, 8, 9, 10, 11, 12, 13] (by decide) rfl
  exact W.iret (v := nI i12) hx hb hr (fun t9 ht9 hW9 => ⟨⟨nI i12, (sp12, ps12), rfl, ⟨i12, rfl, hi12, hr12, hs12, hg12⟩, by rw [ht9]; exact hP9, va_K.moved hW9.alike hK, hD9⟩, hS.F ht9⟩) hS.2.2 d_B_run_15
set_option maxHeartbeats 4000000 in
set_option maxRecDepth 100000 in
theorem c_B_pair (l : Launch) (dC : Nat → ClassId) (dI : Nat → Nat → Nat) (cI cL cZ : ClassId) (xo up us uj ul uk ut uq uw uc : Nat) (sd : Int64) (a1 a2 : Nat) (sp : Nat → Option Nat) (x : Int32) : Met l y_B_pair ws_B_pair { frames := 1, cells := 0, slots := 0, locals := 21 } (va_Pc [.ref xo, .int x] (rdP (dC, dI) vwCl [(cI, .int), (cL, .long), (cZ, .boolean)] [(xo, .inr (0, [.long sd, .ref up, .ref us, .ref uj, .ref ul, .ref uk, .ref ut, .ref uq, .ref uw, .ref uc])), (uj, .inr (2, [.ref a1, .ref a2])), (a1, .inl (cI, 30, .inl (aO sp)))])) (vp_Si (fun r => (∃ j, j < 30 ∧ x = nI j ∧ r = oI (sp j)) ∨ (¬ inR 30 x ∧ r = oI none))) 0 0 (fun _ => False) := by
  refine Met.ofW (cc := b_B_pair) (maxL := 2) (ret := (some .int)) (by decide) rfl ?_
  intro pr en s m args below meth c s₁ B hml hv
  obtain ⟨rfl, hN, hP, hK⟩ := hv
  have hx := B.exec
  have hb := B.bytes
  have hr := B.returns
  have hts := atoms_spec (ws := ws_B_pair) B.pre
  have htg : ∀ w ∈ gW, w.before _ s = true := fun w h => hts w (List.mem_cons_of_mem _ h)
  have hown : s.vm.findClass R_B = some m.cls := findClass_of_methodNamed B.named
  have hlocks := B.notSynchronized
  have hl := lv_entry ([.ref xo, .int x]) (n := 2) (Nat.le_of_ble_eq_true rfl)
  rw [lg_entry_eq]
  generalize (lg_sl ([.ref xo, .int x]) ++ List.replicate (2 - (lg_sl ([.ref xo, .int x])).length) Slot.unset).toArray = ls at hl ⊢
  have hl : lv_has ls 2 [(0, .ref xo), (1, .int x)] := hl
  refine lv_aload_n hx hb d_B_pair_0 rfl (lv_at hl 0 rfl) ?_
  refine va_get (D := (dC, dI)) (ci := 0) (v := .ref uj) (C := R_B) (T := F_B) (N := 10) hx hb htg iw_B hown hK hP 0 rfl rfl 3 (by decide) (htg _ k1_160) (fun _ h9 => h9) rfl d_B_pair_1 ?_
  refine lv_iload_n hx hb d_B_pair_4 rfl (lv_at hl 1 rfl) ?_
  refine vp_callSi (va_runV (As := [.int x]) (rest := []) ⟨hx, hb, hml, hown, htg⟩ (c_Jo_saleOf l dC dI cI cL cZ uj a1 a2 sp x ) (cwV 1 htg (gdV k2_11 k2_12 k2_13 k1_3 kc_Jo_saleOf) rfl rfl rfl (by decide +kernel) ⟨Nat.le_of_ble_eq_true rfl, Nat.le_of_ble_eq_true rfl⟩) ⟨bk_blind, va_recv hK hP (ci := 2) (q0 := 1) rfl rfl, fun U hU hW => ⟨rfl, nw_warm hW hN, by rw [hU]; exact hP.sub [1, 2] rfl, va_K.moved hW.alike hK⟩⟩ rfl rfl hl.1 rfl (lv_room (Nat.le_of_ble_eq_true rfl)) d_B_pair_5 ⟨Nat.le_of_ble_eq_true rfl, Nat.le_of_ble_eq_true rfl⟩).run (fun r5 e5 => ?_)
  exact W.iret (v := r5) hx hb hr (fun t9 ht9 hW9 => ⟨r5, rfl, e5, ht9⟩) (fun q h => nomatch h) d_B_pair_8
set_option maxHeartbeats 4000000 in
set_option maxRecDepth 100000 in
theorem c_B_points (l : Launch) (dC : Nat → ClassId) (dI : Nat → Nat → Nat) (cI cL cZ : ClassId) (xo up us uj ul uk ut uq uw uc : Nat) (sd : Int64) (a1 a2 : Nat) (sp : Nat → Option Nat) (b1 b2 b3 b4 n : Nat) (sh dy kd gr : Nat → Nat) (s1 s2 s3 s4 n2 : Nat) (sh2 dy2 kd2 gr2 : Nat → Nat) (x : Int32) (hi : bkI n sh dy kd gr) (hi2 : bkI n2 sh2 dy2 kd2 gr2) (hsp : ∀ p k, sp p = some k → p < n ∧ k < n2) : Met l y_B_points ws_B_points { frames := 3, cells := 0, slots := 0, locals := 74 } (va_Pc [.ref xo, .int x] (rdP (dC, dI) vwCl [(cI, .int), (cL, .long), (cZ, .boolean)] [(xo, .inr (0, [.long sd, .ref up, .ref us, .ref uj, .ref ul, .ref uk, .ref ut, .ref uq, .ref uw, .ref uc])), (uj, .inr (2, [.ref a1, .ref a2])), (a1, .inl (cI, 30, .inl (aO sp))), (up, .inr (1, [.ref b1, .ref b2, .ref b3, .ref b4, .int (nI n)])), (b1, .inl (cI, 30, .inl (aI sh))), (b2, .inl (cI, 30, .inl (aI dy))), (b3, .inl (cI, 30, .inl (aI kd))), (b4, .inl (cL, 30, .inr (.inl (aL gr)))), (us, .inr (1, [.ref s1, .ref s2, .ref s3, .ref s4, .int (nI n2)])), (s1, .inl (cI, 30, .inl (aI sh2))), (s2, .inl (cI, 30, .inl (aI dy2))), (s3, .inl (cI, 30, .inl (aI kd2))), (s4, .inl (cL, 30, .inr (.inl (aL gr2))))])) (vp_Si (fun r => (∃ j k, j < 30 ∧ x = nI j ∧ sp j = some k ∧ r = nI (ptOf sh dy kd gr sh2 dy2 kd2 gr2 j k)) ∨ ((∀ j, j < 30 → x = nI j → sp j = none) ∧ r = nI 0))) 0 0 (fun _ => False) := by
  refine Met.ofW (cc := b_B_points) (maxL := 3) (ret := (some .int)) (by decide) rfl ?_
  intro pr en s m args below meth c s₁ B hml hv
  obtain ⟨rfl, hN, hP, hK⟩ := hv
  have hx := B.exec
  have hb := B.bytes
  have hr := B.returns
  have hts := atoms_spec (ws := ws_B_points) B.pre
  have htg : ∀ w ∈ gW, w.before _ s = true := fun w h => hts w (List.mem_cons_of_mem _ h)
  have hown : s.vm.findClass R_B = some m.cls := findClass_of_methodNamed B.named
  have hlocks := B.notSynchronized
  have hl := lv_entry ([.ref xo, .int x]) (n := 3) (Nat.le_of_ble_eq_true rfl)
  rw [lg_entry_eq]
  generalize (lg_sl ([.ref xo, .int x]) ++ List.replicate (3 - (lg_sl ([.ref xo, .int x])).length) Slot.unset).toArray = ls at hl ⊢
  have hl : lv_has ls 3 [(0, .ref xo), (1, .int x)] := hl
  have hn := hi.1
  have hn2 := hi2.1
  refine lv_aload_n hx hb d_B_points_0 rfl (lv_at hl 0 rfl) ?_
  refine va_get (D := (dC, dI)) (ci := 0) (v := .ref uj) (C := R_B) (T := F_B) (N := 10) hx hb htg iw_B hown hK hP 0 rfl rfl 3 (by decide) (htg _ k1_160) (fun _ h9 => h9) rfl d_B_points_1 ?_
  refine lv_iload_n hx hb d_B_points_4 rfl (lv_at hl 1 rfl) ?_
  refine vp_callSi (va_runV (As := [.int x]) (rest := []) ⟨hx, hb, hml, hown, htg⟩ (c_Jo_saleOf l dC dI cI cL cZ uj a1 a2 sp x ) (cwV 1 htg (gdV k2_11 k2_12 k2_13 k1_3 kc_Jo_saleOf) rfl rfl rfl (by decide +kernel) ⟨Nat.le_of_ble_eq_true rfl, Nat.le_of_ble_eq_true rfl⟩) ⟨bk_blind, va_recv hK hP (ci := 2) (q0 := 1) rfl rfl, fun U hU hW => ⟨rfl, nw_warm hW hN, by rw [hU]; exact hP.sub [1, 2] rfl, va_K.moved hW.alike hK⟩⟩ rfl rfl hl.1 rfl (lv_room (Nat.le_of_ble_eq_true rfl)) d_B_points_5 ⟨Nat.le_of_ble_eq_true rfl, Nat.le_of_ble_eq_true rfl⟩).run (fun r5 e5 => ?_)
  rcases e5 with ⟨j, hj, hxj, rfl⟩ | ⟨hno, rfl⟩
  · rcases hsj : sp j with _ | k
    · refine lv_istore_n (lv' := [(2, .int (oI none)), (0, .ref xo), (1, .int x)]) hx hb d_B_points_8 rfl hl (by decide) rfl (fun ls hl => ?_)
      refine lv_iload_n hx hb d_B_points_9 rfl (lv_at hl 0 rfl) ?_
      refine lv_iconst (v := oI none) hx hb d_B_points_10 (by decide +kernel) ?_
      refine bk_ocmp_ne (r := none) (tgt := 18) hx hb (by intro k h; cases h) d_B_points_11 (by decide) (fun c11 => absurd rfl c11) (fun c11 => ?_)
      refine lv_iconst (v := nI 0) hx hb d_B_points_14 (by decide +kernel) ?_
      refine lv_goto (tgt := 31) hx hb d_B_points_15 (by decide) ?_
      exact W.iret (v := nI 0) hx hb hr (fun t9 ht9 hW9 => ⟨nI 0, rfl, Or.inr ⟨(fun j9 h9 e9 => by rw [hxj] at e9; rw [← (nI_eq (by omega) (by omega)).mp e9]; exact hsj), rfl⟩, ht9⟩) (fun q h => nomatch h) d_B_points_31
    · obtain ⟨hjn, hkn⟩ := hsp j k hsj
      refine bk_topi (y := nI k) rfl ?_
      refine lv_istore_n (lv' := [(2, .int (nI k)), (0, .ref xo), (1, .int x)]) hx hb d_B_points_8 rfl hl (by decide) rfl (fun ls hl => ?_)
      refine lv_iload_n hx hb d_B_points_9 rfl (lv_at hl 0 rfl) ?_
      refine lv_iconst (v := oI none) hx hb d_B_points_10 (by decide +kernel) ?_
      refine bk_ocmp_ne (r := some k) (tgt := 18) hx hb (by intro k h; cases h; omega) d_B_points_11 (by decide) (fun c11 => ?_) (fun c11 => nomatch c11)
      refine lv_aload_n hx hb d_B_points_18 rfl (lv_at hl 1 rfl) ?_
      refine va_get (D := (dC, dI)) (ci := 0) (v := .ref up) (C := R_B) (T := F_B) (N := 10) hx hb htg iw_B hown hK hP 0 rfl rfl 1 (by decide) (htg _ k1_158) (fun _ h9 => h9) rfl d_B_points_19 ?_
      refine lv_iload_n hx hb d_B_points_22 rfl (lv_at hl 2 rfl) ?_
      refine bk_topi (y := nI j) hxj ?_
      refine lv_aload_n hx hb d_B_points_23 rfl (lv_at hl 1 rfl) ?_
      refine va_get (D := (dC, dI)) (ci := 0) (v := .ref us) (C := R_B) (T := F_B) (N := 10) hx hb htg iw_B hown hK hP 0 rfl rfl 2 (by decide) (htg _ k1_159) (fun _ h9 => h9) rfl d_B_points_24 ?_
      refine lv_iload_n hx hb d_B_points_27 rfl (lv_at hl 0 rfl) ?_
      refine vp_callSi (va_runV (As := [.int (nI j), .ref us, .int (nI k)]) (rest := []) ⟨hx, hb, hml, hown, htg⟩ (c_Bk_fitWith l dC dI cI cL cZ up b1 b2 b3 b4 n sh dy kd gr us s1 s2 s3 s4 n2 sh2 dy2 kd2 gr2 j k hi hi2 hjn hkn) (cwV 3 htg (gdV k2_19 k1_227 k1_228 k1_2 kc_Bk_fitWith) rfl rfl rfl (by decide +kernel) ⟨Nat.le_of_ble_eq_true rfl, Nat.le_of_ble_eq_true rfl⟩) ⟨bk_blind, va_recv hK hP (ci := 1) (q0 := 3) rfl rfl, fun U hU hW => ⟨rfl, nw_warm hW hN, by rw [hU]; exact hP.sub [3, 4, 5, 6, 7, 8, 9, 10, 11, 12] rfl, va_K.moved hW.alike hK⟩⟩ rfl rfl hl.1 rfl (lv_room (Nat.le_of_ble_eq_true rfl)) d_B_points_28 ⟨Nat.le_of_ble_eq_true rfl, Nat.le_of_ble_eq_true rfl⟩).run (fun r28 e28 => ?_)
      subst e28
      exact W.iret (v := nI (ptOf sh dy kd gr sh2 dy2 kd2 gr2 j k)) hx hb hr (fun t9 ht9 hW9 => ⟨nI (ptOf sh dy kd gr sh2 dy2 kd2 gr2 j k), rfl, Or.inl ⟨j, k, hj, hxj, hsj, rfl⟩, ht9⟩) (fun q h => nomatch h) d_B_points_31
  · refine lv_istore_n (lv' := [(2, .int (oI none)), (0, .ref xo), (1, .int x)]) hx hb d_B_points_8 rfl hl (by decide) rfl (fun ls hl => ?_)
    refine lv_iload_n hx hb d_B_points_9 rfl (lv_at hl 0 rfl) ?_
    refine lv_iconst (v := oI none) hx hb d_B_points_10 (by decide +kernel) ?_
    refine bk_ocmp_ne (r := none) (tgt := 18) hx hb (by intro k h; cases h) d_B_points_11 (by decide) (fun c11 => absurd rfl c11) (fun c11 => ?_)
    refine lv_iconst (v := nI 0) hx hb d_B_points_14 (by decide +kernel) ?_
    refine lv_goto (tgt := 31) hx hb d_B_points_15 (by decide) ?_
    exact W.iret (v := nI 0) hx hb hr (fun t9 ht9 hW9 => ⟨nI 0, rfl, Or.inr ⟨(fun j9 h9 e9 => absurd ⟨j9, h9, e9⟩ hno), rfl⟩, ht9⟩) (fun q h => nomatch h) d_B_points_31
set_option maxHeartbeats 4000000 in
set_option maxRecDepth 100000 in
theorem c_B_differs (l : Launch) (dC : Nat → ClassId) (dI : Nat → Nat → Nat) (cI cL cZ : ClassId) (xo up us uj ul uk ut uq uw uc : Nat) (sd : Int64) (a1 a2 : Nat) (sp : Nat → Option Nat) (b1 b2 b3 b4 n : Nat) (sh dy kd gr : Nat → Nat) (s1 s2 s3 s4 n2 : Nat) (sh2 dy2 kd2 gr2 : Nat → Nat) (x : Int32) (hi : bkI n sh dy kd gr) (hi2 : bkI n2 sh2 dy2 kd2 gr2) (hsp : ∀ p k, sp p = some k → p < n ∧ k < n2) : Met l y_B_differs ws_B_differs { frames := 2, cells := 0, slots := 0, locals := 42 } (va_Pc [.ref xo, .int x] (rdP (dC, dI) vwCl [(cI, .int), (cL, .long), (cZ, .boolean)] [(xo, .inr (0, [.long sd, .ref up, .ref us, .ref uj, .ref ul, .ref uk, .ref ut, .ref uq, .ref uw, .ref uc])), (uj, .inr (2, [.ref a1, .ref a2])), (a1, .inl (cI, 30, .inl (aO sp))), (up, .inr (1, [.ref b1, .ref b2, .ref b3, .ref b4, .int (nI n)])), (b1, .inl (cI, 30, .inl (aI sh))), (b2, .inl (cI, 30, .inl (aI dy))), (b3, .inl (cI, 30, .inl (aI kd))), (b4, .inl (cL, 30, .inr (.inl (aL gr)))), (us, .inr (1, [.ref s1, .ref s2, .ref s3, .ref s4, .int (nI n2)])), (s1, .inl (cI, 30, .inl (aI sh2))), (s2, .inl (cI, 30, .inl (aI dy2))), (s3, .inl (cI, 30, .inl (aI kd2))), (s4, .inl (cL, 30, .inr (.inl (aL gr2))))])) (vp_Sl (fun r => (∃ j k, j < 30 ∧ x = nI j ∧ sp j = some k ∧ r = lN (gr2 k) - lN (gr j)) ∨ ((∀ j, j < 30 → x = nI j → sp j = none) ∧ r = lN 0))) 0 0 (fun _ => False) := by
  refine Met.ofW (cc := b_B_differs) (maxL := 3) (ret := (some .long)) (by decide) rfl ?_
  intro pr en s m args below meth c s₁ B hml hv
  obtain ⟨rfl, hN, hP, hK⟩ := hv
  have hx := B.exec
  have hb := B.bytes
  have hr := B.returns
  have hts := atoms_spec (ws := ws_B_differs) B.pre
  have htg : ∀ w ∈ gW, w.before _ s = true := fun w h => hts w (List.mem_cons_of_mem _ h)
  have hown : s.vm.findClass R_B = some m.cls := findClass_of_methodNamed B.named
  have hlocks := B.notSynchronized
  have hl := lv_entry ([.ref xo, .int x]) (n := 3) (Nat.le_of_ble_eq_true rfl)
  rw [lg_entry_eq]
  generalize (lg_sl ([.ref xo, .int x]) ++ List.replicate (3 - (lg_sl ([.ref xo, .int x])).length) Slot.unset).toArray = ls at hl ⊢
  have hl : lv_has ls 3 [(0, .ref xo), (1, .int x)] := hl
  have hn := hi.1
  have hn2 := hi2.1
  refine lv_aload_n hx hb d_B_differs_0 rfl (lv_at hl 0 rfl) ?_
  refine va_get (D := (dC, dI)) (ci := 0) (v := .ref uj) (C := R_B) (T := F_B) (N := 10) hx hb htg iw_B hown hK hP 0 rfl rfl 3 (by decide) (htg _ k1_160) (fun _ h9 => h9) rfl d_B_differs_1 ?_
  refine lv_iload_n hx hb d_B_differs_4 rfl (lv_at hl 1 rfl) ?_
  refine vp_callSi (va_runV (As := [.int x]) (rest := []) ⟨hx, hb, hml, hown, htg⟩ (c_Jo_saleOf l dC dI cI cL cZ uj a1 a2 sp x ) (cwV 1 htg (gdV k2_11 k2_12 k2_13 k1_3 kc_Jo_saleOf) rfl rfl rfl (by decide +kernel) ⟨Nat.le_of_ble_eq_true rfl, Nat.le_of_ble_eq_true rfl⟩) ⟨bk_blind, va_recv hK hP (ci := 2) (q0 := 1) rfl rfl, fun U hU hW => ⟨rfl, nw_warm hW hN, by rw [hU]; exact hP.sub [1, 2] rfl, va_K.moved hW.alike hK⟩⟩ rfl rfl hl.1 rfl (lv_room (Nat.le_of_ble_eq_true rfl)) d_B_differs_5 ⟨Nat.le_of_ble_eq_true rfl, Nat.le_of_ble_eq_true rfl⟩).run (fun r5 e5 => ?_)
  rcases e5 with ⟨j, hj, hxj, rfl⟩ | ⟨hno, rfl⟩
  · rcases hsj : sp j with _ | k
    · refine lv_istore_n (lv' := [(2, .int (oI none)), (0, .ref xo), (1, .int x)]) hx hb d_B_differs_8 rfl hl (by decide) rfl (fun ls hl => ?_)
      refine lv_iload_n hx hb d_B_differs_9 rfl (lv_at hl 0 rfl) ?_
      refine lv_iconst (v := oI none) hx hb d_B_differs_10 (by decide +kernel) ?_
      refine bk_ocmp_ne (r := none) (tgt := 18) hx hb (by intro k h; cases h) d_B_differs_11 (by decide) (fun c11 => absurd rfl c11) (fun c11 => ?_)
      refine lv_lconst (v := lN 0) hx hb d_B_differs_14 (by decide +kernel) ?_
      refine lv_goto (tgt := 35) hx hb d_B_differs_15 (by decide) ?_
      exact W.lret (v := lN 0) hx hb hr (fun t9 ht9 hW9 => ⟨lN 0, rfl, Or.inr ⟨(fun j9 h9 e9 => by rw [hxj] at e9; rw [← (nI_eq (by omega) (by omega)).mp e9]; exact hsj), rfl⟩, ht9⟩) (fun q h => nomatch h) d_B_differs_35
    · obtain ⟨hjn, hkn⟩ := hsp j k hsj
      refine bk_topi (y := nI k) rfl ?_
      refine lv_istore_n (lv' := [(2, .int (nI k)), (0, .ref xo), (1, .int x)]) hx hb d_B_differs_8 rfl hl (by decide) rfl (fun ls hl => ?_)
      refine lv_iload_n hx hb d_B_differs_9 rfl (lv_at hl 0 rfl) ?_
      refine lv_iconst (v := oI none) hx hb d_B_differs_10 (by decide +kernel) ?_
      refine bk_ocmp_ne (r := some k) (tgt := 18) hx hb (by intro k h; cases h; omega) d_B_differs_11 (by decide) (fun c11 => ?_) (fun c11 => nomatch c11)
      refine lv_aload_n hx hb d_B_differs_18 rfl (lv_at hl 1 rfl) ?_
      refine va_get (D := (dC, dI)) (ci := 0) (v := .ref us) (C := R_B) (T := F_B) (N := 10) hx hb htg iw_B hown hK hP 0 rfl rfl 2 (by decide) (htg _ k1_159) (fun _ h9 => h9) rfl d_B_differs_19 ?_
      refine lv_iload_n hx hb d_B_differs_22 rfl (lv_at hl 0 rfl) ?_
      refine vp_callSl (va_runV (As := [.int (nI k)]) (rest := []) ⟨hx, hb, hml, hown, htg⟩ (c_Bk_gramsOf l dC dI cI cL cZ us s1 s2 s3 s4 n2 gr2 (nI k) (by omega)) (cwV 1 htg (gdV k2_24 k2_25 k2_26 k1_2 kc_Bk_gramsOf) rfl rfl rfl (by decide +kernel) ⟨Nat.le_of_ble_eq_true rfl, Nat.le_of_ble_eq_true rfl⟩) ⟨bk_blind, va_recv hK hP (ci := 1) (q0 := 8) rfl rfl, fun U hU hW => ⟨rfl, nw_warm hW hN, by rw [hU]; exact hP.sub [8, 12] rfl, va_K.moved hW.alike hK⟩⟩ rfl rfl hl.1 rfl (lv_room (Nat.le_of_ble_eq_true rfl)) d_B_differs_23 ⟨Nat.le_of_ble_eq_true rfl, Nat.le_of_ble_eq_true rfl⟩).run (fun r23 e23 => ?_)
      obtain ⟨q23, uq23, hx23, rfl⟩ := e23.resolve_right (fun z9 => z9.1 ⟨k, hkn, rfl⟩)
      obtain rfl := (nI_eq (by omega) (by omega)).mp hx23
      refine lv_aload_n hx hb d_B_differs_26 rfl (lv_at hl 1 rfl) ?_
      refine va_get (D := (dC, dI)) (ci := 0) (v := .ref up) (C := R_B) (T := F_B) (N := 10) hx hb htg iw_B hown hK hP 0 rfl rfl 1 (by decide) (htg _ k1_158) (fun _ h9 => h9) rfl d_B_differs_27 ?_
      refine lv_iload_n hx hb d_B_differs_30 rfl (lv_at hl 2 rfl) ?_
      refine bk_topi (y := nI j) hxj ?_
      refine vp_callSl (va_runV (As := [.int (nI j)]) (rest := [.long (lN (gr2 k))]) ⟨hx, hb, hml, hown, htg⟩ (c_Bk_gramsOf l dC dI cI cL cZ up b1 b2 b3 b4 n gr (nI j) (by omega)) (cwV 1 htg (gdV k2_24 k2_25 k2_26 k1_2 kc_Bk_gramsOf) rfl rfl rfl (by decide +kernel) ⟨Nat.le_of_ble_eq_true rfl, Nat.le_of_ble_eq_true rfl⟩) ⟨bk_blind, va_recv hK hP (ci := 1) (q0 := 3) rfl rfl, fun U hU hW => ⟨rfl, nw_warm hW hN, by rw [hU]; exact hP.sub [3, 7] rfl, va_K.moved hW.alike hK⟩⟩ rfl rfl hl.1 rfl (lv_room (Nat.le_of_ble_eq_true rfl)) d_B_differs_31 ⟨Nat.le_of_ble_eq_true rfl, Nat.le_of_ble_eq_true rfl⟩).run (fun r31 e31 => ?_)
      obtain ⟨q31, uq31, hx31, rfl⟩ := e31.resolve_right (fun z9 => z9.1 ⟨j, hjn, rfl⟩)
      obtain rfl := (nI_eq (by omega) (by omega)).mp hx31
      refine lv_lsub hx hb d_B_differs_34 ?_
      exact W.lret (v := ((lN (gr2 k)) - (lN (gr j)))) hx hb hr (fun t9 ht9 hW9 => ⟨((lN (gr2 k)) - (lN (gr j))), rfl, Or.inl ⟨j, k, hj, hxj, hsj, rfl⟩, ht9⟩) (fun q h => nomatch h) d_B_differs_35
  · refine lv_istore_n (lv' := [(2, .int (oI none)), (0, .ref xo), (1, .int x)]) hx hb d_B_differs_8 rfl hl (by decide) rfl (fun ls hl => ?_)
    refine lv_iload_n hx hb d_B_differs_9 rfl (lv_at hl 0 rfl) ?_
    refine lv_iconst (v := oI none) hx hb d_B_differs_10 (by decide +kernel) ?_
    refine bk_ocmp_ne (r := none) (tgt := 18) hx hb (by intro k h; cases h) d_B_differs_11 (by decide) (fun c11 => absurd rfl c11) (fun c11 => ?_)
    refine lv_lconst (v := lN 0) hx hb d_B_differs_14 (by decide +kernel) ?_
    refine lv_goto (tgt := 35) hx hb d_B_differs_15 (by decide) ?_
    exact W.lret (v := lN 0) hx hb hr (fun t9 ht9 hW9 => ⟨lN 0, rfl, Or.inr ⟨(fun j9 h9 e9 => absurd ⟨j9, h9, e9⟩ hno), rfl⟩, ht9⟩) (fun q h => nomatch h) d_B_differs_35
set_option maxHeartbeats 4000000 in
set_option maxRecDepth 100000 in
theorem c_B_waits (l : Launch) (dC : Nat → ClassId) (dI : Nat → Nat → Nat) (cI cL cZ : ClassId) (xo up us uj ul uk ut uq uw uc : Nat) (sd : Int64) (a1 a2 : Nat) (sp : Nat → Option Nat) (b1 b2 b3 b4 n : Nat) (sh dy kd gr : Nat → Nat) (x y : Int32) (hi : bkI n sh dy kd gr) (hsp : ∀ p k, sp p = some k → k < 30) : Met l y_B_waits ws_B_waits { frames := 1, cells := 0, slots := 0, locals := 27 } (va_Pc [.ref xo, .int x, .int y] (rdP (dC, dI) vwCl [(cI, .int), (cL, .long), (cZ, .boolean)] [(xo, .inr (0, [.long sd, .ref up, .ref us, .ref uj, .ref ul, .ref uk, .ref ut, .ref uq, .ref uw, .ref uc])), (uj, .inr (2, [.ref a1, .ref a2])), (a1, .inl (cI, 30, .inl (aO sp))), (up, .inr (1, [.ref b1, .ref b2, .ref b3, .ref b4, .int (nI n)])), (b1, .inl (cI, 30, .inl (aI sh))), (b2, .inl (cI, 30, .inl (aI dy))), (b3, .inl (cI, 30, .inl (aI kd))), (b4, .inl (cL, 30, .inr (.inl (aL gr))))])) (vp_Si (fun r => ∃ o, r = oI o ∧ kth (wB sp dy x) n y o)) 0 0 (fun _ => False) := by
  refine Met.ofW (cc := b_B_waits) (maxL := 3) (ret := (some .int)) (by decide) rfl ?_
  intro pr en s m args below meth c s₁ B hml hv
  obtain ⟨rfl, hN, hP, hK⟩ := hv
  have hx := B.exec
  have hb := B.bytes
  have hr := B.returns
  have hts := atoms_spec (ws := ws_B_waits) B.pre
  have htg : ∀ w ∈ gW, w.before _ s = true := fun w h => hts w (List.mem_cons_of_mem _ h)
  have hown : s.vm.findClass R_B = some m.cls := findClass_of_methodNamed B.named
  have hlocks := B.notSynchronized
  have hl := lv_entry ([.ref xo, .int x, .int y]) (n := 3) (Nat.le_of_ble_eq_true rfl)
  rw [lg_entry_eq]
  generalize (lg_sl ([.ref xo, .int x, .int y]) ++ List.replicate (3 - (lg_sl ([.ref xo, .int x, .int y])).length) Slot.unset).toArray = ls at hl ⊢
  have hl : lv_has ls 3 [(0, .ref xo), (1, .int x), (2, .int y)] := hl
  refine lv_aload_n hx hb d_B_waits_0 rfl (lv_at hl 0 rfl) ?_
  refine va_get (D := (dC, dI)) (ci := 0) (v := .ref uj) (C := R_B) (T := F_B) (N := 10) hx hb htg iw_B hown hK hP 0 rfl rfl 3 (by decide) (htg _ k1_160) (fun _ h9 => h9) rfl d_B_waits_1 ?_
  refine lv_aload_n hx hb d_B_waits_4 rfl (lv_at hl 0 rfl) ?_
  refine va_get (D := (dC, dI)) (ci := 0) (v := .ref up) (C := R_B) (T := F_B) (N := 10) hx hb htg iw_B hown hK hP 0 rfl rfl 1 (by decide) (htg _ k1_158) (fun _ h9 => h9) rfl d_B_waits_5 ?_
  refine lv_iload_n hx hb d_B_waits_8 rfl (lv_at hl 1 rfl) ?_
  refine lv_iload_n hx hb d_B_waits_9 rfl (lv_at hl 2 rfl) ?_
  refine vp_callSi (va_runV (As := [.ref up, .int x, .int y]) (rest := []) ⟨hx, hb, hml, hown, htg⟩ (c_Jo_waiting l dC dI cI cL cZ uj a1 a2 sp up b1 b2 b3 b4 n sh dy kd gr x y hi hsp) (cwV 3 htg (gdV k2_32 k2_33 k2_34 k1_3 kc_Jo_waiting) rfl rfl rfl (by decide +kernel) ⟨Nat.le_of_ble_eq_true rfl, Nat.le_of_ble_eq_true rfl⟩) ⟨bk_blind, va_recv hK hP (ci := 2) (q0 := 1) rfl rfl, fun U hU hW => ⟨rfl, nw_warm hW hN, by rw [hU]; exact hP.sub [1, 2, 3, 4, 5, 6, 7] rfl, va_K.moved hW.alike hK⟩⟩ rfl rfl hl.1 rfl (lv_room (Nat.le_of_ble_eq_true rfl)) d_B_waits_10 ⟨Nat.le_of_ble_eq_true rfl, Nat.le_of_ble_eq_true rfl⟩).run (fun r10 e10 => ?_)
  exact W.iret (v := r10) hx hb hr (fun t9 ht9 hW9 => ⟨r10, rfl, e10, ht9⟩) (fun q h => nomatch h) d_B_waits_13
set_option maxHeartbeats 4000000 in
set_option maxRecDepth 100000 in
theorem c_B_balance (l : Launch) (dC : Nat → ClassId) (dI : Nat → Nat → Nat) (cI cL cZ : ClassId) (xo up us uj ul uk ut uq uw uc : Nat) (sd : Int64) (b1 b2 b3 b4 n : Nat) (sh dy kd gr : Nat → Nat) (s1 s2 s3 s4 n2 : Nat) (sh2 dy2 kd2 gr2 : Nat → Nat) (x : Int32) (hi : bkI n sh dy kd gr) (hi2 : bkI n2 sh2 dy2 kd2 gr2) : Met l y_B_balance ws_B_balance { frames := 1, cells := 0, slots := 0, locals := 24 } (va_Pc [.ref xo, .int x] (rdP (dC, dI) vwCl [(cI, .int), (cL, .long), (cZ, .boolean)] [(xo, .inr (0, [.long sd, .ref up, .ref us, .ref uj, .ref ul, .ref uk, .ref ut, .ref uq, .ref uw, .ref uc])), (up, .inr (1, [.ref b1, .ref b2, .ref b3, .ref b4, .int (nI n)])), (b1, .inl (cI, 30, .inl (aI sh))), (b2, .inl (cI, 30, .inl (aI dy))), (b3, .inl (cI, 30, .inl (aI kd))), (b4, .inl (cL, 30, .inr (.inl (aL gr)))), (us, .inr (1, [.ref s1, .ref s2, .ref s3, .ref s4, .int (nI n2)])), (s1, .inl (cI, 30, .inl (aI sh2))), (s2, .inl (cI, 30, .inl (aI dy2))), (s3, .inl (cI, 30, .inl (aI kd2))), (s4, .inl (cL, 30, .inr (.inl (aL gr2))))])) (vp_Sl (fun r => r = lN (sumK kd2 gr2 x n2) - lN (sumK kd gr x n))) 0 0 (fun _ => False) := by
  refine Met.ofW (cc := b_B_balance) (maxL := 2) (ret := (some .long)) (by decide) rfl ?_
  intro pr en s m args below meth c s₁ B hml hv
  obtain ⟨rfl, hN, hP, hK⟩ := hv
  have hx := B.exec
  have hb := B.bytes
  have hr := B.returns
  have hts := atoms_spec (ws := ws_B_balance) B.pre
  have htg : ∀ w ∈ gW, w.before _ s = true := fun w h => hts w (List.mem_cons_of_mem _ h)
  have hown : s.vm.findClass R_B = some m.cls := findClass_of_methodNamed B.named
  have hlocks := B.notSynchronized
  have hl := lv_entry ([.ref xo, .int x]) (n := 2) (Nat.le_of_ble_eq_true rfl)
  rw [lg_entry_eq]
  generalize (lg_sl ([.ref xo, .int x]) ++ List.replicate (2 - (lg_sl ([.ref xo, .int x])).length) Slot.unset).toArray = ls at hl ⊢
  have hl : lv_has ls 2 [(0, .ref xo), (1, .int x)] := hl
  have hn := hi.1
  have hn2 := hi2.1
  refine lv_aload_n hx hb d_B_balance_0 rfl (lv_at hl 0 rfl) ?_
  refine va_get (D := (dC, dI)) (ci := 0) (v := .ref us) (C := R_B) (T := F_B) (N := 10) hx hb htg iw_B hown hK hP 0 rfl rfl 2 (by decide) (htg _ k1_159) (fun _ h9 => h9) rfl d_B_balance_1 ?_
  refine lv_iload_n hx hb d_B_balance_4 rfl (lv_at hl 1 rfl) ?_
  refine vp_callSl (va_runV (As := [.int x]) (rest := []) ⟨hx, hb, hml, hown, htg⟩ (c_Bk_gramsOfKind l dC dI cI cL cZ us s1 s2 s3 s4 n2 kd2 gr2 x (by omega)) (cwV 1 htg (gdV k2_41 k2_42 k2_43 k1_2 kc_Bk_gramsOfKind) rfl rfl rfl (by decide +kernel) ⟨Nat.le_of_ble_eq_true rfl, Nat.le_of_ble_eq_true rfl⟩) ⟨bk_blind, va_recv hK hP (ci := 1) (q0 := 6) rfl rfl, fun U hU hW => ⟨rfl, nw_warm hW hN, by rw [hU]; exact hP.sub [6, 9, 10] rfl, va_K.moved hW.alike hK⟩⟩ rfl rfl hl.1 rfl (lv_room (Nat.le_of_ble_eq_true rfl)) d_B_balance_5 ⟨Nat.le_of_ble_eq_true rfl, Nat.le_of_ble_eq_true rfl⟩).run (fun r5 e5 => ?_)
  subst e5
  refine lv_aload_n hx hb d_B_balance_8 rfl (lv_at hl 0 rfl) ?_
  refine va_get (D := (dC, dI)) (ci := 0) (v := .ref up) (C := R_B) (T := F_B) (N := 10) hx hb htg iw_B hown hK hP 0 rfl rfl 1 (by decide) (htg _ k1_158) (fun _ h9 => h9) rfl d_B_balance_9 ?_
  refine lv_iload_n hx hb d_B_balance_12 rfl (lv_at hl 1 rfl) ?_
  refine vp_callSl (va_runV (As := [.int x]) (rest := [.long (lN (sumK kd2 gr2 x n2))]) ⟨hx, hb, hml, hown, htg⟩ (c_Bk_gramsOfKind l dC dI cI cL cZ up b1 b2 b3 b4 n kd gr x (by omega)) (cwV 1 htg (gdV k2_41 k2_42 k2_43 k1_2 kc_Bk_gramsOfKind) rfl rfl rfl (by decide +kernel) ⟨Nat.le_of_ble_eq_true rfl, Nat.le_of_ble_eq_true rfl⟩) ⟨bk_blind, va_recv hK hP (ci := 1) (q0 := 1) rfl rfl, fun U hU hW => ⟨rfl, nw_warm hW hN, by rw [hU]; exact hP.sub [1, 4, 5] rfl, va_K.moved hW.alike hK⟩⟩ rfl rfl hl.1 rfl (lv_room (Nat.le_of_ble_eq_true rfl)) d_B_balance_13 ⟨Nat.le_of_ble_eq_true rfl, Nat.le_of_ble_eq_true rfl⟩).run (fun r13 e13 => ?_)
  subst e13
  refine lv_lsub hx hb d_B_balance_16 ?_
  exact W.lret (v := ((lN (sumK kd2 gr2 x n2)) - (lN (sumK kd gr x n)))) hx hb hr (fun t9 ht9 hW9 => ⟨((lN (sumK kd2 gr2 x n2)) - (lN (sumK kd gr x n))), rfl, rfl, ht9⟩) (fun q h => nomatch h) d_B_balance_17
set_option maxHeartbeats 4000000 in
set_option maxRecDepth 100000 in
theorem c_B_plant (l : Launch) (dC : Nat → ClassId) (dI : Nat → Nat → Nat) (cI cL cZ : ClassId) (sz : Nat) (xo up us uj ul uk ut uq uw uc : Nat) (sd : Int64) (a1 a2 a3 a4 a5 n : Nat) (inn pk : Nat → Nat) (x1 : Int64) (x2 : Int32) (hn : n ≤ 8) : Met l y_B_plant ws_B_plant { frames := 2, cells := 0, slots := 0, locals := 44 } (va_Pc [.ref xo, .long x1, .int x2] (wrP (dC, dI) vwCl [(cI, .int), (cL, .long), (cZ, .boolean)] [(xo, .inr (0, [.long sd, .ref up, .ref us, .ref uj, .ref ul, .ref uk, .ref ut, .ref uq, .ref uw, .ref uc])), (ul, .inr (3, [.ref a1, .ref a2, .ref a3, .ref a4, .ref a5, .int (nI n)])), (a1, .inl (cL, 8, .inr (.inl (aL inn)))), (a2, .inl (cI, 8, .inl (aI pk)))] sz)) (va_Qi (fun (r : Int32) (u : Nat × (Nat → Nat) × (Nat → Nat)) => (plOk n x1 x2 ∧ r = nI n ∧ u = (n + 1, va_up inn n (tl x1), va_up pk n (tn x2))) ∨ (¬ plOk n x1 x2 ∧ r = oI none ∧ u = (n, inn, pk))) (fun (u : Nat × (Nat → Nat) × (Nat → Nat)) => wrQ (dC, dI) vwCl [(cI, .int), (cL, .long), (cZ, .boolean)] (va_A [(xo, .inr (0, [.long sd, .ref up, .ref us, .ref uj, .ref ul, .ref uk, .ref ut, .ref uq, .ref uw, .ref uc])), (ul, .inr (3, [.ref a1, .ref a2, .ref a3, .ref a4, .ref a5, .int (nI n)])), (a1, .inl (cL, 8, .inr (.inl (aL inn)))), (a2, .inl (cI, 8, .inl (aI pk)))] sz) [(xo, .inr (0, [.long sd, .ref up, .ref us, .ref uj, .ref ul, .ref uk, .ref ut, .ref uq, .ref uw, .ref uc])), (ul, .inr (3, [.ref a1, .ref a2, .ref a3, .ref a4, .ref a5, .int (nI u.1)])), (a1, .inl (cL, 8, .inr (.inl (aL u.2.1)))), (a2, .inl (cI, 8, .inl (aI u.2.2)))]) (va_A [(xo, .inr (0, [.long sd, .ref up, .ref us, .ref uj, .ref ul, .ref uk, .ref ut, .ref uq, .ref uw, .ref uc])), (ul, .inr (3, [.ref a1, .ref a2, .ref a3, .ref a4, .ref a5, .int (nI n)])), (a1, .inl (cL, 8, .inr (.inl (aL inn)))), (a2, .inl (cI, 8, .inl (aI pk)))] sz)) 0 0 (va_A [(xo, .inr (0, [.long sd, .ref up, .ref us, .ref uj, .ref ul, .ref uk, .ref ut, .ref uq, .ref uw, .ref uc])), (ul, .inr (3, [.ref a1, .ref a2, .ref a3, .ref a4, .ref a5, .int (nI n)])), (a1, .inl (cL, 8, .inr (.inl (aL inn)))), (a2, .inl (cI, 8, .inl (aI pk)))] sz) := by
  refine Met.ofW (cc := b_B_plant) (maxL := 4) (ret := (some .int)) (by decide) rfl ?_
  intro pr en s m args below meth c s₁ B hml hv
  obtain ⟨rfl, hN, hsz, hP, hK, hD0⟩ := hv
  have hx := B.exec
  have hb := B.bytes
  have hr := B.returns
  have hts := atoms_spec (ws := ws_B_plant) B.pre
  have htg : ∀ w ∈ gW, w.before _ s = true := fun w h => hts w (List.mem_cons_of_mem _ h)
  have hown : s.vm.findClass R_B = some m.cls := findClass_of_methodNamed B.named
  have hlocks := B.notSynchronized
  subst hsz
  have hD := hD0.self (sz := s.heap.size)
  generalize hAe : va_A [(xo, .inr (0, [.long sd, .ref up, .ref us, .ref uj, .ref ul, .ref uk, .ref ut, .ref uq, .ref uw, .ref uc])), (ul, .inr (3, [.ref a1, .ref a2, .ref a3, .ref a4, .ref a5, .int (nI n)])), (a1, .inl (cL, 8, .inr (.inl (aL inn)))), (a2, .inl (cI, 8, .inl (aI pk)))] s.heap.size = A at hD ⊢
  have hA : ∀ q : Nat, s.heap.size ≤ q → A q := fun q h => by rw [← hAe]; exact Or.inr h
  have hS : va_S A s.heap s.heap [] := va_S.rf
  have hP : va_P (dC, dI) vwCl [(xo, .inr (0, [.long sd, .ref up, .ref us, .ref uj, .ref ul, .ref uk, .ref ut, .ref uq, .ref uw, .ref uc])), (ul, .inr (3, [.ref a1, .ref a2, .ref a3, .ref a4, .ref a5, .int (nI n)])), (a1, .inl (cL, 8, .inr (.inl (aL inn)))), (a2, .inl (cI, 8, .inl (aI pk)))] s.heap := hP
  have hl := lv_entry ([.ref xo, .long x1, .int x2]) (n := 4) (Nat.le_of_ble_eq_true rfl)
  rw [lg_entry_eq]
  generalize (lg_sl ([.ref xo, .long x1, .int x2]) ++ List.replicate (4 - (lg_sl ([.ref xo, .long x1, .int x2])).length) Slot.unset).toArray = ls at hl ⊢
  have hl : lv_has ls 4 [(0, .ref xo), (1, .long x1), (3, .int x2)] := hl
  refine lv_aload_n hx hb d_B_plant_0 rfl (lv_at hl 0 rfl) ?_
  refine va_get (D := (dC, dI)) (ci := 0) (v := .ref ul) (C := R_B) (T := F_B) (N := 10) hx hb htg iw_B hown hK hP 0 rfl rfl 4 (by decide) (htg _ k1_161) (fun _ h9 => h9) rfl d_B_plant_1 ?_
  refine lv_lload_n hx hb d_B_plant_4 rfl (lv_at hl 1 rfl) ?_
  refine lv_iload_n hx hb d_B_plant_5 rfl (lv_at hl 2 rfl) ?_
  have hPc := hP.sub (ws' := [(ul, .inr (3, [.ref a1, .ref a2, .ref a3, .ref a4, .ref a5, .int (nI n)])), (a1, .inl (cL, 8, .inr (.inl (aL inn)))), (a2, .inl (cI, 8, .inl (aI pk)))]) [1, 2, 3] rfl
  have hDc := hD.sub (ws' := [(ul, .inr (3, [.ref a1, .ref a2, .ref a3, .ref a4, .ref a5, .int (nI n)])), (a1, .inl (cL, 8, .inr (.inl (aL inn)))), (a2, .inl (cI, 8, .inl (aI pk)))]) [1, 2, 3] (by decide) rfl
  have hFc := va_free (wc := [(ul, .inr (3, [.ref a1, .ref a2, .ref a3, .ref a4, .ref a5, .int (nI n)])), (a1, .inl (cL, 8, .inr (.inl (aL inn)))), (a2, .inl (cI, 8, .inl (aI pk)))]) hD hS hA [1, 2, 3] rfl
  refine va_calli (va_runV (As := [.long x1, .int x2]) (rest := []) ⟨hx, hb, hml, hown, htg⟩ (c_Pl_add l dC dI cI cL cZ s.heap.size ul a1 a2 a3 a4 a5 n inn pk x1 x2 (by omega)) (cwV 2 htg (gdV k2_49 k2_50 k2_51 k1_4 kc_Pl_add) rfl rfl rfl (by decide +kernel) ⟨Nat.le_of_ble_eq_true rfl, Nat.le_of_ble_eq_true rfl⟩) ⟨bk_blindW, va_recv hK hP (ci := 3) (q0 := 1) rfl rfl, fun U hU hW => ⟨rfl, nw_warm hW hN, by rw [hU], by rw [hU]; exact hPc, va_K.moved hW.alike hK, hDc.weaken (fun _ _ _ _ => trivial)⟩⟩ rfl rfl hl.1 rfl (lv_room (Nat.le_of_ble_eq_true rfl)) d_B_plant_6 ⟨Nat.le_of_ble_eq_true rfl, Nat.le_of_ble_eq_true rfl⟩) hS (fun q _ h => hFc q h) hFc (fun r6 u t H1 locs ht hvm e6 hB hz1 hk1 hS => ?_)
  obtain ⟨hP1, hK1, hD1⟩ := hB
  rw [ht] at hP1
  try dsimp only at e6
  rcases e6 with ⟨ok6, rfl, rfl⟩ | ⟨no6, rfl, rfl⟩
  · obtain ⟨hP, hD⟩ := va_join (wr := [(xo, .inr (0, [.long sd, .ref up, .ref us, .ref uj, .ref ul, .ref uk, .ref ut, .ref uq, .ref uw, .ref uc]))]) (w1 := [(ul, .inr (3, [.ref a1, .ref a2, .ref a3, .ref a4, .ref a5, .int (nI (n + 1))])), (a1, .inl (cL, 8, .inr (.inl (aL (va_up inn n (tl x1)))))), (a2, .inl (cI, 8, .inl (aI (va_up pk n (tn x2)))))]) hP hD [1, 2, 3] [0] rfl rfl (by decide) (by decide) hk1 hFc hP1 hD1
    generalize H1 = H at hP hS ⊢
    have hP : va_P (dC, dI) vwCl [(xo, .inr (0, [.long sd, .ref up, .ref us, .ref uj, .ref ul, .ref uk, .ref ut, .ref uq, .ref uw, .ref uc])), (ul, .inr (3, [.ref a1, .ref a2, .ref a3, .ref a4, .ref a5, .int (nI (n + 1))])), (a1, .inl (cL, 8, .inr (.inl (aL (va_up inn n (tl x1)))))), (a2, .inl (cI, 8, .inl (aI (va_up pk n (tn x2)))))] H := hP.sub [0, 1, 2, 3] rfl
    have hD : va_D A [(xo, .inr (0, [.long sd, .ref up, .ref us, .ref uj, .ref ul, .ref uk, .ref ut, .ref uq, .ref uw, .ref uc])), (ul, .inr (3, [.ref a1, .ref a2, .ref a3, .ref a4, .ref a5, .int (nI (n + 1))])), (a1, .inl (cL, 8, .inr (.inl (aL (va_up inn n (tl x1)))))), (a2, .inl (cI, 8, .inl (aI (va_up pk n (tn x2)))))] := hD.sub [0, 1, 2, 3] (by decide) rfl
    have hP9 := hP.sub (ws' := [(xo, .inr (0, [.long sd, .ref up, .ref us, .ref uj, .ref ul, .ref uk, .ref ut, .ref uq, .ref uw, .ref uc])), (ul, .inr (3, [.ref a1, .ref a2, .ref a3, .ref a4, .ref a5, .int (nI (n + 1))])), (a1, .inl (cL, 8, .inr (.inl (aL (va_up inn n (tl x1)))))), (a2, .inl (cI, 8, .inl (aI (va_up pk n (tn x2)))))]) [0, 1, 2, 3] rfl
    have hD9 := hD.sub (ws' := [(xo, .inr (0, [.long sd, .ref up, .ref us, .ref uj, .ref ul, .ref uk, .ref ut, .ref uq, .ref uw, .ref uc])), (ul, .inr (3, [.ref a1, .ref a2, .ref a3, .ref a4, .ref a5, .int (nI (n + 1))])), (a1, .inl (cL, 8, .inr (.inl (aL (va_up inn n (tl x1)))))), (a2, .inl (cI, 8, .inl (aI (va_up pk n (tn x2)))))]) [0, 1, 2, 3] (by decide) rfl
    exact W.iret (v := nI n) hx hb hr (fun t9 ht9 hW9 => ⟨⟨nI n, (n + 1, va_up inn n (tl x1), va_up pk n (tn x2)), rfl, Or.inl ⟨ok6, rfl, rfl⟩, by rw [ht9]; exact hP9, va_K.moved hW9.alike hK, hD9⟩, hS.F ht9⟩) hS.2.2 d_B_plant_9
  · obtain ⟨hP, hD⟩ := va_join (wr := [(xo, .inr (0, [.long sd, .ref up, .ref us, .ref uj, .ref ul, .ref uk, .ref ut, .ref uq, .ref uw, .ref uc]))]) (w1 := [(ul, .inr (3, [.ref a1, .ref a2, .ref a3, .ref a4, .ref a5, .int (nI n)])), (a1, .inl (cL, 8, .inr (.inl (aL inn)))), (a2, .inl (cI, 8, .inl (aI pk)))]) hP hD [1, 2, 3] [0] rfl rfl (by decide) (by decide) hk1 hFc hP1 hD1
    generalize H1 = H at hP hS ⊢
    have hP : va_P (dC, dI) vwCl [(xo, .inr (0, [.long sd, .ref up, .ref us, .ref uj, .ref ul, .ref uk, .ref ut, .ref uq, .ref uw, .ref uc])), (ul, .inr (3, [.ref a1, .ref a2, .ref a3, .ref a4, .ref a5, .int (nI n)])), (a1, .inl (cL, 8, .inr (.inl (aL inn)))), (a2, .inl (cI, 8, .inl (aI pk)))] H := hP.sub [0, 1, 2, 3] rfl
    have hD : va_D A [(xo, .inr (0, [.long sd, .ref up, .ref us, .ref uj, .ref ul, .ref uk, .ref ut, .ref uq, .ref uw, .ref uc])), (ul, .inr (3, [.ref a1, .ref a2, .ref a3, .ref a4, .ref a5, .int (nI n)])), (a1, .inl (cL, 8, .inr (.inl (aL inn)))), (a2, .inl (cI, 8, .inl (aI pk)))] := hD.sub [0, 1, 2, 3] (by decide) rfl
    have hP9 := hP.sub (ws' := [(xo, .inr (0, [.long sd, .ref up, .ref us, .ref uj, .ref ul, .ref uk, .ref ut, .ref uq, .ref uw, .ref uc])), (ul, .inr (3, [.ref a1, .ref a2, .ref a3, .ref a4, .ref a5, .int (nI n)])), (a1, .inl (cL, 8, .inr (.inl (aL inn)))), (a2, .inl (cI, 8, .inl (aI pk)))]) [0, 1, 2, 3] rfl
    have hD9 := hD.sub (ws' := [(xo, .inr (0, [.long sd, .ref up, .ref us, .ref uj, .ref ul, .ref uk, .ref ut, .ref uq, .ref uw, .ref uc])), (ul, .inr (3, [.ref a1, .ref a2, .ref a3, .ref a4, .ref a5, .int (nI n)])), (a1, .inl (cL, 8, .inr (.inl (aL inn)))), (a2, .inl (cI, 8, .inl (aI pk)))]) [0, 1, 2, 3] (by decide) rfl
    exact W.iret (v := oI none) hx hb hr (fun t9 ht9 hW9 => ⟨⟨oI none, (n, inn, pk), rfl, Or.inr ⟨no6, rfl, rfl⟩, by rw [ht9]; exact hP9, va_K.moved hW9.alike hK, hD9⟩, hS.F ht9⟩) hS.2.2 d_B_plant_9
set_option maxHeartbeats 4000000 in
set_option maxRecDepth 100000 in
theorem c_B_out (l : Launch) (dC : Nat → ClassId) (dI : Nat → Nat → Nat) (cI cL cZ : ClassId) (sz : Nat) (xo up us uj ul uk ut uq uw uc : Nat) (sd : Int64) (a1 a2 a3 a4 a5 n : Nat) (inn pk ou ok og : Nat → Nat) (x1 x2 : Int32) (x3 : Int64) (hi : plI n inn pk ou ok og) : Met l y_B_out ws_B_out { frames := 2, cells := 0, slots := 0, locals := 46 } (va_Pc [.ref xo, .int x1, .int x2, .long x3] (wrP (dC, dI) vwCl [(cI, .int), (cL, .long), (cZ, .boolean)] [(xo, .inr (0, [.long sd, .ref up, .ref us, .ref uj, .ref ul, .ref uk, .ref ut, .ref uq, .ref uw, .ref uc])), (ul, .inr (3, [.ref a1, .ref a2, .ref a3, .ref a4, .ref a5, .int (nI n)])), (a1, .inl (cL, 8, .inr (.inl (aL inn)))), (a2, .inl (cI, 8, .inl (aI pk))), (a3, .inl (cI, 8, .inl (aI ou))), (a4, .inl (cI, 64, .inl (aI ok))), (a5, .inl (cL, 64, .inr (.inl (aL og))))] sz)) (va_Qi (fun (r : Int32) (u : (Nat → Nat) × (Nat → Nat) × (Nat → Nat)) => (outOk n ou x1 x2 x3 ∧ r = nI (ou (tn x1)) ∧ u = (va_up ou (tn x1) (ou (tn x1) + 1), va_up ok (tn x1 * 8 + ou (tn x1)) (tn x2), va_up og (tn x1 * 8 + ou (tn x1)) (tl x3))) ∨ (¬ outOk n ou x1 x2 x3 ∧ r = oI none ∧ u = (ou, ok, og))) (fun (u : (Nat → Nat) × (Nat → Nat) × (Nat → Nat)) => wrQ (dC, dI) vwCl [(cI, .int), (cL, .long), (cZ, .boolean)] (va_A [(xo, .inr (0, [.long sd, .ref up, .ref us, .ref uj, .ref ul, .ref uk, .ref ut, .ref uq, .ref uw, .ref uc])), (ul, .inr (3, [.ref a1, .ref a2, .ref a3, .ref a4, .ref a5, .int (nI n)])), (a1, .inl (cL, 8, .inr (.inl (aL inn)))), (a2, .inl (cI, 8, .inl (aI pk))), (a3, .inl (cI, 8, .inl (aI ou))), (a4, .inl (cI, 64, .inl (aI ok))), (a5, .inl (cL, 64, .inr (.inl (aL og))))] sz) [(xo, .inr (0, [.long sd, .ref up, .ref us, .ref uj, .ref ul, .ref uk, .ref ut, .ref uq, .ref uw, .ref uc])), (ul, .inr (3, [.ref a1, .ref a2, .ref a3, .ref a4, .ref a5, .int (nI n)])), (a1, .inl (cL, 8, .inr (.inl (aL inn)))), (a2, .inl (cI, 8, .inl (aI pk))), (a3, .inl (cI, 8, .inl (aI u.1))), (a4, .inl (cI, 64, .inl (aI u.2.1))), (a5, .inl (cL, 64, .inr (.inl (aL u.2.2))))]) (va_A [(xo, .inr (0, [.long sd, .ref up, .ref us, .ref uj, .ref ul, .ref uk, .ref ut, .ref uq, .ref uw, .ref uc])), (ul, .inr (3, [.ref a1, .ref a2, .ref a3, .ref a4, .ref a5, .int (nI n)])), (a1, .inl (cL, 8, .inr (.inl (aL inn)))), (a2, .inl (cI, 8, .inl (aI pk))), (a3, .inl (cI, 8, .inl (aI ou))), (a4, .inl (cI, 64, .inl (aI ok))), (a5, .inl (cL, 64, .inr (.inl (aL og))))] sz)) 0 0 (va_A [(xo, .inr (0, [.long sd, .ref up, .ref us, .ref uj, .ref ul, .ref uk, .ref ut, .ref uq, .ref uw, .ref uc])), (ul, .inr (3, [.ref a1, .ref a2, .ref a3, .ref a4, .ref a5, .int (nI n)])), (a1, .inl (cL, 8, .inr (.inl (aL inn)))), (a2, .inl (cI, 8, .inl (aI pk))), (a3, .inl (cI, 8, .inl (aI ou))), (a4, .inl (cI, 64, .inl (aI ok))), (a5, .inl (cL, 64, .inr (.inl (aL og))))] sz) := by
  refine Met.ofW (cc := b_B_out) (maxL := 5) (ret := (some .int)) (by decide) rfl ?_
  intro pr en s m args below meth c s₁ B hml hv
  obtain ⟨rfl, hN, hsz, hP, hK, hD0⟩ := hv
  have hx := B.exec
  have hb := B.bytes
  have hr := B.returns
  have hts := atoms_spec (ws := ws_B_out) B.pre
  have htg : ∀ w ∈ gW, w.before _ s = true := fun w h => hts w (List.mem_cons_of_mem _ h)
  have hown : s.vm.findClass R_B = some m.cls := findClass_of_methodNamed B.named
  have hlocks := B.notSynchronized
  subst hsz
  have hD := hD0.self (sz := s.heap.size)
  generalize hAe : va_A [(xo, .inr (0, [.long sd, .ref up, .ref us, .ref uj, .ref ul, .ref uk, .ref ut, .ref uq, .ref uw, .ref uc])), (ul, .inr (3, [.ref a1, .ref a2, .ref a3, .ref a4, .ref a5, .int (nI n)])), (a1, .inl (cL, 8, .inr (.inl (aL inn)))), (a2, .inl (cI, 8, .inl (aI pk))), (a3, .inl (cI, 8, .inl (aI ou))), (a4, .inl (cI, 64, .inl (aI ok))), (a5, .inl (cL, 64, .inr (.inl (aL og))))] s.heap.size = A at hD ⊢
  have hA : ∀ q : Nat, s.heap.size ≤ q → A q := fun q h => by rw [← hAe]; exact Or.inr h
  have hS : va_S A s.heap s.heap [] := va_S.rf
  have hP : va_P (dC, dI) vwCl [(xo, .inr (0, [.long sd, .ref up, .ref us, .ref uj, .ref ul, .ref uk, .ref ut, .ref uq, .ref uw, .ref uc])), (ul, .inr (3, [.ref a1, .ref a2, .ref a3, .ref a4, .ref a5, .int (nI n)])), (a1, .inl (cL, 8, .inr (.inl (aL inn)))), (a2, .inl (cI, 8, .inl (aI pk))), (a3, .inl (cI, 8, .inl (aI ou))), (a4, .inl (cI, 64, .inl (aI ok))), (a5, .inl (cL, 64, .inr (.inl (aL og))))] s.heap := hP
  have hl := lv_entry ([.ref xo, .int x1, .int x2, .long x3]) (n := 5) (Nat.le_of_ble_eq_true rfl)
  rw [lg_entry_eq]
  generalize (lg_sl ([.ref xo, .int x1, .int x2, .long x3]) ++ List.replicate (5 - (lg_sl ([.ref xo, .int x1, .int x2, .long x3])).length) Slot.unset).toArray = ls at hl ⊢
  have hl : lv_has ls 5 [(0, .ref xo), (1, .int x1), (2, .int x2), (3, .long x3)] := hl
  refine lv_aload_n hx hb d_B_out_0 rfl (lv_at hl 0 rfl) ?_
  refine va_get (D := (dC, dI)) (ci := 0) (v := .ref ul) (C := R_B) (T := F_B) (N := 10) hx hb htg iw_B hown hK hP 0 rfl rfl 4 (by decide) (htg _ k1_161) (fun _ h9 => h9) rfl d_B_out_1 ?_
  refine lv_iload_n hx hb d_B_out_4 rfl (lv_at hl 1 rfl) ?_
  refine lv_iload_n hx hb d_B_out_5 rfl (lv_at hl 2 rfl) ?_
  refine lv_lload_n hx hb d_B_out_6 rfl (lv_at hl 3 rfl) ?_
  have hPc := hP.sub (ws' := [(ul, .inr (3, [.ref a1, .ref a2, .ref a3, .ref a4, .ref a5, .int (nI n)])), (a1, .inl (cL, 8, .inr (.inl (aL inn)))), (a2, .inl (cI, 8, .inl (aI pk))), (a3, .inl (cI, 8, .inl (aI ou))), (a4, .inl (cI, 64, .inl (aI ok))), (a5, .inl (cL, 64, .inr (.inl (aL og))))]) [1, 2, 3, 4, 5, 6] rfl
  have hDc := hD.sub (ws' := [(ul, .inr (3, [.ref a1, .ref a2, .ref a3, .ref a4, .ref a5, .int (nI n)])), (a1, .inl (cL, 8, .inr (.inl (aL inn)))), (a2, .inl (cI, 8, .inl (aI pk))), (a3, .inl (cI, 8, .inl (aI ou))), (a4, .inl (cI, 64, .inl (aI ok))), (a5, .inl (cL, 64, .inr (.inl (aL og))))]) [1, 2, 3, 4, 5, 6] (by decide) rfl
  have hFc := va_free (wc := [(ul, .inr (3, [.ref a1, .ref a2, .ref a3, .ref a4, .ref a5, .int (nI n)])), (a1, .inl (cL, 8, .inr (.inl (aL inn)))), (a2, .inl (cI, 8, .inl (aI pk))), (a3, .inl (cI, 8, .inl (aI ou))), (a4, .inl (cI, 64, .inl (aI ok))), (a5, .inl (cL, 64, .inr (.inl (aL og))))]) hD hS hA [1, 2, 3, 4, 5, 6] rfl
  refine va_calli (va_runV (As := [.int x1, .int x2, .long x3]) (rest := []) ⟨hx, hb, hml, hown, htg⟩ (c_Pl_addOut l dC dI cI cL cZ s.heap.size ul a1 a2 a3 a4 a5 n inn pk ou ok og x1 x2 x3 hi) (cwV 3 htg (gdV k2_59 k2_60 k2_61 k1_4 kc_Pl_addOut) rfl rfl rfl (by decide +kernel) ⟨Nat.le_of_ble_eq_true rfl, Nat.le_of_ble_eq_true rfl⟩) ⟨bk_blindW, va_recv hK hP (ci := 3) (q0 := 1) rfl rfl, fun U hU hW => ⟨rfl, nw_warm hW hN, by rw [hU], by rw [hU]; exact hPc, va_K.moved hW.alike hK, hDc.weaken (fun _ _ _ _ => trivial)⟩⟩ rfl rfl hl.1 rfl (lv_room (Nat.le_of_ble_eq_true rfl)) d_B_out_7 ⟨Nat.le_of_ble_eq_true rfl, Nat.le_of_ble_eq_true rfl⟩) hS (fun q _ h => hFc q h) hFc (fun r7 u t H1 locs ht hvm e7 hB hz1 hk1 hS => ?_)
  obtain ⟨hP1, hK1, hD1⟩ := hB
  rw [ht] at hP1
  try dsimp only at e7
  rcases e7 with ⟨ok7, rfl, rfl⟩ | ⟨no7, rfl, rfl⟩
  · obtain ⟨hP, hD⟩ := va_join (wr := [(xo, .inr (0, [.long sd, .ref up, .ref us, .ref uj, .ref ul, .ref uk, .ref ut, .ref uq, .ref uw, .ref uc]))]) (w1 := [(ul, .inr (3, [.ref a1, .ref a2, .ref a3, .ref a4, .ref a5, .int (nI n)])), (a1, .inl (cL, 8, .inr (.inl (aL inn)))), (a2, .inl (cI, 8, .inl (aI pk))), (a3, .inl (cI, 8, .inl (aI (va_up ou (tn x1) (ou (tn x1) + 1))))), (a4, .inl (cI, 64, .inl (aI (va_up ok (tn x1 * 8 + ou (tn x1)) (tn x2))))), (a5, .inl (cL, 64, .inr (.inl (aL (va_up og (tn x1 * 8 + ou (tn x1)) (tl x3))))))]) hP hD [1, 2, 3, 4, 5, 6] [0] rfl rfl (by decide) (by decide) hk1 hFc hP1 hD1
    generalize H1 = H at hP hS ⊢
    have hP : va_P (dC, dI) vwCl [(xo, .inr (0, [.long sd, .ref up, .ref us, .ref uj, .ref ul, .ref uk, .ref ut, .ref uq, .ref uw, .ref uc])), (ul, .inr (3, [.ref a1, .ref a2, .ref a3, .ref a4, .ref a5, .int (nI n)])), (a1, .inl (cL, 8, .inr (.inl (aL inn)))), (a2, .inl (cI, 8, .inl (aI pk))), (a3, .inl (cI, 8, .inl (aI (va_up ou (tn x1) (ou (tn x1) + 1))))), (a4, .inl (cI, 64, .inl (aI (va_up ok (tn x1 * 8 + ou (tn x1)) (tn x2))))), (a5, .inl (cL, 64, .inr (.inl (aL (va_up og (tn x1 * 8 + ou (tn x1)) (tl x3))))))] H := hP.sub [0, 1, 2, 3, 4, 5, 6] rfl
    have hD : va_D A [(xo, .inr (0, [.long sd, .ref up, .ref us, .ref uj, .ref ul, .ref uk, .ref ut, .ref uq, .ref uw, .ref uc])), (ul, .inr (3, [.ref a1, .ref a2, .ref a3, .ref a4, .ref a5, .int (nI n)])), (a1, .inl (cL, 8, .inr (.inl (aL inn)))), (a2, .inl (cI, 8, .inl (aI pk))), (a3, .inl (cI, 8, .inl (aI (va_up ou (tn x1) (ou (tn x1) + 1))))), (a4, .inl (cI, 64, .inl (aI (va_up ok (tn x1 * 8 + ou (tn x1)) (tn x2))))), (a5, .inl (cL, 64, .inr (.inl (aL (va_up og (tn x1 * 8 + ou (tn x1)) (tl x3))))))] := hD.sub [0, 1, 2, 3, 4, 5, 6] (by decide) rfl
    have hP9 := hP.sub (ws' := [(xo, .inr (0, [.long sd, .ref up, .ref us, .ref uj, .ref ul, .ref uk, .ref ut, .ref uq, .ref uw, .ref uc])), (ul, .inr (3, [.ref a1, .ref a2, .ref a3, .ref a4, .ref a5, .int (nI n)])), (a1, .inl (cL, 8, .inr (.inl (aL inn)))), (a2, .inl (cI, 8, .inl (aI pk))), (a3, .inl (cI, 8, .inl (aI (va_up ou (tn x1) (ou (tn x1) + 1))))), (a4, .inl (cI, 64, .inl (aI (va_up ok (tn x1 * 8 + ou (tn x1)) (tn x2))))), (a5, .inl (cL, 64, .inr (.inl (aL (va_up og (tn x1 * 8 + ou (tn x1)) (tl x3))))))]) [0, 1, 2, 3, 4, 5, 6] rfl
    have hD9 := hD.sub (ws' := [(xo, .inr (0, [.long sd, .ref up, .ref us, .ref uj, .ref ul, .ref uk, .ref ut, .ref uq, .ref uw, .ref uc])), (ul, .inr (3, [.ref a1, .ref a2, .ref a3, .ref a4, .ref a5, .int (nI n)])), (a1, .inl (cL, 8, .inr (.inl (aL inn)))), (a2, .inl (cI, 8, .inl (aI pk))), (a3, .inl (cI, 8, .inl (aI (va_up ou (tn x1) (ou (tn x1) + 1))))), (a4, .inl (cI, 64, .inl (aI (va_up ok (tn x1 * 8 + ou (tn x1)) (tn x2))))), (a5, .inl (cL, 64, .inr (.inl (aL (va_up og (tn x1 * 8 + ou (tn x1)) (tl x3))))))]) [0, 1, 2, 3, 4, 5, 6] (by decide) rfl
    exact W.iret (v := nI (ou (tn x1))) hx hb hr (fun t9 ht9 hW9 => ⟨⟨nI (ou (tn x1)), (va_up ou (tn x1) (ou (tn x1) + 1), va_up ok (tn x1 * 8 + ou (tn x1)) (tn x2), va_up og (tn x1 * 8 + ou (tn x1)) (tl x3)), rfl, Or.inl ⟨ok7, rfl, rfl⟩, by rw [ht9]; exact hP9, va_K.moved hW9.alike hK, hD9⟩, hS.F ht9⟩) hS.2.2 d_B_out_10
  · obtain ⟨hP, hD⟩ := va_join (wr := [(xo, .inr (0, [.long sd, .ref up, .ref us, .ref uj, .ref ul, .ref uk, .ref ut, .ref uq, .ref uw, .ref uc]))]) (w1 := [(ul, .inr (3, [.ref a1, .ref a2, .ref a3, .ref a4, .ref a5, .int (nI n)])), (a1, .inl (cL, 8, .inr (.inl (aL inn)))), (a2, .inl (cI, 8, .inl (aI pk))), (a3, .inl (cI, 8, .inl (aI ou))), (a4, .inl (cI, 64, .inl (aI ok))), (a5, .inl (cL, 64, .inr (.inl (aL og))))]) hP hD [1, 2, 3, 4, 5, 6] [0] rfl rfl (by decide) (by decide) hk1 hFc hP1 hD1
    generalize H1 = H at hP hS ⊢
    have hP : va_P (dC, dI) vwCl [(xo, .inr (0, [.long sd, .ref up, .ref us, .ref uj, .ref ul, .ref uk, .ref ut, .ref uq, .ref uw, .ref uc])), (ul, .inr (3, [.ref a1, .ref a2, .ref a3, .ref a4, .ref a5, .int (nI n)])), (a1, .inl (cL, 8, .inr (.inl (aL inn)))), (a2, .inl (cI, 8, .inl (aI pk))), (a3, .inl (cI, 8, .inl (aI ou))), (a4, .inl (cI, 64, .inl (aI ok))), (a5, .inl (cL, 64, .inr (.inl (aL og))))] H := hP.sub [0, 1, 2, 3, 4, 5, 6] rfl
    have hD : va_D A [(xo, .inr (0, [.long sd, .ref up, .ref us, .ref uj, .ref ul, .ref uk, .ref ut, .ref uq, .ref uw, .ref uc])), (ul, .inr (3, [.ref a1, .ref a2, .ref a3, .ref a4, .ref a5, .int (nI n)])), (a1, .inl (cL, 8, .inr (.inl (aL inn)))), (a2, .inl (cI, 8, .inl (aI pk))), (a3, .inl (cI, 8, .inl (aI ou))), (a4, .inl (cI, 64, .inl (aI ok))), (a5, .inl (cL, 64, .inr (.inl (aL og))))] := hD.sub [0, 1, 2, 3, 4, 5, 6] (by decide) rfl
    have hP9 := hP.sub (ws' := [(xo, .inr (0, [.long sd, .ref up, .ref us, .ref uj, .ref ul, .ref uk, .ref ut, .ref uq, .ref uw, .ref uc])), (ul, .inr (3, [.ref a1, .ref a2, .ref a3, .ref a4, .ref a5, .int (nI n)])), (a1, .inl (cL, 8, .inr (.inl (aL inn)))), (a2, .inl (cI, 8, .inl (aI pk))), (a3, .inl (cI, 8, .inl (aI ou))), (a4, .inl (cI, 64, .inl (aI ok))), (a5, .inl (cL, 64, .inr (.inl (aL og))))]) [0, 1, 2, 3, 4, 5, 6] rfl
    have hD9 := hD.sub (ws' := [(xo, .inr (0, [.long sd, .ref up, .ref us, .ref uj, .ref ul, .ref uk, .ref ut, .ref uq, .ref uw, .ref uc])), (ul, .inr (3, [.ref a1, .ref a2, .ref a3, .ref a4, .ref a5, .int (nI n)])), (a1, .inl (cL, 8, .inr (.inl (aL inn)))), (a2, .inl (cI, 8, .inl (aI pk))), (a3, .inl (cI, 8, .inl (aI ou))), (a4, .inl (cI, 64, .inl (aI ok))), (a5, .inl (cL, 64, .inr (.inl (aL og))))]) [0, 1, 2, 3, 4, 5, 6] (by decide) rfl
    exact W.iret (v := oI none) hx hb hr (fun t9 ht9 hW9 => ⟨⟨oI none, (ou, ok, og), rfl, Or.inr ⟨no7, rfl, rfl⟩, by rw [ht9]; exact hP9, va_K.moved hW9.alike hK, hD9⟩, hS.F ht9⟩) hS.2.2 d_B_out_10
set_option maxHeartbeats 4000000 in
set_option maxRecDepth 100000 in
theorem c_B_lacks (l : Launch) (dC : Nat → ClassId) (dI : Nat → Nat → Nat) (cI cL cZ : ClassId) (xo up us uj ul uk ut uq uw uc : Nat) (sd : Int64) (a1 a2 a3 a4 a5 n : Nat) (inn pk ou ok og : Nat → Nat) (x : Int32) (hi : plI n inn pk ou ok og) : Met l y_B_lacks ws_B_lacks { frames := 2, cells := 0, slots := 0, locals := 46 } (va_Pc [.ref xo, .int x] (rdP (dC, dI) vwCl [(cI, .int), (cL, .long), (cZ, .boolean)] [(xo, .inr (0, [.long sd, .ref up, .ref us, .ref uj, .ref ul, .ref uk, .ref ut, .ref uq, .ref uw, .ref uc])), (ul, .inr (3, [.ref a1, .ref a2, .ref a3, .ref a4, .ref a5, .int (nI n)])), (a1, .inl (cL, 8, .inr (.inl (aL inn)))), (a2, .inl (cI, 8, .inl (aI pk))), (a3, .inl (cI, 8, .inl (aI ou))), (a4, .inl (cI, 64, .inl (aI ok))), (a5, .inl (cL, 64, .inr (.inl (aL og))))])) (vp_Sl (fun r => (∃ p, p < n ∧ x = nI p ∧ r = lN (lackN inn pk ou ok og p)) ∨ (¬ inR n x ∧ r = -1))) 0 0 (fun _ => False) := by
  refine Met.ofW (cc := b_B_lacks) (maxL := 2) (ret := (some .long)) (by decide) rfl ?_
  intro pr en s m args below meth c s₁ B hml hv
  obtain ⟨rfl, hN, hP, hK⟩ := hv
  have hx := B.exec
  have hb := B.bytes
  have hr := B.returns
  have hts := atoms_spec (ws := ws_B_lacks) B.pre
  have htg : ∀ w ∈ gW, w.before _ s = true := fun w h => hts w (List.mem_cons_of_mem _ h)
  have hown : s.vm.findClass R_B = some m.cls := findClass_of_methodNamed B.named
  have hlocks := B.notSynchronized
  have hl := lv_entry ([.ref xo, .int x]) (n := 2) (Nat.le_of_ble_eq_true rfl)
  rw [lg_entry_eq]
  generalize (lg_sl ([.ref xo, .int x]) ++ List.replicate (2 - (lg_sl ([.ref xo, .int x])).length) Slot.unset).toArray = ls at hl ⊢
  have hl : lv_has ls 2 [(0, .ref xo), (1, .int x)] := hl
  have hn := hi.1
  refine lv_aload_n hx hb d_B_lacks_0 rfl (lv_at hl 0 rfl) ?_
  refine va_get (D := (dC, dI)) (ci := 0) (v := .ref ul) (C := R_B) (T := F_B) (N := 10) hx hb htg iw_B hown hK hP 0 rfl rfl 4 (by decide) (htg _ k1_161) (fun _ h9 => h9) rfl d_B_lacks_1 ?_
  refine lv_iload_n hx hb d_B_lacks_4 rfl (lv_at hl 1 rfl) ?_
  refine vp_callSi (va_runV (As := [.int x]) (rest := []) ⟨hx, hb, hml, hown, htg⟩ (c_Pl_has l dC dI cI cL cZ ul a1 a2 a3 a4 a5 n x (by omega)) (cwV 1 htg (gdV k2_72 k2_64 k2_65 k1_4 kc_Pl_has) rfl rfl rfl (by decide +kernel) ⟨Nat.le_of_ble_eq_true rfl, Nat.le_of_ble_eq_true rfl⟩) ⟨bk_blind, va_recv hK hP (ci := 3) (q0 := 1) rfl rfl, fun U hU hW => ⟨rfl, nw_warm hW hN, by rw [hU]; exact hP.sub [1] rfl, va_K.moved hW.alike hK⟩⟩ rfl rfl hl.1 rfl (lv_room (Nat.le_of_ble_eq_true rfl)) d_B_lacks_5 ⟨Nat.le_of_ble_eq_true rfl, Nat.le_of_ble_eq_true rfl⟩).run (fun r5 e5 => ?_)
  rcases e5 with ⟨⟨j5, hj5, hx5⟩, rfl⟩ | ⟨n5, rfl⟩
  · refine bk_if_eq (a := 1) (tgt := 22) hx hb (by omega) d_B_lacks_8 (by decide) (fun c8 => absurd c8 (by decide)) (fun c8 => ?_)
    refine lv_aload_n hx hb d_B_lacks_11 rfl (lv_at hl 0 rfl) ?_
    refine va_get (D := (dC, dI)) (ci := 0) (v := .ref ul) (C := R_B) (T := F_B) (N := 10) hx hb htg iw_B hown hK hP 0 rfl rfl 4 (by decide) (htg _ k1_161) (fun _ h9 => h9) rfl d_B_lacks_12 ?_
    refine lv_iload_n hx hb d_B_lacks_15 rfl (lv_at hl 1 rfl) ?_
    refine bk_topi (y := nI j5) hx5 ?_
    refine vp_callSl (va_runV (As := [.int (nI j5)]) (rest := []) ⟨hx, hb, hml, hown, htg⟩ (c_Pl_lackOf l dC dI cI cL cZ ul a1 a2 a3 a4 a5 n inn pk ou ok og j5 hi hj5) (cwV 1 htg (gdV k2_73 k2_74 k2_75 k1_4 kc_Pl_lackOf) rfl rfl rfl (by decide +kernel) ⟨Nat.le_of_ble_eq_true rfl, Nat.le_of_ble_eq_true rfl⟩) ⟨bk_blind, va_recv hK hP (ci := 3) (q0 := 1) rfl rfl, fun U hU hW => ⟨rfl, nw_warm hW hN, by rw [hU]; exact hP.sub [1, 2, 3, 4, 5, 6] rfl, va_K.moved hW.alike hK⟩⟩ rfl rfl hl.1 rfl (lv_room (Nat.le_of_ble_eq_true rfl)) d_B_lacks_16 ⟨Nat.le_of_ble_eq_true rfl, Nat.le_of_ble_eq_true rfl⟩).run (fun r16 e16 => ?_)
    subst e16
    refine lv_goto (tgt := 25) hx hb d_B_lacks_19 (by decide) ?_
    exact W.lret (v := lN (lackN inn pk ou ok og j5)) hx hb hr (fun t9 ht9 hW9 => ⟨lN (lackN inn pk ou ok og j5), rfl, Or.inl ⟨j5, hj5, hx5, rfl⟩, ht9⟩) (fun q h => nomatch h) d_B_lacks_25
  · refine bk_if_eq (a := 0) (tgt := 22) hx hb (by omega) d_B_lacks_8 (by decide) (fun c8 => ?_) (fun c8 => absurd c8 (by decide))
    refine lv_ldc2 (own := R_B) (v := (-1)) hx hb hown (htg _ k2_86) d_B_lacks_22 ?_
    exact W.lret (v := (-1)) hx hb hr (fun t9 ht9 hW9 => ⟨(-1), rfl, Or.inr ⟨n5, rfl⟩, ht9⟩) (fun q h => nomatch h) d_B_lacks_25
set_option maxHeartbeats 4000000 in
set_option maxRecDepth 100000 in
theorem c_B_nowhere (l : Launch) (dC : Nat → ClassId) (dI : Nat → Nat → Nat) (cI cL cZ : ClassId) (xo up us uj ul uk ut uq uw uc : Nat) (sd : Int64) (a1 a2 a3 a4 a5 n : Nat) (inn pk ou ok og : Nat → Nat) (x y : Int32) (hi : plI n inn pk ou ok og) : Met l y_B_nowhere ws_B_nowhere { frames := 3, cells := 0, slots := 0, locals := 73 } (va_Pc [.ref xo, .int x, .int y] (rdP (dC, dI) vwCl [(cI, .int), (cL, .long), (cZ, .boolean)] [(xo, .inr (0, [.long sd, .ref up, .ref us, .ref uj, .ref ul, .ref uk, .ref ut, .ref uq, .ref uw, .ref uc])), (ul, .inr (3, [.ref a1, .ref a2, .ref a3, .ref a4, .ref a5, .int (nI n)])), (a1, .inl (cL, 8, .inr (.inl (aL inn)))), (a2, .inl (cI, 8, .inl (aI pk))), (a3, .inl (cI, 8, .inl (aI ou))), (a4, .inl (cI, 64, .inl (aI ok))), (a5, .inl (cL, 64, .inr (.inl (aL og))))])) (vp_Si (fun r => (∃ p, p < n ∧ x = nI p ∧ ∃ o, r = oI o ∧ kth (fun i => (lsR inn pk ou ok og p).testBit i) 8 y o) ∨ (¬ inR n x ∧ r = oI none))) 0 0 (fun _ => False) := by
  refine Met.ofW (cc := b_B_nowhere) (maxL := 3) (ret := (some .int)) (by decide) rfl ?_
  intro pr en s m args below meth c s₁ B hml hv
  obtain ⟨rfl, hN, hP, hK⟩ := hv
  have hx := B.exec
  have hb := B.bytes
  have hr := B.returns
  have hts := atoms_spec (ws := ws_B_nowhere) B.pre
  have htg : ∀ w ∈ gW, w.before _ s = true := fun w h => hts w (List.mem_cons_of_mem _ h)
  have hown : s.vm.findClass R_B = some m.cls := findClass_of_methodNamed B.named
  have hlocks := B.notSynchronized
  have hl := lv_entry ([.ref xo, .int x, .int y]) (n := 3) (Nat.le_of_ble_eq_true rfl)
  rw [lg_entry_eq]
  generalize (lg_sl ([.ref xo, .int x, .int y]) ++ List.replicate (3 - (lg_sl ([.ref xo, .int x, .int y])).length) Slot.unset).toArray = ls at hl ⊢
  have hl : lv_has ls 3 [(0, .ref xo), (1, .int x), (2, .int y)] := hl
  have hn := hi.1
  refine lv_aload_n hx hb d_B_nowhere_0 rfl (lv_at hl 0 rfl) ?_
  refine va_get (D := (dC, dI)) (ci := 0) (v := .ref ul) (C := R_B) (T := F_B) (N := 10) hx hb htg iw_B hown hK hP 0 rfl rfl 4 (by decide) (htg _ k1_161) (fun _ h9 => h9) rfl d_B_nowhere_1 ?_
  refine lv_iload_n hx hb d_B_nowhere_4 rfl (lv_at hl 1 rfl) ?_
  refine vp_callSi (va_runV (As := [.int x]) (rest := []) ⟨hx, hb, hml, hown, htg⟩ (c_Pl_has l dC dI cI cL cZ ul a1 a2 a3 a4 a5 n x (by omega)) (cwV 1 htg (gdV k2_72 k2_64 k2_65 k1_4 kc_Pl_has) rfl rfl rfl (by decide +kernel) ⟨Nat.le_of_ble_eq_true rfl, Nat.le_of_ble_eq_true rfl⟩) ⟨bk_blind, va_recv hK hP (ci := 3) (q0 := 1) rfl rfl, fun U hU hW => ⟨rfl, nw_warm hW hN, by rw [hU]; exact hP.sub [1] rfl, va_K.moved hW.alike hK⟩⟩ rfl rfl hl.1 rfl (lv_room (Nat.le_of_ble_eq_true rfl)) d_B_nowhere_5 ⟨Nat.le_of_ble_eq_true rfl, Nat.le_of_ble_eq_true rfl⟩).run (fun r5 e5 => ?_)
  rcases e5 with ⟨⟨j5, hj5, hx5⟩, rfl⟩ | ⟨n5, rfl⟩
  · refine bk_if_eq (a := 1) (tgt := 26) hx hb (by omega) d_B_nowhere_8 (by decide) (fun c8 => absurd c8 (by decide)) (fun c8 => ?_)
    refine lv_aload_n hx hb d_B_nowhere_11 rfl (lv_at hl 0 rfl) ?_
    refine va_get (D := (dC, dI)) (ci := 0) (v := .ref ul) (C := R_B) (T := F_B) (N := 10) hx hb htg iw_B hown hK hP 0 rfl rfl 4 (by decide) (htg _ k1_161) (fun _ h9 => h9) rfl d_B_nowhere_12 ?_
    refine lv_iload_n hx hb d_B_nowhere_15 rfl (lv_at hl 1 rfl) ?_
    refine bk_topi (y := nI j5) hx5 ?_
    refine vp_callSi (va_runV (As := [.int (nI j5)]) (rest := []) ⟨hx, hb, hml, hown, htg⟩ (c_Pl_leastSet l dC dI cI cL cZ ul a1 a2 a3 a4 a5 n inn pk ou ok og j5 hi hj5) (cwV 1 htg (gdV k2_91 k2_92 k2_93 k1_4 kc_Pl_leastSet) rfl rfl rfl (by decide +kernel) ⟨Nat.le_of_ble_eq_true rfl, Nat.le_of_ble_eq_true rfl⟩) ⟨bk_blind, va_recv hK hP (ci := 3) (q0 := 1) rfl rfl, fun U hU hW => ⟨rfl, nw_warm hW hN, by rw [hU]; exact hP.sub [1, 2, 3, 4, 5, 6] rfl, va_K.moved hW.alike hK⟩⟩ rfl rfl hl.1 rfl (lv_room (Nat.le_of_ble_eq_true rfl)) d_B_nowhere_16 ⟨Nat.le_of_ble_eq_true rfl, Nat.le_of_ble_eq_true rfl⟩).run (fun r16 e16 => ?_)
    subst e16
    refine lv_iload_n hx hb d_B_nowhere_19 rfl (lv_at hl 2 rfl) ?_
    refine vp_callSi (va_runS (As := [.int (nI (lsR inn pk ou ok og j5)), .int y]) (rest := []) ⟨hx, hb, hml, hown, htg⟩ (c_B_bitAt l dC dI cI cL cZ (lsR inn pk ou ok og j5) y (lsR_lt (hi.2.1 j5 hj5).2.2.1)) (va_cwS 2 htg (gdS k2_105 k2_106 k1_1 kc_B_bitAt) rfl rfl rfl (by decide +kernel) ⟨Nat.le_of_ble_eq_true rfl, Nat.le_of_ble_eq_true rfl⟩) ⟨bk_blind0, fun U hU hW => ⟨rfl, trivial⟩⟩ rfl rfl hl.1 rfl (lv_room (Nat.le_of_ble_eq_true rfl)) d_B_nowhere_20 ⟨Nat.le_of_ble_eq_true rfl, Nat.le_of_ble_eq_true rfl⟩).run (fun r20 e20 => ?_)
    refine lv_goto (tgt := 27) hx hb d_B_nowhere_23 (by decide) ?_
    exact W.iret (v := r20) hx hb hr (fun t9 ht9 hW9 => ⟨r20, rfl, Or.inl ⟨j5, hj5, hx5, e20⟩, ht9⟩) (fun q h => nomatch h) d_B_nowhere_27
  · refine bk_if_eq (a := 0) (tgt := 26) hx hb (by omega) d_B_nowhere_8 (by decide) (fun c8 => ?_) (fun c8 => absurd c8 (by decide))
    refine lv_iconst (v := oI none) hx hb d_B_nowhere_26 (by decide +kernel) ?_
    exact W.iret (v := oI none) hx hb hr (fun t9 ht9 hW9 => ⟨oI none, rfl, Or.inr ⟨n5, rfl⟩, ht9⟩) (fun q h => nomatch h) d_B_nowhere_27
set_option maxHeartbeats 4000000 in
set_option maxRecDepth 100000 in
theorem c_B_risk (l : Launch) (dC : Nat → ClassId) (dI : Nat → Nat → Nat) (cI cL cZ : ClassId) (sz : Nat) (xo up us uj ul uk ut uq uw uc : Nat) (sd : Int64) (a1 a2 : Nat) (wt : Nat → Nat) (x1 x2 x3 : Int32) : Met l y_B_risk ws_B_risk { frames := 2, cells := 0, slots := 0, locals := 43 } (va_Pc [.ref xo, .int x1, .int x2, .int x3] (wrP (dC, dI) vwCl [(cI, .int), (cL, .long), (cZ, .boolean)] [(xo, .inr (0, [.long sd, .ref up, .ref us, .ref uj, .ref ul, .ref uk, .ref ut, .ref uq, .ref uw, .ref uc])), (uk, .inr (4, [.ref a1, .ref a2])), (a1, .inl (cI, 10, .inl (aI wt)))] sz)) (va_Qi (fun (r : Int32) (u : (Nat → Nat) × Nat) => (setOk x1 x2 x3 ∧ r = nI 1 ∧ u = (va_up wt (tn x1) (2520 / tn x3 * tn x2), 0)) ∨ (¬ setOk x1 x2 x3 ∧ r = nI 0 ∧ u = (wt, 0))) (fun (u : (Nat → Nat) × Nat) => wrQ (dC, dI) vwCl [(cI, .int), (cL, .long), (cZ, .boolean)] (va_A [(xo, .inr (0, [.long sd, .ref up, .ref us, .ref uj, .ref ul, .ref uk, .ref ut, .ref uq, .ref uw, .ref uc])), (uk, .inr (4, [.ref a1, .ref a2])), (a1, .inl (cI, 10, .inl (aI wt)))] sz) [(xo, .inr (0, [.long sd, .ref up, .ref us, .ref uj, .ref ul, .ref uk, .ref ut, .ref uq, .ref uw, .ref uc])), (uk, .inr (4, [.ref a1, .ref a2])), (a1, .inl (cI, 10, .inl (aI u.1)))]) (va_A [(xo, .inr (0, [.long sd, .ref up, .ref us, .ref uj, .ref ul, .ref uk, .ref ut, .ref uq, .ref uw, .ref uc])), (uk, .inr (4, [.ref a1, .ref a2])), (a1, .inl (cI, 10, .inl (aI wt)))] sz)) 0 0 (va_A [(xo, .inr (0, [.long sd, .ref up, .ref us, .ref uj, .ref ul, .ref uk, .ref ut, .ref uq, .ref uw, .ref uc])), (uk, .inr (4, [.ref a1, .ref a2])), (a1, .inl (cI, 10, .inl (aI wt)))] sz) := by
  refine Met.ofW (cc := b_B_risk) (maxL := 4) (ret := (some .boolean)) (by decide) rfl ?_
  intro pr en s m args below meth c s₁ B hml hv
  obtain ⟨rfl, hN, hsz, hP, hK, hD0⟩ := hv
  have hx := B.exec
  have hb := B.bytes
  have hr := B.returns
  have hts := atoms_spec (ws := ws_B_risk) B.pre
  have htg : ∀ w ∈ gW, w.before _ s = true := fun w h => hts w (List.mem_cons_of_mem _ h)
  have hown : s.vm.findClass R_B = some m.cls := findClass_of_methodNamed B.named
  have hlocks := B.notSynchronized
  subst hsz
  have hD := hD0.self (sz := s.heap.size)
  generalize hAe : va_A [(xo, .inr (0, [.long sd, .ref up, .ref us, .ref uj, .ref ul, .ref uk, .ref ut, .ref uq, .ref uw, .ref uc])), (uk, .inr (4, [.ref a1, .ref a2])), (a1, .inl (cI, 10, .inl (aI wt)))] s.heap.size = A at hD ⊢
  have hA : ∀ q : Nat, s.heap.size ≤ q → A q := fun q h => by rw [← hAe]; exact Or.inr h
  have hS : va_S A s.heap s.heap [] := va_S.rf
  have hP : va_P (dC, dI) vwCl [(xo, .inr (0, [.long sd, .ref up, .ref us, .ref uj, .ref ul, .ref uk, .ref ut, .ref uq, .ref uw, .ref uc])), (uk, .inr (4, [.ref a1, .ref a2])), (a1, .inl (cI, 10, .inl (aI wt)))] s.heap := hP
  have hl := lv_entry ([.ref xo, .int x1, .int x2, .int x3]) (n := 4) (Nat.le_of_ble_eq_true rfl)
  rw [lg_entry_eq]
  generalize (lg_sl ([.ref xo, .int x1, .int x2, .int x3]) ++ List.replicate (4 - (lg_sl ([.ref xo, .int x1, .int x2, .int x3])).length) Slot.unset).toArray = ls at hl ⊢
  have hl : lv_has ls 4 [(0, .ref xo), (1, .int x1), (2, .int x2), (3, .int x3)] := hl
  refine lv_aload_n hx hb d_B_risk_0 rfl (lv_at hl 0 rfl) ?_
  refine va_get (D := (dC, dI)) (ci := 0) (v := .ref uk) (C := R_B) (T := F_B) (N := 10) hx hb htg iw_B hown hK hP 0 rfl rfl 5 (by decide) (htg _ k1_162) (fun _ h9 => h9) rfl d_B_risk_1 ?_
  refine lv_iload_n hx hb d_B_risk_4 rfl (lv_at hl 1 rfl) ?_
  refine lv_iload_n hx hb d_B_risk_5 rfl (lv_at hl 2 rfl) ?_
  refine lv_iload_n hx hb d_B_risk_6 rfl (lv_at hl 3 rfl) ?_
  have hPc := hP.sub (ws' := [(uk, .inr (4, [.ref a1, .ref a2])), (a1, .inl (cI, 10, .inl (aI wt)))]) [1, 2] rfl
  have hDc := hD.sub (ws' := [(uk, .inr (4, [.ref a1, .ref a2])), (a1, .inl (cI, 10, .inl (aI wt)))]) [1, 2] (by decide) rfl
  have hFc := va_free (wc := [(uk, .inr (4, [.ref a1, .ref a2])), (a1, .inl (cI, 10, .inl (aI wt)))]) hD hS hA [1, 2] rfl
  refine va_calli (va_runV (As := [.int x1, .int x2, .int x3]) (rest := []) ⟨hx, hb, hml, hown, htg⟩ (c_Ri_set l dC dI cI cL cZ s.heap.size uk a1 a2 wt x1 x2 x3 ) (cwV 3 htg (gdV k2_112 k2_113 k2_114 k1_5 kc_Ri_set) rfl rfl rfl (by decide +kernel) ⟨Nat.le_of_ble_eq_true rfl, Nat.le_of_ble_eq_true rfl⟩) ⟨bk_blindW, va_recv hK hP (ci := 4) (q0 := 1) rfl rfl, fun U hU hW => ⟨rfl, nw_warm hW hN, by rw [hU], by rw [hU]; exact hPc, va_K.moved hW.alike hK, hDc.weaken (fun _ _ _ _ => trivial)⟩⟩ rfl rfl hl.1 rfl (lv_room (Nat.le_of_ble_eq_true rfl)) d_B_risk_7 ⟨Nat.le_of_ble_eq_true rfl, Nat.le_of_ble_eq_true rfl⟩) hS (fun q _ h => hFc q h) hFc (fun r7 u t H1 locs ht hvm e7 hB hz1 hk1 hS => ?_)
  obtain ⟨hP1, hK1, hD1⟩ := hB
  rw [ht] at hP1
  try dsimp only at e7
  rcases e7 with ⟨ok7, rfl, rfl⟩ | ⟨no7, rfl, rfl⟩
  · obtain ⟨hP, hD⟩ := va_join (wr := [(xo, .inr (0, [.long sd, .ref up, .ref us, .ref uj, .ref ul, .ref uk, .ref ut, .ref uq, .ref uw, .ref uc]))]) (w1 := [(uk, .inr (4, [.ref a1, .ref a2])), (a1, .inl (cI, 10, .inl (aI (va_up wt (tn x1) (2520 / tn x3 * tn x2)))))]) hP hD [1, 2] [0] rfl rfl (by decide) (by decide) hk1 hFc hP1 hD1
    generalize H1 = H at hP hS ⊢
    have hP : va_P (dC, dI) vwCl [(xo, .inr (0, [.long sd, .ref up, .ref us, .ref uj, .ref ul, .ref uk, .ref ut, .ref uq, .ref uw, .ref uc])), (uk, .inr (4, [.ref a1, .ref a2])), (a1, .inl (cI, 10, .inl (aI (va_up wt (tn x1) (2520 / tn x3 * tn x2)))))] H := hP.sub [0, 1, 2] rfl
    have hD : va_D A [(xo, .inr (0, [.long sd, .ref up, .ref us, .ref uj, .ref ul, .ref uk, .ref ut, .ref uq, .ref uw, .ref uc])), (uk, .inr (4, [.ref a1, .ref a2])), (a1, .inl (cI, 10, .inl (aI (va_up wt (tn x1) (2520 / tn x3 * tn x2)))))] := hD.sub [0, 1, 2] (by decide) rfl
    have hP9 := hP.sub (ws' := [(xo, .inr (0, [.long sd, .ref up, .ref us, .ref uj, .ref ul, .ref uk, .ref ut, .ref uq, .ref uw, .ref uc])), (uk, .inr (4, [.ref a1, .ref a2])), (a1, .inl (cI, 10, .inl (aI (va_up wt (tn x1) (2520 / tn x3 * tn x2)))))]) [0, 1, 2] rfl
    have hD9 := hD.sub (ws' := [(xo, .inr (0, [.long sd, .ref up, .ref us, .ref uj, .ref ul, .ref uk, .ref ut, .ref uq, .ref uw, .ref uc])), (uk, .inr (4, [.ref a1, .ref a2])), (a1, .inl (cI, 10, .inl (aI (va_up wt (tn x1) (2520 / tn x3 * tn x2)))))]) [0, 1, 2] (by decide) rfl
    exact W.zret (v := nI 1) (ty := .boolean) hx hb hr rfl (fun t9 ht9 hW9 => ⟨⟨nI 1, (va_up wt (tn x1) (2520 / tn x3 * tn x2), 0), rfl, Or.inl ⟨ok7, rfl, rfl⟩, by rw [ht9]; exact hP9, va_K.moved hW9.alike hK, hD9⟩, hS.F ht9⟩) hS.2.2 d_B_risk_10
  · obtain ⟨hP, hD⟩ := va_join (wr := [(xo, .inr (0, [.long sd, .ref up, .ref us, .ref uj, .ref ul, .ref uk, .ref ut, .ref uq, .ref uw, .ref uc]))]) (w1 := [(uk, .inr (4, [.ref a1, .ref a2])), (a1, .inl (cI, 10, .inl (aI wt)))]) hP hD [1, 2] [0] rfl rfl (by decide) (by decide) hk1 hFc hP1 hD1
    generalize H1 = H at hP hS ⊢
    have hP : va_P (dC, dI) vwCl [(xo, .inr (0, [.long sd, .ref up, .ref us, .ref uj, .ref ul, .ref uk, .ref ut, .ref uq, .ref uw, .ref uc])), (uk, .inr (4, [.ref a1, .ref a2])), (a1, .inl (cI, 10, .inl (aI wt)))] H := hP.sub [0, 1, 2] rfl
    have hD : va_D A [(xo, .inr (0, [.long sd, .ref up, .ref us, .ref uj, .ref ul, .ref uk, .ref ut, .ref uq, .ref uw, .ref uc])), (uk, .inr (4, [.ref a1, .ref a2])), (a1, .inl (cI, 10, .inl (aI wt)))] := hD.sub [0, 1, 2] (by decide) rfl
    have hP9 := hP.sub (ws' := [(xo, .inr (0, [.long sd, .ref up, .ref us, .ref uj, .ref ul, .ref uk, .ref ut, .ref uq, .ref uw, .ref uc])), (uk, .inr (4, [.ref a1, .ref a2])), (a1, .inl (cI, 10, .inl (aI wt)))]) [0, 1, 2] rfl
    have hD9 := hD.sub (ws' := [(xo, .inr (0, [.long sd, .ref up, .ref us, .ref uj, .ref ul, .ref uk, .ref ut, .ref uq, .ref uw, .ref uc])), (uk, .inr (4, [.ref a1, .ref a2])), (a1, .inl (cI, 10, .inl (aI wt)))]) [0, 1, 2] (by decide) rfl
    exact W.zret (v := nI 0) (ty := .boolean) hx hb hr rfl (fun t9 ht9 hW9 => ⟨⟨nI 0, (wt, 0), rfl, Or.inr ⟨no7, rfl, rfl⟩, by rw [ht9]; exact hP9, va_K.moved hW9.alike hK, hD9⟩, hS.F ht9⟩) hS.2.2 d_B_risk_10
set_option maxHeartbeats 4000000 in
set_option maxRecDepth 100000 in
theorem c_B_draw (l : Launch) (dC : Nat → ClassId) (dI : Nat → Nat → Nat) (cI cL cZ : ClassId) (sz : Nat) (xo up us uj ul uk ut uq uw uc : Nat) (sd : Int64) (a1 a2 : Nat) (wt wl : Nat → Nat) (b1 b2 b3 b4 n : Nat) (sh : Nat → Nat) (t1 c0 as0 : Nat) (tk : Nat → Nat) (x : Int32) (hn : n ≤ 30) (hsh : ∀ j, j < n → sh j < 10) (hwt : ∀ j, j < 10 → wt j ≤ 2520) : Met l y_B_draw ws_B_draw { frames := 2, cells := 0, slots := 0, locals := 54 } (va_Pc [.ref xo, .int x] (wrP (dC, dI) vwCl [(cI, .int), (cL, .long), (cZ, .boolean)] [(xo, .inr (0, [.long sd, .ref up, .ref us, .ref uj, .ref ul, .ref uk, .ref ut, .ref uq, .ref uw, .ref uc])), (uk, .inr (4, [.ref a1, .ref a2])), (a1, .inl (cI, 10, .inl (aI wt))), (a2, .inl (cI, 30, .inl (aI wl))), (up, .inr (1, [.ref b1, .ref b2, .ref b3, .ref b4, .int (nI n)])), (b1, .inl (cI, 30, .inl (aI sh))), (ut, .inr (5, [.ref t1, .int (nI c0), .int (nI as0)])), (t1, .inl (cI, 30, .inl (aI tk)))] sz)) (va_Qi (fun (r : Int32) (u : (Nat → Nat) × Nat × (Nat → Nat) × Nat) => (∃ N, N ≤ n ∧ x = nI N ∧ r = nI u.2.1 ∧ u.2.2.2 = N ∧ isDraw n (fun j => wt (sh j)) sd N u.2.1 ∧ ∀ j, j < u.2.1 → u.2.2.1 j = pkD n (fun j => wt (sh j)) sd j ∧ u.2.2.1 j < n) ∨ (¬ inR (n + 1) x ∧ r = oI none ∧ u = (wl, c0, tk, as0))) (fun (u : (Nat → Nat) × Nat × (Nat → Nat) × Nat) => wrQ (dC, dI) vwCl [(cI, .int), (cL, .long), (cZ, .boolean)] (va_A [(xo, .inr (0, [.long sd, .ref up, .ref us, .ref uj, .ref ul, .ref uk, .ref ut, .ref uq, .ref uw, .ref uc])), (uk, .inr (4, [.ref a1, .ref a2])), (a1, .inl (cI, 10, .inl (aI wt))), (a2, .inl (cI, 30, .inl (aI wl))), (up, .inr (1, [.ref b1, .ref b2, .ref b3, .ref b4, .int (nI n)])), (b1, .inl (cI, 30, .inl (aI sh))), (ut, .inr (5, [.ref t1, .int (nI c0), .int (nI as0)])), (t1, .inl (cI, 30, .inl (aI tk)))] sz) [(xo, .inr (0, [.long sd, .ref up, .ref us, .ref uj, .ref ul, .ref uk, .ref ut, .ref uq, .ref uw, .ref uc])), (uk, .inr (4, [.ref a1, .ref a2])), (a1, .inl (cI, 10, .inl (aI wt))), (a2, .inl (cI, 30, .inl (aI u.1))), (up, .inr (1, [.ref b1, .ref b2, .ref b3, .ref b4, .int (nI n)])), (b1, .inl (cI, 30, .inl (aI sh))), (ut, .inr (5, [.ref t1, .int (nI u.2.1), .int (nI u.2.2.2)])), (t1, .inl (cI, 30, .inl (aI u.2.2.1)))]) (va_A [(xo, .inr (0, [.long sd, .ref up, .ref us, .ref uj, .ref ul, .ref uk, .ref ut, .ref uq, .ref uw, .ref uc])), (uk, .inr (4, [.ref a1, .ref a2])), (a1, .inl (cI, 10, .inl (aI wt))), (a2, .inl (cI, 30, .inl (aI wl))), (up, .inr (1, [.ref b1, .ref b2, .ref b3, .ref b4, .int (nI n)])), (b1, .inl (cI, 30, .inl (aI sh))), (ut, .inr (5, [.ref t1, .int (nI c0), .int (nI as0)])), (t1, .inl (cI, 30, .inl (aI tk)))] sz)) 0 0 (va_A [(xo, .inr (0, [.long sd, .ref up, .ref us, .ref uj, .ref ul, .ref uk, .ref ut, .ref uq, .ref uw, .ref uc])), (uk, .inr (4, [.ref a1, .ref a2])), (a1, .inl (cI, 10, .inl (aI wt))), (a2, .inl (cI, 30, .inl (aI wl))), (up, .inr (1, [.ref b1, .ref b2, .ref b3, .ref b4, .int (nI n)])), (b1, .inl (cI, 30, .inl (aI sh))), (ut, .inr (5, [.ref t1, .int (nI c0), .int (nI as0)])), (t1, .inl (cI, 30, .inl (aI tk)))] sz) := by
  refine Met.ofW (cc := b_B_draw) (maxL := 2) (ret := (some .int)) (by decide) rfl ?_
  intro pr en s m args below meth c s₁ B hml hv
  obtain ⟨rfl, hN, hsz, hP, hK, hD0⟩ := hv
  have hx := B.exec
  have hb := B.bytes
  have hr := B.returns
  have hts := atoms_spec (ws := ws_B_draw) B.pre
  have htg : ∀ w ∈ gW, w.before _ s = true := fun w h => hts w (List.mem_cons_of_mem _ h)
  have hown : s.vm.findClass R_B = some m.cls := findClass_of_methodNamed B.named
  have hlocks := B.notSynchronized
  subst hsz
  have hD := hD0.self (sz := s.heap.size)
  generalize hAe : va_A [(xo, .inr (0, [.long sd, .ref up, .ref us, .ref uj, .ref ul, .ref uk, .ref ut, .ref uq, .ref uw, .ref uc])), (uk, .inr (4, [.ref a1, .ref a2])), (a1, .inl (cI, 10, .inl (aI wt))), (a2, .inl (cI, 30, .inl (aI wl))), (up, .inr (1, [.ref b1, .ref b2, .ref b3, .ref b4, .int (nI n)])), (b1, .inl (cI, 30, .inl (aI sh))), (ut, .inr (5, [.ref t1, .int (nI c0), .int (nI as0)])), (t1, .inl (cI, 30, .inl (aI tk)))] s.heap.size = A at hD ⊢
  have hA : ∀ q : Nat, s.heap.size ≤ q → A q := fun q h => by rw [← hAe]; exact Or.inr h
  have hS : va_S A s.heap s.heap [] := va_S.rf
  have hP : va_P (dC, dI) vwCl [(xo, .inr (0, [.long sd, .ref up, .ref us, .ref uj, .ref ul, .ref uk, .ref ut, .ref uq, .ref uw, .ref uc])), (uk, .inr (4, [.ref a1, .ref a2])), (a1, .inl (cI, 10, .inl (aI wt))), (a2, .inl (cI, 30, .inl (aI wl))), (up, .inr (1, [.ref b1, .ref b2, .ref b3, .ref b4, .int (nI n)])), (b1, .inl (cI, 30, .inl (aI sh))), (ut, .inr (5, [.ref t1, .int (nI c0), .int (nI as0)])), (t1, .inl (cI, 30, .inl (aI tk)))] s.heap := hP
  have hl := lv_entry ([.ref xo, .int x]) (n := 2) (Nat.le_of_ble_eq_true rfl)
  rw [lg_entry_eq]
  generalize (lg_sl ([.ref xo, .int x]) ++ List.replicate (2 - (lg_sl ([.ref xo, .int x])).length) Slot.unset).toArray = ls at hl ⊢
  have hl : lv_has ls 2 [(0, .ref xo), (1, .int x)] := hl
  refine lv_iload_n hx hb d_B_draw_0 rfl (lv_at hl 1 rfl) ?_
  refine lv_if_lt (x := x) (tgt := 15) hx hb d_B_draw_1 (by decide) (fun c1 => ?_) (fun c1 => ?_)
  · refine lv_iconst (v := oI none) hx hb d_B_draw_15 (by decide +kernel) ?_
    have hP9 := hP.sub (ws' := [(xo, .inr (0, [.long sd, .ref up, .ref us, .ref uj, .ref ul, .ref uk, .ref ut, .ref uq, .ref uw, .ref uc])), (uk, .inr (4, [.ref a1, .ref a2])), (a1, .inl (cI, 10, .inl (aI wt))), (a2, .inl (cI, 30, .inl (aI wl))), (up, .inr (1, [.ref b1, .ref b2, .ref b3, .ref b4, .int (nI n)])), (b1, .inl (cI, 30, .inl (aI sh))), (ut, .inr (5, [.ref t1, .int (nI c0), .int (nI as0)])), (t1, .inl (cI, 30, .inl (aI tk)))]) [0, 1, 2, 3, 4, 5, 6, 7] rfl
    have hD9 := hD.sub (ws' := [(xo, .inr (0, [.long sd, .ref up, .ref us, .ref uj, .ref ul, .ref uk, .ref ut, .ref uq, .ref uw, .ref uc])), (uk, .inr (4, [.ref a1, .ref a2])), (a1, .inl (cI, 10, .inl (aI wt))), (a2, .inl (cI, 30, .inl (aI wl))), (up, .inr (1, [.ref b1, .ref b2, .ref b3, .ref b4, .int (nI n)])), (b1, .inl (cI, 30, .inl (aI sh))), (ut, .inr (5, [.ref t1, .int (nI c0), .int (nI as0)])), (t1, .inl (cI, 30, .inl (aI tk)))]) [0, 1, 2, 3, 4, 5, 6, 7] (by decide) rfl
    exact W.iret (v := oI none) hx hb hr (fun t9 ht9 hW9 => ⟨⟨oI none, (wl, c0, tk, as0), rfl, Or.inr ⟨by first | exact inR_neg (by omega) c1 | exact (fun z9 => by obtain ⟨q, uq, e⟩ := z9; exact no_gt e (by omega) (by omega) (by omega) (bk_nle.mp c12)), rfl, rfl⟩, by rw [ht9]; exact hP9, va_K.moved hW9.alike hK, hD9⟩, hS.F ht9⟩) hS.2.2 d_B_draw_16
  · refine lv_iload_n hx hb d_B_draw_4 rfl (lv_at hl 1 rfl) ?_
    refine lv_aload_n hx hb d_B_draw_5 rfl (lv_at hl 0 rfl) ?_
    refine va_get (D := (dC, dI)) (ci := 0) (v := .ref up) (C := R_B) (T := F_B) (N := 10) hx hb htg iw_B hown hK hP 0 rfl rfl 1 (by decide) (htg _ k1_158) (fun _ h9 => h9) rfl d_B_draw_6 ?_
    refine va_get (D := (dC, dI)) (ci := 1) (v := .int (nI n)) (C := R_Bk) (T := F_Bk) (N := 5) hx hb htg iw_Bk hown hK hP 4 rfl rfl 4 (by decide) (htg _ k1_42) (fun _ h9 => h9) rfl d_B_draw_9 ?_
    refine lv_icmp_le (x := x) (y := nI n) (tgt := 17) hx hb d_B_draw_12 (by decide) (fun c12 => ?_) (fun c12 => ?_)
    · obtain ⟨N, hN1, hxN⟩ := le_nI c1 c12 (by omega)
      refine lv_aload_n hx hb d_B_draw_17 rfl (lv_at hl 0 rfl) ?_
      refine va_get (D := (dC, dI)) (ci := 0) (v := .ref uk) (C := R_B) (T := F_B) (N := 10) hx hb htg iw_B hown hK hP 0 rfl rfl 5 (by decide) (htg _ k1_162) (fun _ h9 => h9) rfl d_B_draw_18 ?_
      refine lv_aload_n hx hb d_B_draw_21 rfl (lv_at hl 0 rfl) ?_
      refine va_get (D := (dC, dI)) (ci := 0) (v := .ref up) (C := R_B) (T := F_B) (N := 10) hx hb htg iw_B hown hK hP 0 rfl rfl 1 (by decide) (htg _ k1_158) (fun _ h9 => h9) rfl d_B_draw_22 ?_
      refine lv_aload_n hx hb d_B_draw_25 rfl (lv_at hl 0 rfl) ?_
      refine va_get (D := (dC, dI)) (ci := 0) (v := .long sd) (C := R_B) (T := F_B) (N := 10) hx hb htg iw_B hown hK hP 0 rfl rfl 0 (by decide) (htg _ k1_157) (fun _ h9 => h9) rfl d_B_draw_26 ?_
      refine lv_iload_n hx hb d_B_draw_29 rfl (lv_at hl 1 rfl) ?_
      refine bk_topi (y := nI N) hxN ?_
      refine lv_aload_n hx hb d_B_draw_30 rfl (lv_at hl 0 rfl) ?_
      refine va_get (D := (dC, dI)) (ci := 0) (v := .ref ut) (C := R_B) (T := F_B) (N := 10) hx hb htg iw_B hown hK hP 0 rfl rfl 6 (by decide) (htg _ k1_163) (fun _ h9 => h9) rfl d_B_draw_31 ?_
      have hPc := hP.sub (ws' := [(uk, .inr (4, [.ref a1, .ref a2])), (a1, .inl (cI, 10, .inl (aI wt))), (a2, .inl (cI, 30, .inl (aI wl))), (up, .inr (1, [.ref b1, .ref b2, .ref b3, .ref b4, .int (nI n)])), (b1, .inl (cI, 30, .inl (aI sh))), (ut, .inr (5, [.ref t1, .int (nI c0), .int (nI as0)])), (t1, .inl (cI, 30, .inl (aI tk)))]) [1, 2, 3, 4, 5, 6, 7] rfl
      have hDc := hD.sub (ws' := [(uk, .inr (4, [.ref a1, .ref a2])), (a1, .inl (cI, 10, .inl (aI wt))), (a2, .inl (cI, 30, .inl (aI wl))), (up, .inr (1, [.ref b1, .ref b2, .ref b3, .ref b4, .int (nI n)])), (b1, .inl (cI, 30, .inl (aI sh))), (ut, .inr (5, [.ref t1, .int (nI c0), .int (nI as0)])), (t1, .inl (cI, 30, .inl (aI tk)))]) [1, 2, 3, 4, 5, 6, 7] (by decide) rfl
      have hFc := va_free (wc := [(uk, .inr (4, [.ref a1, .ref a2])), (a1, .inl (cI, 10, .inl (aI wt))), (a2, .inl (cI, 30, .inl (aI wl))), (up, .inr (1, [.ref b1, .ref b2, .ref b3, .ref b4, .int (nI n)])), (b1, .inl (cI, 30, .inl (aI sh))), (ut, .inr (5, [.ref t1, .int (nI c0), .int (nI as0)])), (t1, .inl (cI, 30, .inl (aI tk)))]) hD hS hA [1, 2, 3, 4, 5, 6, 7] rfl
      refine va_callv (va_runV (As := [.ref up, .long sd, .int (nI N), .ref ut]) (rest := []) ⟨hx, hb, hml, hown, htg⟩ (c_Ri_take l dC dI cI cL cZ s.heap.size uk a1 a2 wt wl up b1 b2 b3 b4 n sh ut t1 c0 as0 tk sd N hn hsh hwt hN1) (cwV 4 htg (gdV k2_121 k2_122 k2_123 k1_5 kc_Ri_take) rfl rfl rfl (by decide +kernel) ⟨Nat.le_of_ble_eq_true rfl, Nat.le_of_ble_eq_true rfl⟩) ⟨bk_blindW, va_recv hK hP (ci := 4) (q0 := 1) rfl rfl, fun U hU hW => ⟨rfl, nw_warm hW hN, by rw [hU], by rw [hU]; exact hPc, va_K.moved hW.alike hK, hDc.weaken (fun _ _ _ _ => trivial)⟩⟩ rfl rfl hl.1 rfl (lv_room (Nat.le_of_ble_eq_true rfl)) d_B_draw_34 ⟨Nat.le_of_ble_eq_true rfl, Nat.le_of_ble_eq_true rfl⟩) hS (fun q _ h => hFc q h) hFc (fun u t H1 locs ht hvm e34 hB hz1 hk1 hS => ?_)
      obtain ⟨hP1, hK1, hD1⟩ := hB
      rw [ht] at hP1
      try dsimp only at e34
      obtain ⟨wl34, dn34, tk34⟩ := u
      obtain ⟨hd34, ht34⟩ := e34
      try dsimp only at hd34 ht34
      obtain ⟨hP, hD⟩ := va_join (wr := [(xo, .inr (0, [.long sd, .ref up, .ref us, .ref uj, .ref ul, .ref uk, .ref ut, .ref uq, .ref uw, .ref uc]))]) (w1 := [(uk, .inr (4, [.ref a1, .ref a2])), (a1, .inl (cI, 10, .inl (aI wt))), (a2, .inl (cI, 30, .inl (aI wl34))), (up, .inr (1, [.ref b1, .ref b2, .ref b3, .ref b4, .int (nI n)])), (b1, .inl (cI, 30, .inl (aI sh))), (ut, .inr (5, [.ref t1, .int (nI dn34), .int (nI N)])), (t1, .inl (cI, 30, .inl (aI tk34)))]) hP hD [1, 2, 3, 4, 5, 6, 7] [0] rfl rfl (by decide) (by decide) hk1 hFc hP1 hD1
      generalize H1 = H at hP hS ⊢
      have hP : va_P (dC, dI) vwCl [(xo, .inr (0, [.long sd, .ref up, .ref us, .ref uj, .ref ul, .ref uk, .ref ut, .ref uq, .ref uw, .ref uc])), (uk, .inr (4, [.ref a1, .ref a2])), (a1, .inl (cI, 10, .inl (aI wt))), (a2, .inl (cI, 30, .inl (aI wl34))), (up, .inr (1, [.ref b1, .ref b2, .ref b3, .ref b4, .int (nI n)])), (b1, .inl (cI, 30, .inl (aI sh))), (ut, .inr (5, [.ref t1, .int (nI dn34), .int (nI N)])), (t1, .inl (cI, 30, .inl (aI tk34)))] H := hP.sub [0, 1, 2, 3, 4, 5, 6, 7] rfl
      have hD : va_D A [(xo, .inr (0, [.long sd, .ref up, .ref us, .ref uj, .ref ul, .ref uk, .ref ut, .ref uq, .ref uw, .ref uc])), (uk, .inr (4, [.ref a1, .ref a2])), (a1, .inl (cI, 10, .inl (aI wt))), (a2, .inl (cI, 30, .inl (aI wl34))), (up, .inr (1, [.ref b1, .ref b2, .ref b3, .ref b4, .int (nI n)])), (b1, .inl (cI, 30, .inl (aI sh))), (ut, .inr (5, [.ref t1, .int (nI dn34), .int (nI N)])), (t1, .inl (cI, 30, .inl (aI tk34)))] := hD.sub [0, 1, 2, 3, 4, 5, 6, 7] (by decide) rfl
      refine lv_aload_n hx hb d_B_draw_37 rfl (lv_at hl 0 rfl) ?_
      refine va_get (D := (dC, dI)) (ci := 0) (v := .ref ut) (C := R_B) (T := F_B) (N := 10) hx hb htg iw_B hown hK hP 0 rfl rfl 6 (by decide) (htg _ k1_163) (fun _ h9 => h9) rfl d_B_draw_38 ?_
      refine va_get (D := (dC, dI)) (ci := 5) (v := .int (nI dn34)) (C := R_Ro) (T := F_Ro) (N := 3) hx hb htg iw_Ro hown hK hP 6 rfl rfl 1 (by decide) (htg _ k1_119) (fun _ h9 => h9) rfl d_B_draw_41 ?_
      have hP9 := hP.sub (ws' := [(xo, .inr (0, [.long sd, .ref up, .ref us, .ref uj, .ref ul, .ref uk, .ref ut, .ref uq, .ref uw, .ref uc])), (uk, .inr (4, [.ref a1, .ref a2])), (a1, .inl (cI, 10, .inl (aI wt))), (a2, .inl (cI, 30, .inl (aI wl34))), (up, .inr (1, [.ref b1, .ref b2, .ref b3, .ref b4, .int (nI n)])), (b1, .inl (cI, 30, .inl (aI sh))), (ut, .inr (5, [.ref t1, .int (nI dn34), .int (nI N)])), (t1, .inl (cI, 30, .inl (aI tk34)))]) [0, 1, 2, 3, 4, 5, 6, 7] rfl
      have hD9 := hD.sub (ws' := [(xo, .inr (0, [.long sd, .ref up, .ref us, .ref uj, .ref ul, .ref uk, .ref ut, .ref uq, .ref uw, .ref uc])), (uk, .inr (4, [.ref a1, .ref a2])), (a1, .inl (cI, 10, .inl (aI wt))), (a2, .inl (cI, 30, .inl (aI wl34))), (up, .inr (1, [.ref b1, .ref b2, .ref b3, .ref b4, .int (nI n)])), (b1, .inl (cI, 30, .inl (aI sh))), (ut, .inr (5, [.ref t1, .int (nI dn34), .int (nI N)])), (t1, .inl (cI, 30, .inl (aI tk34)))]) [0, 1, 2, 3, 4, 5, 6, 7] (by decide) rfl
      exact W.iret (v := nI dn34) hx hb hr (fun t9 ht9 hW9 => ⟨⟨nI dn34, (wl34, dn34, tk34, N), rfl, Or.inl ⟨N, hN1, hxN, rfl, rfl, hd34, ht34⟩, by rw [ht9]; exact hP9, va_K.moved hW9.alike hK, hD9⟩, hS.F ht9⟩) hS.2.2 d_B_draw_44
    · refine lv_iconst (v := oI none) hx hb d_B_draw_15 (by decide +kernel) ?_
      have hP9 := hP.sub (ws' := [(xo, .inr (0, [.long sd, .ref up, .ref us, .ref uj, .ref ul, .ref uk, .ref ut, .ref uq, .ref uw, .ref uc])), (uk, .inr (4, [.ref a1, .ref a2])), (a1, .inl (cI, 10, .inl (aI wt))), (a2, .inl (cI, 30, .inl (aI wl))), (up, .inr (1, [.ref b1, .ref b2, .ref b3, .ref b4, .int (nI n)])), (b1, .inl (cI, 30, .inl (aI sh))), (ut, .inr (5, [.ref t1, .int (nI c0), .int (nI as0)])), (t1, .inl (cI, 30, .inl (aI tk)))]) [0, 1, 2, 3, 4, 5, 6, 7] rfl
      have hD9 := hD.sub (ws' := [(xo, .inr (0, [.long sd, .ref up, .ref us, .ref uj, .ref ul, .ref uk, .ref ut, .ref uq, .ref uw, .ref uc])), (uk, .inr (4, [.ref a1, .ref a2])), (a1, .inl (cI, 10, .inl (aI wt))), (a2, .inl (cI, 30, .inl (aI wl))), (up, .inr (1, [.ref b1, .ref b2, .ref b3, .ref b4, .int (nI n)])), (b1, .inl (cI, 30, .inl (aI sh))), (ut, .inr (5, [.ref t1, .int (nI c0), .int (nI as0)])), (t1, .inl (cI, 30, .inl (aI tk)))]) [0, 1, 2, 3, 4, 5, 6, 7] (by decide) rfl
      exact W.iret (v := oI none) hx hb hr (fun t9 ht9 hW9 => ⟨⟨oI none, (wl, c0, tk, as0), rfl, Or.inr ⟨by first | exact inR_neg (by omega) c1 | exact (fun z9 => by obtain ⟨q, uq, e⟩ := z9; exact no_gt e (by omega) (by omega) (by omega) (bk_nle.mp c12)), rfl, rfl⟩, by rw [ht9]; exact hP9, va_K.moved hW9.alike hK, hD9⟩, hS.F ht9⟩) hS.2.2 d_B_draw_16
set_option maxHeartbeats 4000000 in
set_option maxRecDepth 100000 in
theorem c_B_drawn (l : Launch) (dC : Nat → ClassId) (dI : Nat → Nat → Nat) (cI cL cZ : ClassId) (xo up us uj ul uk ut uq uw uc : Nat) (sd : Int64) (t1 c0 as0 : Nat) (tk : Nat → Nat) (x : Int32) (hcc : c0 ≤ 30) : Met l y_B_drawn ws_B_drawn { frames := 1, cells := 0, slots := 0, locals := 21 } (va_Pc [.ref xo, .int x] (rdP (dC, dI) vwCl [(cI, .int), (cL, .long), (cZ, .boolean)] [(xo, .inr (0, [.long sd, .ref up, .ref us, .ref uj, .ref ul, .ref uk, .ref ut, .ref uq, .ref uw, .ref uc])), (ut, .inr (5, [.ref t1, .int (nI c0), .int (nI as0)])), (t1, .inl (cI, 30, .inl (aI tk)))])) (vp_Si (fun r => (∃ j, j < c0 ∧ x = nI j ∧ r = nI (tk j)) ∨ (¬ inR c0 x ∧ r = oI none))) 0 0 (fun _ => False) := by
  refine Met.ofW (cc := b_B_drawn) (maxL := 2) (ret := (some .int)) (by decide) rfl ?_
  intro pr en s m args below meth c s₁ B hml hv
  obtain ⟨rfl, hN, hP, hK⟩ := hv
  have hx := B.exec
  have hb := B.bytes
  have hr := B.returns
  have hts := atoms_spec (ws := ws_B_drawn) B.pre
  have htg : ∀ w ∈ gW, w.before _ s = true := fun w h => hts w (List.mem_cons_of_mem _ h)
  have hown : s.vm.findClass R_B = some m.cls := findClass_of_methodNamed B.named
  have hlocks := B.notSynchronized
  have hl := lv_entry ([.ref xo, .int x]) (n := 2) (Nat.le_of_ble_eq_true rfl)
  rw [lg_entry_eq]
  generalize (lg_sl ([.ref xo, .int x]) ++ List.replicate (2 - (lg_sl ([.ref xo, .int x])).length) Slot.unset).toArray = ls at hl ⊢
  have hl : lv_has ls 2 [(0, .ref xo), (1, .int x)] := hl
  refine lv_aload_n hx hb d_B_drawn_0 rfl (lv_at hl 0 rfl) ?_
  refine va_get (D := (dC, dI)) (ci := 0) (v := .ref ut) (C := R_B) (T := F_B) (N := 10) hx hb htg iw_B hown hK hP 0 rfl rfl 6 (by decide) (htg _ k1_163) (fun _ h9 => h9) rfl d_B_drawn_1 ?_
  refine lv_iload_n hx hb d_B_drawn_4 rfl (lv_at hl 1 rfl) ?_
  refine vp_callSi (va_runV (As := [.int x]) (rest := []) ⟨hx, hb, hml, hown, htg⟩ (c_Ro_at l dC dI cI cL cZ ut t1 c0 as0 tk x (by omega)) (cwV 1 htg (gdV k2_147 k2_148 k2_149 k1_6 kc_Ro_at) rfl rfl rfl (by decide +kernel) ⟨Nat.le_of_ble_eq_true rfl, Nat.le_of_ble_eq_true rfl⟩) ⟨bk_blind, va_recv hK hP (ci := 5) (q0 := 1) rfl rfl, fun U hU hW => ⟨rfl, nw_warm hW hN, by rw [hU]; exact hP.sub [1, 2] rfl, va_K.moved hW.alike hK⟩⟩ rfl rfl hl.1 rfl (lv_room (Nat.le_of_ble_eq_true rfl)) d_B_drawn_5 ⟨Nat.le_of_ble_eq_true rfl, Nat.le_of_ble_eq_true rfl⟩).run (fun r5 e5 => ?_)
  exact W.iret (v := r5) hx hb hr (fun t9 ht9 hW9 => ⟨r5, rfl, e5, ht9⟩) (fun q h => nomatch h) d_B_drawn_8
set_option maxHeartbeats 4000000 in
set_option maxRecDepth 100000 in
theorem c_B_same (l : Launch) (dC : Nat → ClassId) (dI : Nat → Nat → Nat) (cI cL cZ : ClassId) (sz : Nat) (xo up us uj ul uk ut uq uw uc : Nat) (sd : Int64) (a1 a2 : Nat) (wt wl : Nat → Nat) (b1 b2 b3 b4 n : Nat) (sh : Nat → Nat) (t1 c0 as0 : Nat) (tk : Nat → Nat) (q1 qc qa : Nat) (qt : Nat → Nat) (y : Int64) (hn : n ≤ 30) (hsh : ∀ j, j < n → sh j < 10) (hwt : ∀ j, j < 10 → wt j ≤ 2520) (hcc : c0 ≤ 30) (has : as0 ≤ n) (htk : ∀ j, j < c0 → tk j < 30) : Met l y_B_same ws_B_same { frames := 2, cells := 0, slots := 0, locals := 54 } (va_Pc [.ref xo, .long y] (wrP (dC, dI) vwCl [(cI, .int), (cL, .long), (cZ, .boolean)] [(xo, .inr (0, [.long sd, .ref up, .ref us, .ref uj, .ref ul, .ref uk, .ref ut, .ref uq, .ref uw, .ref uc])), (uk, .inr (4, [.ref a1, .ref a2])), (a1, .inl (cI, 10, .inl (aI wt))), (a2, .inl (cI, 30, .inl (aI wl))), (up, .inr (1, [.ref b1, .ref b2, .ref b3, .ref b4, .int (nI n)])), (b1, .inl (cI, 30, .inl (aI sh))), (ut, .inr (5, [.ref t1, .int (nI c0), .int (nI as0)])), (t1, .inl (cI, 30, .inl (aI tk))), (uq, .inr (5, [.ref q1, .int (nI qc), .int (nI qa)])), (q1, .inl (cI, 30, .inl (aI qt)))] sz)) (va_Qi (fun (r : Int32) (u : (Nat → Nat) × Nat × (Nat → Nat)) => ∃ k, isDraw n (fun j => wt (sh j)) y as0 k ∧ (((c0 = k ∧ ∀ j, j < c0 → tk j = pkD n (fun j => wt (sh j)) y j) ∧ r = nI 1) ∨ (¬ (c0 = k ∧ ∀ j, j < c0 → tk j = pkD n (fun j => wt (sh j)) y j) ∧ r = nI 0))) (fun (u : (Nat → Nat) × Nat × (Nat → Nat)) => wrQ (dC, dI) vwCl [(cI, .int), (cL, .long), (cZ, .boolean)] (va_A [(xo, .inr (0, [.long sd, .ref up, .ref us, .ref uj, .ref ul, .ref uk, .ref ut, .ref uq, .ref uw, .ref uc])), (uk, .inr (4, [.ref a1, .ref a2])), (a1, .inl (cI, 10, .inl (aI wt))), (a2, .inl (cI, 30, .inl (aI wl))), (up, .inr (1, [.ref b1, .ref b2, .ref b3, .ref b4, .int (nI n)])), (b1, .inl (cI, 30, .inl (aI sh))), (ut, .inr (5, [.ref t1, .int (nI c0), .int (nI as0)])), (t1, .inl (cI, 30, .inl (aI tk))), (uq, .inr (5, [.ref q1, .int (nI qc), .int (nI qa)])), (q1, .inl (cI, 30, .inl (aI qt)))] sz) [(xo, .inr (0, [.long sd, .ref up, .ref us, .ref uj, .ref ul, .ref uk, .ref ut, .ref uq, .ref uw, .ref uc])), (uk, .inr (4, [.ref a1, .ref a2])), (a1, .inl (cI, 10, .inl (aI wt))), (a2, .inl (cI, 30, .inl (aI u.1))), (up, .inr (1, [.ref b1, .ref b2, .ref b3, .ref b4, .int (nI n)])), (b1, .inl (cI, 30, .inl (aI sh))), (ut, .inr (5, [.ref t1, .int (nI c0), .int (nI as0)])), (t1, .inl (cI, 30, .inl (aI tk))), (uq, .inr (5, [.ref q1, .int (nI u.2.1), .int (nI as0)])), (q1, .inl (cI, 30, .inl (aI u.2.2)))]) (va_A [(xo, .inr (0, [.long sd, .ref up, .ref us, .ref uj, .ref ul, .ref uk, .ref ut, .ref uq, .ref uw, .ref uc])), (uk, .inr (4, [.ref a1, .ref a2])), (a1, .inl (cI, 10, .inl (aI wt))), (a2, .inl (cI, 30, .inl (aI wl))), (up, .inr (1, [.ref b1, .ref b2, .ref b3, .ref b4, .int (nI n)])), (b1, .inl (cI, 30, .inl (aI sh))), (ut, .inr (5, [.ref t1, .int (nI c0), .int (nI as0)])), (t1, .inl (cI, 30, .inl (aI tk))), (uq, .inr (5, [.ref q1, .int (nI qc), .int (nI qa)])), (q1, .inl (cI, 30, .inl (aI qt)))] sz)) 0 0 (va_A [(xo, .inr (0, [.long sd, .ref up, .ref us, .ref uj, .ref ul, .ref uk, .ref ut, .ref uq, .ref uw, .ref uc])), (uk, .inr (4, [.ref a1, .ref a2])), (a1, .inl (cI, 10, .inl (aI wt))), (a2, .inl (cI, 30, .inl (aI wl))), (up, .inr (1, [.ref b1, .ref b2, .ref b3, .ref b4, .int (nI n)])), (b1, .inl (cI, 30, .inl (aI sh))), (ut, .inr (5, [.ref t1, .int (nI c0), .int (nI as0)])), (t1, .inl (cI, 30, .inl (aI tk))), (uq, .inr (5, [.ref q1, .int (nI qc), .int (nI qa)])), (q1, .inl (cI, 30, .inl (aI qt)))] sz) := by
  refine Met.ofW (cc := b_B_same) (maxL := 3) (ret := (some .boolean)) (by decide) rfl ?_
  intro pr en s m args below meth c s₁ B hml hv
  obtain ⟨rfl, hN, hsz, hP, hK, hD0⟩ := hv
  have hx := B.exec
  have hb := B.bytes
  have hr := B.returns
  have hts := atoms_spec (ws := ws_B_same) B.pre
  have htg : ∀ w ∈ gW, w.before _ s = true := fun w h => hts w (List.mem_cons_of_mem _ h)
  have hown : s.vm.findClass R_B = some m.cls := findClass_of_methodNamed B.named
  have hlocks := B.notSynchronized
  subst hsz
  have hD := hD0.self (sz := s.heap.size)
  generalize hAe : va_A [(xo, .inr (0, [.long sd, .ref up, .ref us, .ref uj, .ref ul, .ref uk, .ref ut, .ref uq, .ref uw, .ref uc])), (uk, .inr (4, [.ref a1, .ref a2])), (a1, .inl (cI, 10, .inl (aI wt))), (a2, .inl (cI, 30, .inl (aI wl))), (up, .inr (1, [.ref b1, .ref b2, .ref b3, .ref b4, .int (nI n)])), (b1, .inl (cI, 30, .inl (aI sh))), (ut, .inr (5, [.ref t1, .int (nI c0), .int (nI as0)])), (t1, .inl (cI, 30, .inl (aI tk))), (uq, .inr (5, [.ref q1, .int (nI qc), .int (nI qa)])), (q1, .inl (cI, 30, .inl (aI qt)))] s.heap.size = A at hD ⊢
  have hA : ∀ q : Nat, s.heap.size ≤ q → A q := fun q h => by rw [← hAe]; exact Or.inr h
  have hS : va_S A s.heap s.heap [] := va_S.rf
  have hP : va_P (dC, dI) vwCl [(xo, .inr (0, [.long sd, .ref up, .ref us, .ref uj, .ref ul, .ref uk, .ref ut, .ref uq, .ref uw, .ref uc])), (uk, .inr (4, [.ref a1, .ref a2])), (a1, .inl (cI, 10, .inl (aI wt))), (a2, .inl (cI, 30, .inl (aI wl))), (up, .inr (1, [.ref b1, .ref b2, .ref b3, .ref b4, .int (nI n)])), (b1, .inl (cI, 30, .inl (aI sh))), (ut, .inr (5, [.ref t1, .int (nI c0), .int (nI as0)])), (t1, .inl (cI, 30, .inl (aI tk))), (uq, .inr (5, [.ref q1, .int (nI qc), .int (nI qa)])), (q1, .inl (cI, 30, .inl (aI qt)))] s.heap := hP
  have hl := lv_entry ([.ref xo, .long y]) (n := 3) (Nat.le_of_ble_eq_true rfl)
  rw [lg_entry_eq]
  generalize (lg_sl ([.ref xo, .long y]) ++ List.replicate (3 - (lg_sl ([.ref xo, .long y])).length) Slot.unset).toArray = ls at hl ⊢
  have hl : lv_has ls 3 [(0, .ref xo), (1, .long y)] := hl
  refine lv_aload_n hx hb d_B_same_0 rfl (lv_at hl 0 rfl) ?_
  refine va_get (D := (dC, dI)) (ci := 0) (v := .ref uk) (C := R_B) (T := F_B) (N := 10) hx hb htg iw_B hown hK hP 0 rfl rfl 5 (by decide) (htg _ k1_162) (fun _ h9 => h9) rfl d_B_same_1 ?_
  refine lv_aload_n hx hb d_B_same_4 rfl (lv_at hl 0 rfl) ?_
  refine va_get (D := (dC, dI)) (ci := 0) (v := .ref up) (C := R_B) (T := F_B) (N := 10) hx hb htg iw_B hown hK hP 0 rfl rfl 1 (by decide) (htg _ k1_158) (fun _ h9 => h9) rfl d_B_same_5 ?_
  refine lv_lload_n hx hb d_B_same_8 rfl (lv_at hl 1 rfl) ?_
  refine lv_aload_n hx hb d_B_same_9 rfl (lv_at hl 0 rfl) ?_
  refine va_get (D := (dC, dI)) (ci := 0) (v := .ref ut) (C := R_B) (T := F_B) (N := 10) hx hb htg iw_B hown hK hP 0 rfl rfl 6 (by decide) (htg _ k1_163) (fun _ h9 => h9) rfl d_B_same_10 ?_
  refine va_get (D := (dC, dI)) (ci := 5) (v := .int (nI as0)) (C := R_Ro) (T := F_Ro) (N := 3) hx hb htg iw_Ro hown hK hP 6 rfl rfl 2 (by decide) (htg _ k1_121) (fun _ h9 => h9) rfl d_B_same_13 ?_
  refine lv_aload_n hx hb d_B_same_16 rfl (lv_at hl 0 rfl) ?_
  refine va_get (D := (dC, dI)) (ci := 0) (v := .ref uq) (C := R_B) (T := F_B) (N := 10) hx hb htg iw_B hown hK hP 0 rfl rfl 7 (by decide) (htg _ k1_164) (fun _ h9 => h9) rfl d_B_same_17 ?_
  have hPc := hP.sub (ws' := [(uk, .inr (4, [.ref a1, .ref a2])), (a1, .inl (cI, 10, .inl (aI wt))), (a2, .inl (cI, 30, .inl (aI wl))), (up, .inr (1, [.ref b1, .ref b2, .ref b3, .ref b4, .int (nI n)])), (b1, .inl (cI, 30, .inl (aI sh))), (uq, .inr (5, [.ref q1, .int (nI qc), .int (nI qa)])), (q1, .inl (cI, 30, .inl (aI qt)))]) [1, 2, 3, 4, 5, 8, 9] rfl
  have hDc := hD.sub (ws' := [(uk, .inr (4, [.ref a1, .ref a2])), (a1, .inl (cI, 10, .inl (aI wt))), (a2, .inl (cI, 30, .inl (aI wl))), (up, .inr (1, [.ref b1, .ref b2, .ref b3, .ref b4, .int (nI n)])), (b1, .inl (cI, 30, .inl (aI sh))), (uq, .inr (5, [.ref q1, .int (nI qc), .int (nI qa)])), (q1, .inl (cI, 30, .inl (aI qt)))]) [1, 2, 3, 4, 5, 8, 9] (by decide) rfl
  have hFc := va_free (wc := [(uk, .inr (4, [.ref a1, .ref a2])), (a1, .inl (cI, 10, .inl (aI wt))), (a2, .inl (cI, 30, .inl (aI wl))), (up, .inr (1, [.ref b1, .ref b2, .ref b3, .ref b4, .int (nI n)])), (b1, .inl (cI, 30, .inl (aI sh))), (uq, .inr (5, [.ref q1, .int (nI qc), .int (nI qa)])), (q1, .inl (cI, 30, .inl (aI qt)))]) hD hS hA [1, 2, 3, 4, 5, 8, 9] rfl
  refine va_callv (va_runV (As := [.ref up, .long y, .int (nI as0), .ref uq]) (rest := []) ⟨hx, hb, hml, hown, htg⟩ (c_Ri_take l dC dI cI cL cZ s.heap.size uk a1 a2 wt wl up b1 b2 b3 b4 n sh uq q1 qc qa qt y as0 hn hsh hwt has) (cwV 4 htg (gdV k2_121 k2_122 k2_123 k1_5 kc_Ri_take) rfl rfl rfl (by decide +kernel) ⟨Nat.le_of_ble_eq_true rfl, Nat.le_of_ble_eq_true rfl⟩) ⟨bk_blindW, va_recv hK hP (ci := 4) (q0 := 1) rfl rfl, fun U hU hW => ⟨rfl, nw_warm hW hN, by rw [hU], by rw [hU]; exact hPc, va_K.moved hW.alike hK, hDc.weaken (fun _ _ _ _ => trivial)⟩⟩ rfl rfl hl.1 rfl (lv_room (Nat.le_of_ble_eq_true rfl)) d_B_same_20 ⟨Nat.le_of_ble_eq_true rfl, Nat.le_of_ble_eq_true rfl⟩) hS (fun q _ h => hFc q h) hFc (fun u t H1 locs ht hvm e20 hB hz1 hk1 hS => ?_)
  obtain ⟨hP1, hK1, hD1⟩ := hB
  rw [ht] at hP1
  try dsimp only at e20
  obtain ⟨wl20, dn20, tk20⟩ := u
  obtain ⟨hd20, ht20⟩ := e20
  try dsimp only at hd20 ht20
  obtain ⟨hP, hD⟩ := va_join (wr := [(xo, .inr (0, [.long sd, .ref up, .ref us, .ref uj, .ref ul, .ref uk, .ref ut, .ref uq, .ref uw, .ref uc])), (ut, .inr (5, [.ref t1, .int (nI c0), .int (nI as0)])), (t1, .inl (cI, 30, .inl (aI tk)))]) (w1 := [(uk, .inr (4, [.ref a1, .ref a2])), (a1, .inl (cI, 10, .inl (aI wt))), (a2, .inl (cI, 30, .inl (aI wl20))), (up, .inr (1, [.ref b1, .ref b2, .ref b3, .ref b4, .int (nI n)])), (b1, .inl (cI, 30, .inl (aI sh))), (uq, .inr (5, [.ref q1, .int (nI dn20), .int (nI as0)])), (q1, .inl (cI, 30, .inl (aI tk20)))]) hP hD [1, 2, 3, 4, 5, 8, 9] [0, 6, 7] rfl rfl (by decide) (by decide) hk1 hFc hP1 hD1
  generalize H1 = H at hP hS ⊢
  have hP : va_P (dC, dI) vwCl [(xo, .inr (0, [.long sd, .ref up, .ref us, .ref uj, .ref ul, .ref uk, .ref ut, .ref uq, .ref uw, .ref uc])), (uk, .inr (4, [.ref a1, .ref a2])), (a1, .inl (cI, 10, .inl (aI wt))), (a2, .inl (cI, 30, .inl (aI wl20))), (up, .inr (1, [.ref b1, .ref b2, .ref b3, .ref b4, .int (nI n)])), (b1, .inl (cI, 30, .inl (aI sh))), (ut, .inr (5, [.ref t1, .int (nI c0), .int (nI as0)])), (t1, .inl (cI, 30, .inl (aI tk))), (uq, .inr (5, [.ref q1, .int (nI dn20), .int (nI as0)])), (q1, .inl (cI, 30, .inl (aI tk20)))] H := hP.sub [0, 3, 4, 5, 6, 7, 1, 2, 8, 9] rfl
  have hD : va_D A [(xo, .inr (0, [.long sd, .ref up, .ref us, .ref uj, .ref ul, .ref uk, .ref ut, .ref uq, .ref uw, .ref uc])), (uk, .inr (4, [.ref a1, .ref a2])), (a1, .inl (cI, 10, .inl (aI wt))), (a2, .inl (cI, 30, .inl (aI wl20))), (up, .inr (1, [.ref b1, .ref b2, .ref b3, .ref b4, .int (nI n)])), (b1, .inl (cI, 30, .inl (aI sh))), (ut, .inr (5, [.ref t1, .int (nI c0), .int (nI as0)])), (t1, .inl (cI, 30, .inl (aI tk))), (uq, .inr (5, [.ref q1, .int (nI dn20), .int (nI as0)])), (q1, .inl (cI, 30, .inl (aI tk20)))] := hD.sub [0, 3, 4, 5, 6, 7, 1, 2, 8, 9] (by decide) rfl
  refine lv_aload_n hx hb d_B_same_23 rfl (lv_at hl 0 rfl) ?_
  refine va_get (D := (dC, dI)) (ci := 0) (v := .ref ut) (C := R_B) (T := F_B) (N := 10) hx hb htg iw_B hown hK hP 0 rfl rfl 6 (by decide) (htg _ k1_163) (fun _ h9 => h9) rfl d_B_same_24 ?_
  refine lv_aload_n hx hb d_B_same_27 rfl (lv_at hl 0 rfl) ?_
  refine va_get (D := (dC, dI)) (ci := 0) (v := .ref uq) (C := R_B) (T := F_B) (N := 10) hx hb htg iw_B hown hK hP 0 rfl rfl 7 (by decide) (htg _ k1_164) (fun _ h9 => h9) rfl d_B_same_28 ?_
  refine vp_callSi (va_runV (As := [.ref uq]) (rest := []) ⟨hx, hb, hml, hown, htg⟩ (c_Ro_equalTo l dC dI cI cL cZ ut t1 c0 as0 tk uq q1 dn20 as0 tk20 hcc (by have := hd20.1; omega) htk (fun j hj => by have := (ht20 j hj).2; omega)) (cwV 1 htg (gdV k2_155 k2_156 k2_157 k1_6 kc_Ro_equalTo) rfl rfl rfl (by decide +kernel) ⟨Nat.le_of_ble_eq_true rfl, Nat.le_of_ble_eq_true rfl⟩) ⟨bk_blind, va_recv hK hP (ci := 5) (q0 := 6) rfl rfl, fun U hU hW => ⟨rfl, nw_warm hW hN, by rw [hU]; exact hP.sub [6, 7, 8, 9] rfl, va_K.moved hW.alike hK⟩⟩ rfl rfl hl.1 rfl (lv_room (Nat.le_of_ble_eq_true rfl)) d_B_same_31 ⟨Nat.le_of_ble_eq_true rfl, Nat.le_of_ble_eq_true rfl⟩).run (fun r31 e31 => ?_)
  rcases e31 with ⟨b31, rfl⟩ | ⟨b31, rfl⟩
  · have hP9 := hP.sub (ws' := [(xo, .inr (0, [.long sd, .ref up, .ref us, .ref uj, .ref ul, .ref uk, .ref ut, .ref uq, .ref uw, .ref uc])), (uk, .inr (4, [.ref a1, .ref a2])), (a1, .inl (cI, 10, .inl (aI wt))), (a2, .inl (cI, 30, .inl (aI wl20))), (up, .inr (1, [.ref b1, .ref b2, .ref b3, .ref b4, .int (nI n)])), (b1, .inl (cI, 30, .inl (aI sh))), (ut, .inr (5, [.ref t1, .int (nI c0), .int (nI as0)])), (t1, .inl (cI, 30, .inl (aI tk))), (uq, .inr (5, [.ref q1, .int (nI dn20), .int (nI as0)])), (q1, .inl (cI, 30, .inl (aI tk20)))]) [0, 1, 2, 3, 4, 5, 6, 7, 8, 9] rfl
    have hD9 := hD.sub (ws' := [(xo, .inr (0, [.long sd, .ref up, .ref us, .ref uj, .ref ul, .ref uk, .ref ut, .ref uq, .ref uw, .ref uc])), (uk, .inr (4, [.ref a1, .ref a2])), (a1, .inl (cI, 10, .inl (aI wt))), (a2, .inl (cI, 30, .inl (aI wl20))), (up, .inr (1, [.ref b1, .ref b2, .ref b3, .ref b4, .int (nI n)])), (b1, .inl (cI, 30, .inl (aI sh))), (ut, .inr (5, [.ref t1, .int (nI c0), .int (nI as0)])), (t1, .inl (cI, 30, .inl (aI tk))), (uq, .inr (5, [.ref q1, .int (nI dn20), .int (nI as0)])), (q1, .inl (cI, 30, .inl (aI tk20)))]) [0, 1, 2, 3, 4, 5, 6, 7, 8, 9] (by decide) rfl
    exact W.zret (v := nI 1) (ty := .boolean) hx hb hr rfl (fun t9 ht9 hW9 => ⟨⟨nI 1, (wl20, dn20, tk20), rfl, ⟨dn20, hd20, Or.inl ⟨⟨b31.1, fun j hj => by rw [b31.2 j hj]; exact (ht20 j (by rw [← b31.1]; exact hj)).1⟩, rfl⟩⟩, by rw [ht9]; exact hP9, va_K.moved hW9.alike hK, hD9⟩, hS.F ht9⟩) hS.2.2 d_B_same_34
  · have hP9 := hP.sub (ws' := [(xo, .inr (0, [.long sd, .ref up, .ref us, .ref uj, .ref ul, .ref uk, .ref ut, .ref uq, .ref uw, .ref uc])), (uk, .inr (4, [.ref a1, .ref a2])), (a1, .inl (cI, 10, .inl (aI wt))), (a2, .inl (cI, 30, .inl (aI wl20))), (up, .inr (1, [.ref b1, .ref b2, .ref b3, .ref b4, .int (nI n)])), (b1, .inl (cI, 30, .inl (aI sh))), (ut, .inr (5, [.ref t1, .int (nI c0), .int (nI as0)])), (t1, .inl (cI, 30, .inl (aI tk))), (uq, .inr (5, [.ref q1, .int (nI dn20), .int (nI as0)])), (q1, .inl (cI, 30, .inl (aI tk20)))]) [0, 1, 2, 3, 4, 5, 6, 7, 8, 9] rfl
    have hD9 := hD.sub (ws' := [(xo, .inr (0, [.long sd, .ref up, .ref us, .ref uj, .ref ul, .ref uk, .ref ut, .ref uq, .ref uw, .ref uc])), (uk, .inr (4, [.ref a1, .ref a2])), (a1, .inl (cI, 10, .inl (aI wt))), (a2, .inl (cI, 30, .inl (aI wl20))), (up, .inr (1, [.ref b1, .ref b2, .ref b3, .ref b4, .int (nI n)])), (b1, .inl (cI, 30, .inl (aI sh))), (ut, .inr (5, [.ref t1, .int (nI c0), .int (nI as0)])), (t1, .inl (cI, 30, .inl (aI tk))), (uq, .inr (5, [.ref q1, .int (nI dn20), .int (nI as0)])), (q1, .inl (cI, 30, .inl (aI tk20)))]) [0, 1, 2, 3, 4, 5, 6, 7, 8, 9] (by decide) rfl
    exact W.zret (v := nI 0) (ty := .boolean) hx hb hr rfl (fun t9 ht9 hW9 => ⟨⟨nI 0, (wl20, dn20, tk20), rfl, ⟨dn20, hd20, Or.inr ⟨fun z9 => b31 ⟨z9.1, fun j hj => by rw [z9.2 j hj]; exact (ht20 j (by rw [← z9.1]; exact hj)).1.symm⟩, rfl⟩⟩, by rw [ht9]; exact hP9, va_K.moved hW9.alike hK, hD9⟩, hS.F ht9⟩) hS.2.2 d_B_same_34
set_option maxHeartbeats 4000000 in
set_option maxRecDepth 100000 in
theorem c_B_missed (l : Launch) (dC : Nat → ClassId) (dI : Nat → Nat → Nat) (cI cL cZ : ClassId) (xo up us uj ul uk ut uq uw uc : Nat) (sd : Int64) (b1 b2 b3 b4 n : Nat) (x1 x2 x3 : Int32) (hn : n ≤ 30) : Met l y_B_missed ws_B_missed { frames := 1, cells := 0, slots := 0, locals := 30 } (va_Pc [.ref xo, .int x1, .int x2, .int x3] (rdP (dC, dI) vwCl [(cI, .int), (cL, .long), (cZ, .boolean)] [(xo, .inr (0, [.long sd, .ref up, .ref us, .ref uj, .ref ul, .ref uk, .ref ut, .ref uq, .ref uw, .ref uc])), (up, .inr (1, [.ref b1, .ref b2, .ref b3, .ref b4, .int (nI n)]))])) (vp_Sl (fun r => (∃ a b p0, a ≤ n ∧ b ≤ n ∧ p0 ≤ 1 ∧ x1 = nI a ∧ x2 = nI b ∧ x3 = nI p0 ∧ r = lN (misN n a b p0)) ∨ (¬ (inR (n + 1) x1 ∧ inR (n + 1) x2 ∧ inR 2 x3) ∧ r = -1))) 0 0 (fun _ => False) := by
  refine Met.ofW (cc := b_B_missed) (maxL := 13) (ret := (some .long)) (by decide) rfl ?_
  intro pr en s m args below meth c s₁ B hml hv
  obtain ⟨rfl, hN, hP, hK⟩ := hv
  have hx := B.exec
  have hb := B.bytes
  have hr := B.returns
  have hts := atoms_spec (ws := ws_B_missed) B.pre
  have htg : ∀ w ∈ gW, w.before _ s = true := fun w h => hts w (List.mem_cons_of_mem _ h)
  have hown : s.vm.findClass R_B = some m.cls := findClass_of_methodNamed B.named
  have hlocks := B.notSynchronized
  have hl := lv_entry ([.ref xo, .int x1, .int x2, .int x3]) (n := 13) (Nat.le_of_ble_eq_true rfl)
  rw [lg_entry_eq]
  generalize (lg_sl ([.ref xo, .int x1, .int x2, .int x3]) ++ List.replicate (13 - (lg_sl ([.ref xo, .int x1, .int x2, .int x3])).length) Slot.unset).toArray = ls at hl ⊢
  have hl : lv_has ls 13 [(0, .ref xo), (1, .int x1), (2, .int x2), (3, .int x3)] := hl
  refine lv_aload_n hx hb d_B_missed_0 rfl (lv_at hl 0 rfl) ?_
  refine va_get (D := (dC, dI)) (ci := 0) (v := .ref up) (C := R_B) (T := F_B) (N := 10) hx hb htg iw_B hown hK hP 0 rfl rfl 1 (by decide) (htg _ k1_158) (fun _ h9 => h9) rfl d_B_missed_1 ?_
  refine va_get (D := (dC, dI)) (ci := 1) (v := .int (nI n)) (C := R_Bk) (T := F_Bk) (N := 5) hx hb htg iw_Bk hown hK hP 1 rfl rfl 4 (by decide) (htg _ k1_42) (fun _ h9 => h9) rfl d_B_missed_4 ?_
  refine lv_istore (lv' := [(4, .int (nI n)), (0, .ref xo), (1, .int x1), (2, .int x2), (3, .int x3)]) hx hb d_B_missed_7 hl (by decide) rfl (fun ls hl => ?_)
  refine lv_iload_n hx hb d_B_missed_9 rfl (lv_at hl 2 rfl) ?_
  refine lv_if_lt (x := x1) (tgt := 38) hx hb d_B_missed_10 (by decide) (fun c10 => ?_) (fun c10 => ?_)
  · refine lv_ldc2 (own := R_B) (v := (-1)) hx hb hown (htg _ k2_86) d_B_missed_38 ?_
    exact W.lret (v := (-1)) hx hb hr (fun t9 ht9 hW9 => ⟨(-1), rfl, Or.inr ⟨fun z9 => by obtain ⟨⟨q1, g1, k1⟩, ⟨q2, g2, k2⟩, ⟨q3, g3, k3⟩⟩ := z9; first | exact (by rw [k1] at c10; exact nI_pos (by omega) c10) | exact no_gt k1 (by omega) (by omega) (by omega) c16 | exact (by rw [k2] at c20; exact nI_pos (by omega) c20) | exact no_gt k2 (by omega) (by omega) (by omega) c26 | exact (by rw [k3] at c30; exact nI_pos (by omega) c30) | exact no_gt (n := 1) k3 (by omega) (by decide) (by omega) (bk_nle.mp c35), rfl⟩, ht9⟩) (fun q h => nomatch h) d_B_missed_41
  · refine lv_iload_n hx hb d_B_missed_13 rfl (lv_at hl 2 rfl) ?_
    refine lv_iload hx hb d_B_missed_14 (lv_at hl 0 rfl) ?_
    refine lv_icmp_gt (x := x1) (y := nI n) (tgt := 38) hx hb d_B_missed_16 (by decide) (fun c16 => ?_) (fun c16 => ?_)
    · refine lv_ldc2 (own := R_B) (v := (-1)) hx hb hown (htg _ k2_86) d_B_missed_38 ?_
      exact W.lret (v := (-1)) hx hb hr (fun t9 ht9 hW9 => ⟨(-1), rfl, Or.inr ⟨fun z9 => by obtain ⟨⟨q1, g1, k1⟩, ⟨q2, g2, k2⟩, ⟨q3, g3, k3⟩⟩ := z9; first | exact (by rw [k1] at c10; exact nI_pos (by omega) c10) | exact no_gt k1 (by omega) (by omega) (by omega) c16 | exact (by rw [k2] at c20; exact nI_pos (by omega) c20) | exact no_gt k2 (by omega) (by omega) (by omega) c26 | exact (by rw [k3] at c30; exact nI_pos (by omega) c30) | exact no_gt (n := 1) k3 (by omega) (by decide) (by omega) (bk_nle.mp c35), rfl⟩, ht9⟩) (fun q h => nomatch h) d_B_missed_41
    · refine lv_iload_n hx hb d_B_missed_19 rfl (lv_at hl 3 rfl) ?_
      refine lv_if_lt (x := x2) (tgt := 38) hx hb d_B_missed_20 (by decide) (fun c20 => ?_) (fun c20 => ?_)
      · refine lv_ldc2 (own := R_B) (v := (-1)) hx hb hown (htg _ k2_86) d_B_missed_38 ?_
        exact W.lret (v := (-1)) hx hb hr (fun t9 ht9 hW9 => ⟨(-1), rfl, Or.inr ⟨fun z9 => by obtain ⟨⟨q1, g1, k1⟩, ⟨q2, g2, k2⟩, ⟨q3, g3, k3⟩⟩ := z9; first | exact (by rw [k1] at c10; exact nI_pos (by omega) c10) | exact no_gt k1 (by omega) (by omega) (by omega) c16 | exact (by rw [k2] at c20; exact nI_pos (by omega) c20) | exact no_gt k2 (by omega) (by omega) (by omega) c26 | exact (by rw [k3] at c30; exact nI_pos (by omega) c30) | exact no_gt (n := 1) k3 (by omega) (by decide) (by omega) (bk_nle.mp c35), rfl⟩, ht9⟩) (fun q h => nomatch h) d_B_missed_41
      · refine lv_iload_n hx hb d_B_missed_23 rfl (lv_at hl 3 rfl) ?_
        refine lv_iload hx hb d_B_missed_24 (lv_at hl 0 rfl) ?_
        refine lv_icmp_gt (x := x2) (y := nI n) (tgt := 38) hx hb d_B_missed_26 (by decide) (fun c26 => ?_) (fun c26 => ?_)
        · refine lv_ldc2 (own := R_B) (v := (-1)) hx hb hown (htg _ k2_86) d_B_missed_38 ?_
          exact W.lret (v := (-1)) hx hb hr (fun t9 ht9 hW9 => ⟨(-1), rfl, Or.inr ⟨fun z9 => by obtain ⟨⟨q1, g1, k1⟩, ⟨q2, g2, k2⟩, ⟨q3, g3, k3⟩⟩ := z9; first | exact (by rw [k1] at c10; exact nI_pos (by omega) c10) | exact no_gt k1 (by omega) (by omega) (by omega) c16 | exact (by rw [k2] at c20; exact nI_pos (by omega) c20) | exact no_gt k2 (by omega) (by omega) (by omega) c26 | exact (by rw [k3] at c30; exact nI_pos (by omega) c30) | exact no_gt (n := 1) k3 (by omega) (by decide) (by omega) (bk_nle.mp c35), rfl⟩, ht9⟩) (fun q h => nomatch h) d_B_missed_41
        · refine lv_iload_n hx hb d_B_missed_29 rfl (lv_at hl 4 rfl) ?_
          refine lv_if_lt (x := x3) (tgt := 38) hx hb d_B_missed_30 (by decide) (fun c30 => ?_) (fun c30 => ?_)
          · refine lv_ldc2 (own := R_B) (v := (-1)) hx hb hown (htg _ k2_86) d_B_missed_38 ?_
            exact W.lret (v := (-1)) hx hb hr (fun t9 ht9 hW9 => ⟨(-1), rfl, Or.inr ⟨fun z9 => by obtain ⟨⟨q1, g1, k1⟩, ⟨q2, g2, k2⟩, ⟨q3, g3, k3⟩⟩ := z9; first | exact (by rw [k1] at c10; exact nI_pos (by omega) c10) | exact no_gt k1 (by omega) (by omega) (by omega) c16 | exact (by rw [k2] at c20; exact nI_pos (by omega) c20) | exact no_gt k2 (by omega) (by omega) (by omega) c26 | exact (by rw [k3] at c30; exact nI_pos (by omega) c30) | exact no_gt (n := 1) k3 (by omega) (by decide) (by omega) (bk_nle.mp c35), rfl⟩, ht9⟩) (fun q h => nomatch h) d_B_missed_41
          · refine lv_iload_n hx hb d_B_missed_33 rfl (lv_at hl 4 rfl) ?_
            refine lv_iconst (v := nI 1) hx hb d_B_missed_34 (by decide +kernel) ?_
            refine lv_icmp_le (x := x3) (y := nI 1) (tgt := 42) hx hb d_B_missed_35 (by decide) (fun c35 => ?_) (fun c35 => ?_)
            · obtain ⟨a, ha, hxa⟩ := le_nI c10 (bk_nlt.mp c16) (by omega)
              obtain ⟨b, hb2, hxb⟩ := le_nI c20 (bk_nlt.mp c26) (by omega)
              obtain ⟨p0, hp0, hxp⟩ := le_nI c30 c35 (by omega)
              have hl1 := chs_le (a := n - b) (s := a) (by omega) (by omega)
              have hl2 := chs_le (a := n) (s := a) (by omega) (by omega)
              refine lv_iload hx hb d_B_missed_42 (lv_at hl 0 rfl) ?_
              refine lv_iload_n hx hb d_B_missed_44 rfl (lv_at hl 3 rfl) ?_
              refine bk_topi (y := nI b) hxb ?_
              refine bk_isub hx hb (by omega) d_B_missed_45 ?_
              refine lv_iload_n hx hb d_B_missed_46 rfl (lv_at hl 2 rfl) ?_
              refine bk_topi (y := nI a) hxa ?_
              refine vp_callSl (va_runS (As := [.int (nI (n - b)), .int (nI a)]) (rest := []) ⟨hx, hb, hml, hown, htg⟩ (c_B_choose l dC dI cI cL cZ (n - b) a (by first | omega | exact Nat.lt_of_le_of_lt (gcdF_le _ _ _) (by omega)) (by first | omega | exact Nat.lt_of_le_of_lt (gcdF_le _ _ _) (by omega))) (va_cwS 2 htg (gdS k2_163 k2_164 k1_1 kc_B_choose) rfl rfl rfl (by decide +kernel) ⟨Nat.le_of_ble_eq_true rfl, Nat.le_of_ble_eq_true rfl⟩) ⟨bk_blind0, fun U hU hW => ⟨rfl, trivial⟩⟩ rfl rfl hl.1 rfl (lv_room (Nat.le_of_ble_eq_true rfl)) d_B_missed_47 ⟨Nat.le_of_ble_eq_true rfl, Nat.le_of_ble_eq_true rfl⟩).run (fun r47 e47 => ?_)
              subst e47
              refine lv_lstore (lv' := [(5, .long (lN (chs (n - b) a))), (4, .int (nI n)), (0, .ref xo), (1, .int x1), (2, .int x2), (3, .int x3)]) hx hb d_B_missed_50 hl (by decide) rfl (fun ls hl => ?_)
              refine lv_iload hx hb d_B_missed_52 (lv_at hl 1 rfl) ?_
              refine lv_iload_n hx hb d_B_missed_54 rfl (lv_at hl 3 rfl) ?_
              refine bk_topi (y := nI a) hxa ?_
              refine vp_callSl (va_runS (As := [.int (nI n), .int (nI a)]) (rest := []) ⟨hx, hb, hml, hown, htg⟩ (c_B_choose l dC dI cI cL cZ n a (by first | omega | exact Nat.lt_of_le_of_lt (gcdF_le _ _ _) (by omega)) (by first | omega | exact Nat.lt_of_le_of_lt (gcdF_le _ _ _) (by omega))) (va_cwS 2 htg (gdS k2_163 k2_164 k1_1 kc_B_choose) rfl rfl rfl (by decide +kernel) ⟨Nat.le_of_ble_eq_true rfl, Nat.le_of_ble_eq_true rfl⟩) ⟨bk_blind0, fun U hU hW => ⟨rfl, trivial⟩⟩ rfl rfl hl.1 rfl (lv_room (Nat.le_of_ble_eq_true rfl)) d_B_missed_55 ⟨Nat.le_of_ble_eq_true rfl, Nat.le_of_ble_eq_true rfl⟩).run (fun r55 e55 => ?_)
              subst e55
              refine lv_lstore (lv' := [(7, .long (lN (chs n a))), (5, .long (lN (chs (n - b) a))), (4, .int (nI n)), (0, .ref xo), (1, .int x1), (2, .int x2), (3, .int x3)]) hx hb d_B_missed_58 hl (by decide) rfl (fun ls hl => ?_)
              refine lv_lload hx hb d_B_missed_60 (lv_at hl 1 rfl) ?_
              refine lv_lload hx hb d_B_missed_62 (lv_at hl 0 rfl) ?_
              refine vp_callSl (va_runS (As := [.long (lN (chs (n - b) a)), .long (lN (chs n a))]) (rest := []) ⟨hx, hb, hml, hown, htg⟩ (c_B_commonDivisor l dC dI cI cL cZ (chs (n - b) a) (chs n a) (by omega) (by omega)) (va_cwS 2 htg (gdS k2_166 k2_167 k1_1 kc_B_commonDivisor) rfl rfl rfl (by decide +kernel) ⟨Nat.le_of_ble_eq_true rfl, Nat.le_of_ble_eq_true rfl⟩) ⟨bk_blind0, fun U hU hW => ⟨rfl, trivial⟩⟩ rfl rfl hl.1 rfl (lv_room (Nat.le_of_ble_eq_true rfl)) d_B_missed_64 ⟨Nat.le_of_ble_eq_true rfl, Nat.le_of_ble_eq_true rfl⟩).run (fun r64 e64 => ?_)
              subst e64
              refine lv_lstore (lv' := [(9, .long (lN (gcdF 128 (chs (n - b) a) (chs n a)))), (7, .long (lN (chs n a))), (5, .long (lN (chs (n - b) a))), (4, .int (nI n)), (0, .ref xo), (1, .int x1), (2, .int x2), (3, .int x3)]) hx hb d_B_missed_67 hl (by decide) rfl (fun ls hl => ?_)
              refine lv_iload_n hx hb d_B_missed_69 rfl (lv_at hl 7 rfl) ?_
              refine bk_topi (y := nI p0) hxp ?_
              refine bk_if_ne (a := p0) (tgt := 78) hx hb (by first | omega | exact Nat.lt_of_le_of_lt (gcdF_le _ _ _) (by omega)) d_B_missed_70 (by decide) (fun c70 => ?_) (fun c70 => ?_)
              · refine lv_lload hx hb d_B_missed_78 (lv_at hl 1 rfl) ?_
                refine lv_lstore (lv' := [(11, .long (lN (chs n a))), (9, .long (lN (gcdF 128 (chs (n - b) a) (chs n a)))), (7, .long (lN (chs n a))), (5, .long (lN (chs (n - b) a))), (4, .int (nI n)), (0, .ref xo), (1, .int x1), (2, .int x2), (3, .int x3)]) hx hb d_B_missed_80 hl (by decide) rfl (fun ls hl => ?_)
                refine lv_lload hx hb d_B_missed_82 (lv_at hl 1 rfl) ?_
                refine lv_lconst (v := lN 0) hx hb d_B_missed_84 (by decide +kernel) ?_
                refine bk_ncmp_le (a := gcdF 128 (chs (n - b) a) (chs n a)) (b := 0) (tgt := 97) hx hb (by first | omega | exact Nat.lt_of_le_of_lt (gcdF_le _ _ _) (by omega)) (by first | omega | exact Nat.lt_of_le_of_lt (gcdF_le _ _ _) (by omega)) d_B_missed_85 d_B_missed_86 (by decide) (fun c85 => ?_) (fun c85 => ?_)
                · refine lv_lload hx hb d_B_missed_97 (lv_at hl 0 rfl) ?_
                  exact W.lret (v := lN (chs n a)) hx hb hr (fun t9 ht9 hW9 => ⟨lN (chs n a), rfl, Or.inl ⟨a, b, p0, ha, hb2, hp0, hxa, hxb, hxp, by rw [misN]; first | (rw [if_pos c70, if_pos (by omega)]; done) | (rw [if_neg c70, if_pos (by omega)]; done) | (rw [if_pos c70, if_neg (by omega)]; done) | (rw [if_neg c70, if_neg (by omega)]; done)⟩, ht9⟩) (fun q h => nomatch h) d_B_missed_99
                · refine lv_lload hx hb d_B_missed_89 (lv_at hl 0 rfl) ?_
                  refine lv_lload hx hb d_B_missed_91 (lv_at hl 1 rfl) ?_
                  refine bk_ldiv hx hb (by omega) (by omega) (Nat.lt_of_le_of_lt (gcdF_le _ _ _) (by omega)) d_B_missed_93 ?_
                  refine lv_goto (tgt := 99) hx hb d_B_missed_94 (by decide) ?_
                  exact W.lret (v := lN ((chs n a) / (gcdF 128 (chs (n - b) a) (chs n a)))) hx hb hr (fun t9 ht9 hW9 => ⟨lN ((chs n a) / (gcdF 128 (chs (n - b) a) (chs n a))), rfl, Or.inl ⟨a, b, p0, ha, hb2, hp0, hxa, hxb, hxp, by rw [misN]; first | (rw [if_pos c70, if_pos (by omega)]; done) | (rw [if_neg c70, if_pos (by omega)]; done) | (rw [if_pos c70, if_neg (by omega)]; done) | (rw [if_neg c70, if_neg (by omega)]; done)⟩, ht9⟩) (fun q h => nomatch h) d_B_missed_99
              · refine lv_lload hx hb d_B_missed_73 (lv_at hl 2 rfl) ?_
                refine lv_goto (tgt := 80) hx hb d_B_missed_75 (by decide) ?_
                refine lv_lstore (lv' := [(11, .long (lN (chs (n - b) a))), (9, .long (lN (gcdF 128 (chs (n - b) a) (chs n a)))), (7, .long (lN (chs n a))), (5, .long (lN (chs (n - b) a))), (4, .int (nI n)), (0, .ref xo), (1, .int x1), (2, .int x2), (3, .int x3)]) hx hb d_B_missed_80 hl (by decide) rfl (fun ls hl => ?_)
                refine lv_lload hx hb d_B_missed_82 (lv_at hl 1 rfl) ?_
                refine lv_lconst (v := lN 0) hx hb d_B_missed_84 (by decide +kernel) ?_
                refine bk_ncmp_le (a := gcdF 128 (chs (n - b) a) (chs n a)) (b := 0) (tgt := 97) hx hb (by first | omega | exact Nat.lt_of_le_of_lt (gcdF_le _ _ _) (by omega)) (by first | omega | exact Nat.lt_of_le_of_lt (gcdF_le _ _ _) (by omega)) d_B_missed_85 d_B_missed_86 (by decide) (fun c85 => ?_) (fun c85 => ?_)
                · refine lv_lload hx hb d_B_missed_97 (lv_at hl 0 rfl) ?_
                  exact W.lret (v := lN (chs (n - b) a)) hx hb hr (fun t9 ht9 hW9 => ⟨lN (chs (n - b) a), rfl, Or.inl ⟨a, b, p0, ha, hb2, hp0, hxa, hxb, hxp, by rw [misN]; first | (rw [if_pos c70, if_pos (by omega)]; done) | (rw [if_neg c70, if_pos (by omega)]; done) | (rw [if_pos c70, if_neg (by omega)]; done) | (rw [if_neg c70, if_neg (by omega)]; done)⟩, ht9⟩) (fun q h => nomatch h) d_B_missed_99
                · refine lv_lload hx hb d_B_missed_89 (lv_at hl 0 rfl) ?_
                  refine lv_lload hx hb d_B_missed_91 (lv_at hl 1 rfl) ?_
                  refine bk_ldiv hx hb (by omega) (by omega) (Nat.lt_of_le_of_lt (gcdF_le _ _ _) (by omega)) d_B_missed_93 ?_
                  refine lv_goto (tgt := 99) hx hb d_B_missed_94 (by decide) ?_
                  exact W.lret (v := lN ((chs (n - b) a) / (gcdF 128 (chs (n - b) a) (chs n a)))) hx hb hr (fun t9 ht9 hW9 => ⟨lN ((chs (n - b) a) / (gcdF 128 (chs (n - b) a) (chs n a))), rfl, Or.inl ⟨a, b, p0, ha, hb2, hp0, hxa, hxb, hxp, by rw [misN]; first | (rw [if_pos c70, if_pos (by omega)]; done) | (rw [if_neg c70, if_pos (by omega)]; done) | (rw [if_pos c70, if_neg (by omega)]; done) | (rw [if_neg c70, if_neg (by omega)]; done)⟩, ht9⟩) (fun q h => nomatch h) d_B_missed_99
            · refine lv_ldc2 (own := R_B) (v := (-1)) hx hb hown (htg _ k2_86) d_B_missed_38 ?_
              exact W.lret (v := (-1)) hx hb hr (fun t9 ht9 hW9 => ⟨(-1), rfl, Or.inr ⟨fun z9 => by obtain ⟨⟨q1, g1, k1⟩, ⟨q2, g2, k2⟩, ⟨q3, g3, k3⟩⟩ := z9; first | exact (by rw [k1] at c10; exact nI_pos (by omega) c10) | exact no_gt k1 (by omega) (by omega) (by omega) c16 | exact (by rw [k2] at c20; exact nI_pos (by omega) c20) | exact no_gt k2 (by omega) (by omega) (by omega) c26 | exact (by rw [k3] at c30; exact nI_pos (by omega) c30) | exact no_gt (n := 1) k3 (by omega) (by decide) (by omega) (bk_nle.mp c35), rfl⟩, ht9⟩) (fun q h => nomatch h) d_B_missed_41
set_option maxHeartbeats 4000000 in
set_option maxRecDepth 100000 in
theorem c_B_camera (l : Launch) (dC : Nat → ClassId) (dI : Nat → Nat → Nat) (cI cL cZ : ClassId) (sz : Nat) (xo up us uj ul uk ut uq uw uc : Nat) (sd : Int64) (a1 : Nat) (mn : Nat → Nat) (b1 b2 b3 b4 n : Nat) (sh gr : Nat → Nat) (x y : Int32) (hn : n ≤ 30) (hsh : ∀ j, j < n → sh j < 10) (hgr : ∀ j, j < n → gr j ≤ 1000000000) : Met l y_B_camera ws_B_camera { frames := 3, cells := 0, slots := 0, locals := 76 } (va_Pc [.ref xo, .int x, .int y] (wrP (dC, dI) vwCl [(cI, .int), (cL, .long), (cZ, .boolean)] [(xo, .inr (0, [.long sd, .ref up, .ref us, .ref uj, .ref ul, .ref uk, .ref ut, .ref uq, .ref uw, .ref uc])), (uw, .inr (6, [.ref a1])), (a1, .inl (cL, 30, .inr (.inl (aL mn)))), (up, .inr (1, [.ref b1, .ref b2, .ref b3, .ref b4, .int (nI n)])), (b1, .inl (cI, 30, .inl (aI sh))), (b4, .inl (cL, 30, .inr (.inl (aL gr))))] sz)) (va_Qi (fun (r : Int32) (u : Nat → Nat) => ∃ k, r = nI k ∧ k ≤ 30 ∧ isCam (cl sh gr x n) y.toInt k) (fun (u : Nat → Nat) => wrQ (dC, dI) vwCl [(cI, .int), (cL, .long), (cZ, .boolean)] (va_A [(xo, .inr (0, [.long sd, .ref up, .ref us, .ref uj, .ref ul, .ref uk, .ref ut, .ref uq, .ref uw, .ref uc])), (uw, .inr (6, [.ref a1])), (a1, .inl (cL, 30, .inr (.inl (aL mn)))), (up, .inr (1, [.ref b1, .ref b2, .ref b3, .ref b4, .int (nI n)])), (b1, .inl (cI, 30, .inl (aI sh))), (b4, .inl (cL, 30, .inr (.inl (aL gr))))] sz) [(xo, .inr (0, [.long sd, .ref up, .ref us, .ref uj, .ref ul, .ref uk, .ref ut, .ref uq, .ref uw, .ref uc])), (uw, .inr (6, [.ref a1])), (a1, .inl (cL, 30, .inr (.inl (aL u)))), (up, .inr (1, [.ref b1, .ref b2, .ref b3, .ref b4, .int (nI n)])), (b1, .inl (cI, 30, .inl (aI sh))), (b4, .inl (cL, 30, .inr (.inl (aL gr))))]) (va_A [(xo, .inr (0, [.long sd, .ref up, .ref us, .ref uj, .ref ul, .ref uk, .ref ut, .ref uq, .ref uw, .ref uc])), (uw, .inr (6, [.ref a1])), (a1, .inl (cL, 30, .inr (.inl (aL mn)))), (up, .inr (1, [.ref b1, .ref b2, .ref b3, .ref b4, .int (nI n)])), (b1, .inl (cI, 30, .inl (aI sh))), (b4, .inl (cL, 30, .inr (.inl (aL gr))))] sz)) 0 0 (va_A [(xo, .inr (0, [.long sd, .ref up, .ref us, .ref uj, .ref ul, .ref uk, .ref ut, .ref uq, .ref uw, .ref uc])), (uw, .inr (6, [.ref a1])), (a1, .inl (cL, 30, .inr (.inl (aL mn)))), (up, .inr (1, [.ref b1, .ref b2, .ref b3, .ref b4, .int (nI n)])), (b1, .inl (cI, 30, .inl (aI sh))), (b4, .inl (cL, 30, .inr (.inl (aL gr))))] sz) := by
  refine Met.ofW (cc := b_B_camera) (maxL := 3) (ret := (some .int)) (by decide) rfl ?_
  intro pr en s m args below meth c s₁ B hml hv
  obtain ⟨rfl, hN, hsz, hP, hK, hD0⟩ := hv
  have hx := B.exec
  have hb := B.bytes
  have hr := B.returns
  have hts := atoms_spec (ws := ws_B_camera) B.pre
  have htg : ∀ w ∈ gW, w.before _ s = true := fun w h => hts w (List.mem_cons_of_mem _ h)
  have hown : s.vm.findClass R_B = some m.cls := findClass_of_methodNamed B.named
  have hlocks := B.notSynchronized
  subst hsz
  have hD := hD0.self (sz := s.heap.size)
  generalize hAe : va_A [(xo, .inr (0, [.long sd, .ref up, .ref us, .ref uj, .ref ul, .ref uk, .ref ut, .ref uq, .ref uw, .ref uc])), (uw, .inr (6, [.ref a1])), (a1, .inl (cL, 30, .inr (.inl (aL mn)))), (up, .inr (1, [.ref b1, .ref b2, .ref b3, .ref b4, .int (nI n)])), (b1, .inl (cI, 30, .inl (aI sh))), (b4, .inl (cL, 30, .inr (.inl (aL gr))))] s.heap.size = A at hD ⊢
  have hA : ∀ q : Nat, s.heap.size ≤ q → A q := fun q h => by rw [← hAe]; exact Or.inr h
  have hS : va_S A s.heap s.heap [] := va_S.rf
  have hP : va_P (dC, dI) vwCl [(xo, .inr (0, [.long sd, .ref up, .ref us, .ref uj, .ref ul, .ref uk, .ref ut, .ref uq, .ref uw, .ref uc])), (uw, .inr (6, [.ref a1])), (a1, .inl (cL, 30, .inr (.inl (aL mn)))), (up, .inr (1, [.ref b1, .ref b2, .ref b3, .ref b4, .int (nI n)])), (b1, .inl (cI, 30, .inl (aI sh))), (b4, .inl (cL, 30, .inr (.inl (aL gr))))] s.heap := hP
  have hl := lv_entry ([.ref xo, .int x, .int y]) (n := 3) (Nat.le_of_ble_eq_true rfl)
  rw [lg_entry_eq]
  generalize (lg_sl ([.ref xo, .int x, .int y]) ++ List.replicate (3 - (lg_sl ([.ref xo, .int x, .int y])).length) Slot.unset).toArray = ls at hl ⊢
  have hl : lv_has ls 3 [(0, .ref xo), (1, .int x), (2, .int y)] := hl
  refine lv_aload_n hx hb d_B_camera_0 rfl (lv_at hl 0 rfl) ?_
  refine va_get (D := (dC, dI)) (ci := 0) (v := .ref uw) (C := R_B) (T := F_B) (N := 10) hx hb htg iw_B hown hK hP 0 rfl rfl 8 (by decide) (htg _ k1_165) (fun _ h9 => h9) rfl d_B_camera_1 ?_
  refine lv_aload_n hx hb d_B_camera_4 rfl (lv_at hl 0 rfl) ?_
  refine va_get (D := (dC, dI)) (ci := 0) (v := .ref up) (C := R_B) (T := F_B) (N := 10) hx hb htg iw_B hown hK hP 0 rfl rfl 1 (by decide) (htg _ k1_158) (fun _ h9 => h9) rfl d_B_camera_5 ?_
  refine lv_iload_n hx hb d_B_camera_8 rfl (lv_at hl 1 rfl) ?_
  refine lv_iload_n hx hb d_B_camera_9 rfl (lv_at hl 2 rfl) ?_
  have hPc := hP.sub (ws' := [(uw, .inr (6, [.ref a1])), (a1, .inl (cL, 30, .inr (.inl (aL mn)))), (up, .inr (1, [.ref b1, .ref b2, .ref b3, .ref b4, .int (nI n)])), (b1, .inl (cI, 30, .inl (aI sh))), (b4, .inl (cL, 30, .inr (.inl (aL gr))))]) [1, 2, 3, 4, 5] rfl
  have hDc := hD.sub (ws' := [(uw, .inr (6, [.ref a1])), (a1, .inl (cL, 30, .inr (.inl (aL mn)))), (up, .inr (1, [.ref b1, .ref b2, .ref b3, .ref b4, .int (nI n)])), (b1, .inl (cI, 30, .inl (aI sh))), (b4, .inl (cL, 30, .inr (.inl (aL gr))))]) [1, 2, 3, 4, 5] (by decide) rfl
  have hFc := va_free (wc := [(uw, .inr (6, [.ref a1])), (a1, .inl (cL, 30, .inr (.inl (aL mn)))), (up, .inr (1, [.ref b1, .ref b2, .ref b3, .ref b4, .int (nI n)])), (b1, .inl (cI, 30, .inl (aI sh))), (b4, .inl (cL, 30, .inr (.inl (aL gr))))]) hD hS hA [1, 2, 3, 4, 5] rfl
  refine va_calli (va_runV (As := [.ref up, .int x, .int y]) (rest := []) ⟨hx, hb, hml, hown, htg⟩ (c_Wa_most l dC dI cI cL cZ s.heap.size uw a1 mn up b1 b2 b3 b4 n sh gr x y hn hsh hgr) (cwV 3 htg (gdV k2_173 k2_174 k2_175 k1_7 kc_Wa_most) rfl rfl rfl (by decide +kernel) ⟨Nat.le_of_ble_eq_true rfl, Nat.le_of_ble_eq_true rfl⟩) ⟨bk_blindW, va_recv hK hP (ci := 6) (q0 := 1) rfl rfl, fun U hU hW => ⟨rfl, nw_warm hW hN, by rw [hU], by rw [hU]; exact hPc, va_K.moved hW.alike hK, hDc.weaken (fun _ _ _ _ => trivial)⟩⟩ rfl rfl hl.1 rfl (lv_room (Nat.le_of_ble_eq_true rfl)) d_B_camera_10 ⟨Nat.le_of_ble_eq_true rfl, Nat.le_of_ble_eq_true rfl⟩) hS (fun q _ h => hFc q h) hFc (fun r10 u t H1 locs ht hvm e10 hB hz1 hk1 hS => ?_)
  obtain ⟨hP1, hK1, hD1⟩ := hB
  rw [ht] at hP1
  try dsimp only at e10
  obtain ⟨mn10, rfl⟩ : ∃ z, z = u := ⟨_, rfl⟩
  obtain ⟨c10, rfl, hc10, hcam10⟩ := e10
  obtain ⟨hP, hD⟩ := va_join (wr := [(xo, .inr (0, [.long sd, .ref up, .ref us, .ref uj, .ref ul, .ref uk, .ref ut, .ref uq, .ref uw, .ref uc]))]) (w1 := [(uw, .inr (6, [.ref a1])), (a1, .inl (cL, 30, .inr (.inl (aL mn10)))), (up, .inr (1, [.ref b1, .ref b2, .ref b3, .ref b4, .int (nI n)])), (b1, .inl (cI, 30, .inl (aI sh))), (b4, .inl (cL, 30, .inr (.inl (aL gr))))]) hP hD [1, 2, 3, 4, 5] [0] rfl rfl (by decide) (by decide) hk1 hFc hP1 hD1
  generalize H1 = H at hP hS ⊢
  have hP : va_P (dC, dI) vwCl [(xo, .inr (0, [.long sd, .ref up, .ref us, .ref uj, .ref ul, .ref uk, .ref ut, .ref uq, .ref uw, .ref uc])), (uw, .inr (6, [.ref a1])), (a1, .inl (cL, 30, .inr (.inl (aL mn10)))), (up, .inr (1, [.ref b1, .ref b2, .ref b3, .ref b4, .int (nI n)])), (b1, .inl (cI, 30, .inl (aI sh))), (b4, .inl (cL, 30, .inr (.inl (aL gr))))] H := hP.sub [0, 1, 2, 3, 4, 5] rfl
  have hD : va_D A [(xo, .inr (0, [.long sd, .ref up, .ref us, .ref uj, .ref ul, .ref uk, .ref ut, .ref uq, .ref uw, .ref uc])), (uw, .inr (6, [.ref a1])), (a1, .inl (cL, 30, .inr (.inl (aL mn10)))), (up, .inr (1, [.ref b1, .ref b2, .ref b3, .ref b4, .int (nI n)])), (b1, .inl (cI, 30, .inl (aI sh))), (b4, .inl (cL, 30, .inr (.inl (aL gr))))] := hD.sub [0, 1, 2, 3, 4, 5] (by decide) rfl
  have hP9 := hP.sub (ws' := [(xo, .inr (0, [.long sd, .ref up, .ref us, .ref uj, .ref ul, .ref uk, .ref ut, .ref uq, .ref uw, .ref uc])), (uw, .inr (6, [.ref a1])), (a1, .inl (cL, 30, .inr (.inl (aL mn10)))), (up, .inr (1, [.ref b1, .ref b2, .ref b3, .ref b4, .int (nI n)])), (b1, .inl (cI, 30, .inl (aI sh))), (b4, .inl (cL, 30, .inr (.inl (aL gr))))]) [0, 1, 2, 3, 4, 5] rfl
  have hD9 := hD.sub (ws' := [(xo, .inr (0, [.long sd, .ref up, .ref us, .ref uj, .ref ul, .ref uk, .ref ut, .ref uq, .ref uw, .ref uc])), (uw, .inr (6, [.ref a1])), (a1, .inl (cL, 30, .inr (.inl (aL mn10)))), (up, .inr (1, [.ref b1, .ref b2, .ref b3, .ref b4, .int (nI n)])), (b1, .inl (cI, 30, .inl (aI sh))), (b4, .inl (cL, 30, .inr (.inl (aL gr))))]) [0, 1, 2, 3, 4, 5] (by decide) rfl
  exact W.iret (v := nI c10) hx hb hr (fun t9 ht9 hW9 => ⟨⟨nI c10, (mn10), rfl, ⟨c10, rfl, hc10, hcam10⟩, by rw [ht9]; exact hP9, va_K.moved hW9.alike hK, hD9⟩, hS.F ht9⟩) hS.2.2 d_B_camera_13
set_option maxHeartbeats 4000000 in
set_option maxRecDepth 100000 in
theorem c_B_act (l : Launch) (dC : Nat → ClassId) (dI : Nat → Nat → Nat) (cI cL cZ : ClassId) (sz : Nat) (xo up us uj ul uk ut uq uw uc : Nat) (sd : Int64) (a1 a2 a3 : Nat) (sa wr : Nat → Nat) (pe : Nat → Option Nat) (x1 x2 x3 : Int32) (hsa : ∀ j, j < 10 → sa j ≤ 3) (hpe : ∀ j k, pe j = some k → k < 100) : Met l y_B_act ws_B_act { frames := 2, cells := 0, slots := 0, locals := 45 } (va_Pc [.ref xo, .int x1, .int x2, .int x3] (wrP (dC, dI) vwCl [(cI, .int), (cL, .long), (cZ, .boolean)] [(xo, .inr (0, [.long sd, .ref up, .ref us, .ref uj, .ref ul, .ref uk, .ref ut, .ref uq, .ref uw, .ref uc])), (uc, .inr (7, [.ref a1, .ref a2, .ref a3])), (a1, .inl (cI, 10, .inl (aI sa))), (a2, .inl (cI, 10, .inl (aI wr))), (a3, .inl (cI, 10, .inl (aO pe)))] sz)) (va_Qi (fun (r : Int32) (u : (Nat → Nat) × (Nat → Nat) × (Nat → Option Nat)) => (∃ to, actOk sa pe x1 x2 x3 to ∧ r = nI to ∧ u = (va_up sa (tn x1) to, (if x2 = nI 0 then va_up wr (tn x1) (wr (tn x1) + 1) else wr), va_up pe (tn x1) (some (tn x3)))) ∨ ((∀ to, ¬ actOk sa pe x1 x2 x3 to) ∧ r = oI none ∧ u = (sa, wr, pe))) (fun (u : (Nat → Nat) × (Nat → Nat) × (Nat → Option Nat)) => wrQ (dC, dI) vwCl [(cI, .int), (cL, .long), (cZ, .boolean)] (va_A [(xo, .inr (0, [.long sd, .ref up, .ref us, .ref uj, .ref ul, .ref uk, .ref ut, .ref uq, .ref uw, .ref uc])), (uc, .inr (7, [.ref a1, .ref a2, .ref a3])), (a1, .inl (cI, 10, .inl (aI sa))), (a2, .inl (cI, 10, .inl (aI wr))), (a3, .inl (cI, 10, .inl (aO pe)))] sz) [(xo, .inr (0, [.long sd, .ref up, .ref us, .ref uj, .ref ul, .ref uk, .ref ut, .ref uq, .ref uw, .ref uc])), (uc, .inr (7, [.ref a1, .ref a2, .ref a3])), (a1, .inl (cI, 10, .inl (aI u.1))), (a2, .inl (cI, 10, .inl (aI u.2.1))), (a3, .inl (cI, 10, .inl (aO u.2.2)))]) (va_A [(xo, .inr (0, [.long sd, .ref up, .ref us, .ref uj, .ref ul, .ref uk, .ref ut, .ref uq, .ref uw, .ref uc])), (uc, .inr (7, [.ref a1, .ref a2, .ref a3])), (a1, .inl (cI, 10, .inl (aI sa))), (a2, .inl (cI, 10, .inl (aI wr))), (a3, .inl (cI, 10, .inl (aO pe)))] sz)) 0 0 (va_A [(xo, .inr (0, [.long sd, .ref up, .ref us, .ref uj, .ref ul, .ref uk, .ref ut, .ref uq, .ref uw, .ref uc])), (uc, .inr (7, [.ref a1, .ref a2, .ref a3])), (a1, .inl (cI, 10, .inl (aI sa))), (a2, .inl (cI, 10, .inl (aI wr))), (a3, .inl (cI, 10, .inl (aO pe)))] sz) := by
  refine Met.ofW (cc := b_B_act) (maxL := 4) (ret := (some .int)) (by decide) rfl ?_
  intro pr en s m args below meth c s₁ B hml hv
  obtain ⟨rfl, hN, hsz, hP, hK, hD0⟩ := hv
  have hx := B.exec
  have hb := B.bytes
  have hr := B.returns
  have hts := atoms_spec (ws := ws_B_act) B.pre
  have htg : ∀ w ∈ gW, w.before _ s = true := fun w h => hts w (List.mem_cons_of_mem _ h)
  have hown : s.vm.findClass R_B = some m.cls := findClass_of_methodNamed B.named
  have hlocks := B.notSynchronized
  subst hsz
  have hD := hD0.self (sz := s.heap.size)
  generalize hAe : va_A [(xo, .inr (0, [.long sd, .ref up, .ref us, .ref uj, .ref ul, .ref uk, .ref ut, .ref uq, .ref uw, .ref uc])), (uc, .inr (7, [.ref a1, .ref a2, .ref a3])), (a1, .inl (cI, 10, .inl (aI sa))), (a2, .inl (cI, 10, .inl (aI wr))), (a3, .inl (cI, 10, .inl (aO pe)))] s.heap.size = A at hD ⊢
  have hA : ∀ q : Nat, s.heap.size ≤ q → A q := fun q h => by rw [← hAe]; exact Or.inr h
  have hS : va_S A s.heap s.heap [] := va_S.rf
  have hP : va_P (dC, dI) vwCl [(xo, .inr (0, [.long sd, .ref up, .ref us, .ref uj, .ref ul, .ref uk, .ref ut, .ref uq, .ref uw, .ref uc])), (uc, .inr (7, [.ref a1, .ref a2, .ref a3])), (a1, .inl (cI, 10, .inl (aI sa))), (a2, .inl (cI, 10, .inl (aI wr))), (a3, .inl (cI, 10, .inl (aO pe)))] s.heap := hP
  have hl := lv_entry ([.ref xo, .int x1, .int x2, .int x3]) (n := 4) (Nat.le_of_ble_eq_true rfl)
  rw [lg_entry_eq]
  generalize (lg_sl ([.ref xo, .int x1, .int x2, .int x3]) ++ List.replicate (4 - (lg_sl ([.ref xo, .int x1, .int x2, .int x3])).length) Slot.unset).toArray = ls at hl ⊢
  have hl : lv_has ls 4 [(0, .ref xo), (1, .int x1), (2, .int x2), (3, .int x3)] := hl
  refine lv_aload_n hx hb d_B_act_0 rfl (lv_at hl 0 rfl) ?_
  refine va_get (D := (dC, dI)) (ci := 0) (v := .ref uc) (C := R_B) (T := F_B) (N := 10) hx hb htg iw_B hown hK hP 0 rfl rfl 9 (by decide) (htg _ k1_166) (fun _ h9 => h9) rfl d_B_act_1 ?_
  refine lv_iload_n hx hb d_B_act_4 rfl (lv_at hl 1 rfl) ?_
  refine lv_iload_n hx hb d_B_act_5 rfl (lv_at hl 2 rfl) ?_
  refine lv_iload_n hx hb d_B_act_6 rfl (lv_at hl 3 rfl) ?_
  have hPc := hP.sub (ws' := [(uc, .inr (7, [.ref a1, .ref a2, .ref a3])), (a1, .inl (cI, 10, .inl (aI sa))), (a2, .inl (cI, 10, .inl (aI wr))), (a3, .inl (cI, 10, .inl (aO pe)))]) [1, 2, 3, 4] rfl
  have hDc := hD.sub (ws' := [(uc, .inr (7, [.ref a1, .ref a2, .ref a3])), (a1, .inl (cI, 10, .inl (aI sa))), (a2, .inl (cI, 10, .inl (aI wr))), (a3, .inl (cI, 10, .inl (aO pe)))]) [1, 2, 3, 4] (by decide) rfl
  have hFc := va_free (wc := [(uc, .inr (7, [.ref a1, .ref a2, .ref a3])), (a1, .inl (cI, 10, .inl (aI sa))), (a2, .inl (cI, 10, .inl (aI wr))), (a3, .inl (cI, 10, .inl (aO pe)))]) hD hS hA [1, 2, 3, 4] rfl
  refine va_calli (va_runV (As := [.int x1, .int x2, .int x3]) (rest := []) ⟨hx, hb, hml, hown, htg⟩ (c_Ac_tell l dC dI cI cL cZ s.heap.size uc a1 a2 a3 sa wr pe x1 x2 x3 hsa hpe) (cwV 3 htg (gdV k2_191 k2_192 k2_193 k1_8 kc_Ac_tell) rfl rfl rfl (by decide +kernel) ⟨Nat.le_of_ble_eq_true rfl, Nat.le_of_ble_eq_true rfl⟩) ⟨bk_blindW, va_recv hK hP (ci := 7) (q0 := 1) rfl rfl, fun U hU hW => ⟨rfl, nw_warm hW hN, by rw [hU], by rw [hU]; exact hPc, va_K.moved hW.alike hK, hDc.weaken (fun _ _ _ _ => trivial)⟩⟩ rfl rfl hl.1 rfl (lv_room (Nat.le_of_ble_eq_true rfl)) d_B_act_7 ⟨Nat.le_of_ble_eq_true rfl, Nat.le_of_ble_eq_true rfl⟩) hS (fun q _ h => hFc q h) hFc (fun r7 u t H1 locs ht hvm e7 hB hz1 hk1 hS => ?_)
  obtain ⟨hP1, hK1, hD1⟩ := hB
  rw [ht] at hP1
  try dsimp only at e7
  rcases e7 with ⟨to7, ok7, rfl, rfl⟩ | ⟨no7, rfl, rfl⟩
  · obtain ⟨hP, hD⟩ := va_join (wr := [(xo, .inr (0, [.long sd, .ref up, .ref us, .ref uj, .ref ul, .ref uk, .ref ut, .ref uq, .ref uw, .ref uc]))]) (w1 := [(uc, .inr (7, [.ref a1, .ref a2, .ref a3])), (a1, .inl (cI, 10, .inl (aI (va_up sa (tn x1) to7)))), (a2, .inl (cI, 10, .inl (aI (if x2 = nI 0 then va_up wr (tn x1) (wr (tn x1) + 1) else wr)))), (a3, .inl (cI, 10, .inl (aO (va_up pe (tn x1) (some (tn x3))))))]) hP hD [1, 2, 3, 4] [0] rfl rfl (by decide) (by decide) hk1 hFc hP1 hD1
    generalize H1 = H at hP hS ⊢
    have hP : va_P (dC, dI) vwCl [(xo, .inr (0, [.long sd, .ref up, .ref us, .ref uj, .ref ul, .ref uk, .ref ut, .ref uq, .ref uw, .ref uc])), (uc, .inr (7, [.ref a1, .ref a2, .ref a3])), (a1, .inl (cI, 10, .inl (aI (va_up sa (tn x1) to7)))), (a2, .inl (cI, 10, .inl (aI (if x2 = nI 0 then va_up wr (tn x1) (wr (tn x1) + 1) else wr)))), (a3, .inl (cI, 10, .inl (aO (va_up pe (tn x1) (some (tn x3))))))] H := hP.sub [0, 1, 2, 3, 4] rfl
    have hD : va_D A [(xo, .inr (0, [.long sd, .ref up, .ref us, .ref uj, .ref ul, .ref uk, .ref ut, .ref uq, .ref uw, .ref uc])), (uc, .inr (7, [.ref a1, .ref a2, .ref a3])), (a1, .inl (cI, 10, .inl (aI (va_up sa (tn x1) to7)))), (a2, .inl (cI, 10, .inl (aI (if x2 = nI 0 then va_up wr (tn x1) (wr (tn x1) + 1) else wr)))), (a3, .inl (cI, 10, .inl (aO (va_up pe (tn x1) (some (tn x3))))))] := hD.sub [0, 1, 2, 3, 4] (by decide) rfl
    have hP9 := hP.sub (ws' := [(xo, .inr (0, [.long sd, .ref up, .ref us, .ref uj, .ref ul, .ref uk, .ref ut, .ref uq, .ref uw, .ref uc])), (uc, .inr (7, [.ref a1, .ref a2, .ref a3])), (a1, .inl (cI, 10, .inl (aI (va_up sa (tn x1) to7)))), (a2, .inl (cI, 10, .inl (aI (if x2 = nI 0 then va_up wr (tn x1) (wr (tn x1) + 1) else wr)))), (a3, .inl (cI, 10, .inl (aO (va_up pe (tn x1) (some (tn x3))))))]) [0, 1, 2, 3, 4] rfl
    have hD9 := hD.sub (ws' := [(xo, .inr (0, [.long sd, .ref up, .ref us, .ref uj, .ref ul, .ref uk, .ref ut, .ref uq, .ref uw, .ref uc])), (uc, .inr (7, [.ref a1, .ref a2, .ref a3])), (a1, .inl (cI, 10, .inl (aI (va_up sa (tn x1) to7)))), (a2, .inl (cI, 10, .inl (aI (if x2 = nI 0 then va_up wr (tn x1) (wr (tn x1) + 1) else wr)))), (a3, .inl (cI, 10, .inl (aO (va_up pe (tn x1) (some (tn x3))))))]) [0, 1, 2, 3, 4] (by decide) rfl
    exact W.iret (v := nI to7) hx hb hr (fun t9 ht9 hW9 => ⟨⟨nI to7, (va_up sa (tn x1) to7, (if x2 = nI 0 then va_up wr (tn x1) (wr (tn x1) + 1) else wr), va_up pe (tn x1) (some (tn x3))), rfl, Or.inl ⟨to7, ok7, rfl, rfl⟩, by rw [ht9]; exact hP9, va_K.moved hW9.alike hK, hD9⟩, hS.F ht9⟩) hS.2.2 d_B_act_10
  · obtain ⟨hP, hD⟩ := va_join (wr := [(xo, .inr (0, [.long sd, .ref up, .ref us, .ref uj, .ref ul, .ref uk, .ref ut, .ref uq, .ref uw, .ref uc]))]) (w1 := [(uc, .inr (7, [.ref a1, .ref a2, .ref a3])), (a1, .inl (cI, 10, .inl (aI sa))), (a2, .inl (cI, 10, .inl (aI wr))), (a3, .inl (cI, 10, .inl (aO pe)))]) hP hD [1, 2, 3, 4] [0] rfl rfl (by decide) (by decide) hk1 hFc hP1 hD1
    generalize H1 = H at hP hS ⊢
    have hP : va_P (dC, dI) vwCl [(xo, .inr (0, [.long sd, .ref up, .ref us, .ref uj, .ref ul, .ref uk, .ref ut, .ref uq, .ref uw, .ref uc])), (uc, .inr (7, [.ref a1, .ref a2, .ref a3])), (a1, .inl (cI, 10, .inl (aI sa))), (a2, .inl (cI, 10, .inl (aI wr))), (a3, .inl (cI, 10, .inl (aO pe)))] H := hP.sub [0, 1, 2, 3, 4] rfl
    have hD : va_D A [(xo, .inr (0, [.long sd, .ref up, .ref us, .ref uj, .ref ul, .ref uk, .ref ut, .ref uq, .ref uw, .ref uc])), (uc, .inr (7, [.ref a1, .ref a2, .ref a3])), (a1, .inl (cI, 10, .inl (aI sa))), (a2, .inl (cI, 10, .inl (aI wr))), (a3, .inl (cI, 10, .inl (aO pe)))] := hD.sub [0, 1, 2, 3, 4] (by decide) rfl
    have hP9 := hP.sub (ws' := [(xo, .inr (0, [.long sd, .ref up, .ref us, .ref uj, .ref ul, .ref uk, .ref ut, .ref uq, .ref uw, .ref uc])), (uc, .inr (7, [.ref a1, .ref a2, .ref a3])), (a1, .inl (cI, 10, .inl (aI sa))), (a2, .inl (cI, 10, .inl (aI wr))), (a3, .inl (cI, 10, .inl (aO pe)))]) [0, 1, 2, 3, 4] rfl
    have hD9 := hD.sub (ws' := [(xo, .inr (0, [.long sd, .ref up, .ref us, .ref uj, .ref ul, .ref uk, .ref ut, .ref uq, .ref uw, .ref uc])), (uc, .inr (7, [.ref a1, .ref a2, .ref a3])), (a1, .inl (cI, 10, .inl (aI sa))), (a2, .inl (cI, 10, .inl (aI wr))), (a3, .inl (cI, 10, .inl (aO pe)))]) [0, 1, 2, 3, 4] (by decide) rfl
    exact W.iret (v := oI none) hx hb hr (fun t9 ht9 hW9 => ⟨⟨oI none, (sa, wr, pe), rfl, Or.inr ⟨no7, rfl, rfl⟩, by rw [ht9]; exact hP9, va_K.moved hW9.alike hK, hD9⟩, hS.F ht9⟩) hS.2.2 d_B_act_10
set_option maxHeartbeats 4000000 in
set_option maxRecDepth 100000 in
theorem c_B_state (l : Launch) (dC : Nat → ClassId) (dI : Nat → Nat → Nat) (cI cL cZ : ClassId) (xo up us uj ul uk ut uq uw uc : Nat) (sd : Int64) (a1 a2 a3 : Nat) (sa : Nat → Nat) (x : Int32) : Met l y_B_state ws_B_state { frames := 1, cells := 0, slots := 0, locals := 20 } (va_Pc [.ref xo, .int x] (rdP (dC, dI) vwCl [(cI, .int), (cL, .long), (cZ, .boolean)] [(xo, .inr (0, [.long sd, .ref up, .ref us, .ref uj, .ref ul, .ref uk, .ref ut, .ref uq, .ref uw, .ref uc])), (uc, .inr (7, [.ref a1, .ref a2, .ref a3])), (a1, .inl (cI, 10, .inl (aI sa)))])) (vp_Si (fun r => (∃ j, j < 10 ∧ x = nI j ∧ r = nI (sa j)) ∨ (¬ inR 10 x ∧ r = oI none))) 0 0 (fun _ => False) := by
  refine Met.ofW (cc := b_B_state) (maxL := 2) (ret := (some .int)) (by decide) rfl ?_
  intro pr en s m args below meth c s₁ B hml hv
  obtain ⟨rfl, hN, hP, hK⟩ := hv
  have hx := B.exec
  have hb := B.bytes
  have hr := B.returns
  have hts := atoms_spec (ws := ws_B_state) B.pre
  have htg : ∀ w ∈ gW, w.before _ s = true := fun w h => hts w (List.mem_cons_of_mem _ h)
  have hown : s.vm.findClass R_B = some m.cls := findClass_of_methodNamed B.named
  have hlocks := B.notSynchronized
  have hl := lv_entry ([.ref xo, .int x]) (n := 2) (Nat.le_of_ble_eq_true rfl)
  rw [lg_entry_eq]
  generalize (lg_sl ([.ref xo, .int x]) ++ List.replicate (2 - (lg_sl ([.ref xo, .int x])).length) Slot.unset).toArray = ls at hl ⊢
  have hl : lv_has ls 2 [(0, .ref xo), (1, .int x)] := hl
  refine lv_iload_n hx hb d_B_state_0 rfl (lv_at hl 1 rfl) ?_
  refine vp_callSi (va_runS (As := [.int x]) (rest := []) ⟨hx, hb, hml, hown, htg⟩ (c_B_isShip l dC dI cI cL cZ x ) (va_cwS 1 htg (gdS k2_203 k1_197 k1_1 kc_B_isShip) rfl rfl rfl (by decide +kernel) ⟨Nat.le_of_ble_eq_true rfl, Nat.le_of_ble_eq_true rfl⟩) ⟨bk_blind0, fun U hU hW => ⟨rfl, trivial⟩⟩ rfl rfl hl.1 rfl (lv_room (Nat.le_of_ble_eq_true rfl)) d_B_state_1 ⟨Nat.le_of_ble_eq_true rfl, Nat.le_of_ble_eq_true rfl⟩).run (fun r1 e1 => ?_)
  rcases e1 with ⟨⟨j1, hj1, hx1⟩, rfl⟩ | ⟨n1, rfl⟩
  · refine bk_if_eq (a := 1) (tgt := 19) hx hb (by omega) d_B_state_4 (by decide) (fun c4 => absurd c4 (by decide)) (fun c4 => ?_)
    refine lv_aload_n hx hb d_B_state_7 rfl (lv_at hl 0 rfl) ?_
    refine va_get (D := (dC, dI)) (ci := 0) (v := .ref uc) (C := R_B) (T := F_B) (N := 10) hx hb htg iw_B hown hK hP 0 rfl rfl 9 (by decide) (htg _ k1_166) (fun _ h9 => h9) rfl d_B_state_8 ?_
    refine va_get (D := (dC, dI)) (ci := 7) (v := .ref a1) (C := R_Ac) (T := F_Ac) (N := 3) hx hb htg iw_Ac hown hK hP 1 rfl rfl 0 (by decide) (htg _ k1_146) (fun _ h9 => h9) rfl d_B_state_11 ?_
    refine lv_iload_n hx hb d_B_state_14 rfl (lv_at hl 1 rfl) ?_
    refine bk_topi (y := nI j1) hx1 ?_
    refine bk_iald (v := nI (sa j1)) hx hb hK hP 2 0 rfl rfl (by omega) (by decide) rfl d_B_state_15 ?_
    refine lv_goto (tgt := 20) hx hb d_B_state_16 (by decide) ?_
    exact W.iret (v := nI (sa j1)) hx hb hr (fun t9 ht9 hW9 => ⟨nI (sa j1), rfl, Or.inl ⟨j1, hj1, hx1, rfl⟩, ht9⟩) (fun q h => nomatch h) d_B_state_20
  · refine bk_if_eq (a := 0) (tgt := 19) hx hb (by omega) d_B_state_4 (by decide) (fun c4 => ?_) (fun c4 => absurd c4 (by decide))
    refine lv_iconst (v := oI none) hx hb d_B_state_19 (by decide +kernel) ?_
    exact W.iret (v := oI none) hx hb hr (fun t9 ht9 hW9 => ⟨oI none, rfl, Or.inr ⟨n1, rfl⟩, ht9⟩) (fun q h => nomatch h) d_B_state_20
set_option maxHeartbeats 4000000 in
set_option maxRecDepth 100000 in
theorem c_B_repeated (l : Launch) (dC : Nat → ClassId) (dI : Nat → Nat → Nat) (cI cL cZ : ClassId) (xo up us uj ul uk ut uq uw uc : Nat) (sd : Int64) (a1 a2 a3 : Nat) (wr : Nat → Nat) (x : Int32) : Met l y_B_repeated ws_B_repeated { frames := 1, cells := 0, slots := 0, locals := 20 } (va_Pc [.ref xo, .int x] (rdP (dC, dI) vwCl [(cI, .int), (cL, .long), (cZ, .boolean)] [(xo, .inr (0, [.long sd, .ref up, .ref us, .ref uj, .ref ul, .ref uk, .ref ut, .ref uq, .ref uw, .ref uc])), (uc, .inr (7, [.ref a1, .ref a2, .ref a3])), (a2, .inl (cI, 10, .inl (aI wr)))])) (vp_Si (fun r => (∃ j, j < 10 ∧ x = nI j ∧ r = nI (wr j)) ∨ (¬ inR 10 x ∧ r = oI none))) 0 0 (fun _ => False) := by
  refine Met.ofW (cc := b_B_repeated) (maxL := 2) (ret := (some .int)) (by decide) rfl ?_
  intro pr en s m args below meth c s₁ B hml hv
  obtain ⟨rfl, hN, hP, hK⟩ := hv
  have hx := B.exec
  have hb := B.bytes
  have hr := B.returns
  have hts := atoms_spec (ws := ws_B_repeated) B.pre
  have htg : ∀ w ∈ gW, w.before _ s = true := fun w h => hts w (List.mem_cons_of_mem _ h)
  have hown : s.vm.findClass R_B = some m.cls := findClass_of_methodNamed B.named
  have hlocks := B.notSynchronized
  have hl := lv_entry ([.ref xo, .int x]) (n := 2) (Nat.le_of_ble_eq_true rfl)
  rw [lg_entry_eq]
  generalize (lg_sl ([.ref xo, .int x]) ++ List.replicate (2 - (lg_sl ([.ref xo, .int x])).length) Slot.unset).toArray = ls at hl ⊢
  have hl : lv_has ls 2 [(0, .ref xo), (1, .int x)] := hl
  refine lv_iload_n hx hb d_B_repeated_0 rfl (lv_at hl 1 rfl) ?_
  refine vp_callSi (va_runS (As := [.int x]) (rest := []) ⟨hx, hb, hml, hown, htg⟩ (c_B_isShip l dC dI cI cL cZ x ) (va_cwS 1 htg (gdS k2_203 k1_197 k1_1 kc_B_isShip) rfl rfl rfl (by decide +kernel) ⟨Nat.le_of_ble_eq_true rfl, Nat.le_of_ble_eq_true rfl⟩) ⟨bk_blind0, fun U hU hW => ⟨rfl, trivial⟩⟩ rfl rfl hl.1 rfl (lv_room (Nat.le_of_ble_eq_true rfl)) d_B_repeated_1 ⟨Nat.le_of_ble_eq_true rfl, Nat.le_of_ble_eq_true rfl⟩).run (fun r1 e1 => ?_)
  rcases e1 with ⟨⟨j1, hj1, hx1⟩, rfl⟩ | ⟨n1, rfl⟩
  · refine bk_if_eq (a := 1) (tgt := 19) hx hb (by omega) d_B_repeated_4 (by decide) (fun c4 => absurd c4 (by decide)) (fun c4 => ?_)
    refine lv_aload_n hx hb d_B_repeated_7 rfl (lv_at hl 0 rfl) ?_
    refine va_get (D := (dC, dI)) (ci := 0) (v := .ref uc) (C := R_B) (T := F_B) (N := 10) hx hb htg iw_B hown hK hP 0 rfl rfl 9 (by decide) (htg _ k1_166) (fun _ h9 => h9) rfl d_B_repeated_8 ?_
    refine va_get (D := (dC, dI)) (ci := 7) (v := .ref a2) (C := R_Ac) (T := F_Ac) (N := 3) hx hb htg iw_Ac hown hK hP 1 rfl rfl 1 (by decide) (htg _ k1_148) (fun _ h9 => h9) rfl d_B_repeated_11 ?_
    refine lv_iload_n hx hb d_B_repeated_14 rfl (lv_at hl 1 rfl) ?_
    refine bk_topi (y := nI j1) hx1 ?_
    refine bk_iald (v := nI (wr j1)) hx hb hK hP 2 0 rfl rfl (by omega) (by decide) rfl d_B_repeated_15 ?_
    refine lv_goto (tgt := 20) hx hb d_B_repeated_16 (by decide) ?_
    exact W.iret (v := nI (wr j1)) hx hb hr (fun t9 ht9 hW9 => ⟨nI (wr j1), rfl, Or.inl ⟨j1, hj1, hx1, rfl⟩, ht9⟩) (fun q h => nomatch h) d_B_repeated_20
  · refine bk_if_eq (a := 0) (tgt := 19) hx hb (by omega) d_B_repeated_4 (by decide) (fun c4 => ?_) (fun c4 => absurd c4 (by decide))
    refine lv_iconst (v := oI none) hx hb d_B_repeated_19 (by decide +kernel) ?_
    exact W.iret (v := oI none) hx hb hr (fun t9 ht9 hW9 => ⟨oI none, rfl, Or.inr ⟨n1, rfl⟩, ht9⟩) (fun q h => nomatch h) d_B_repeated_20
end

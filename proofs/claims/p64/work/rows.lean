section
-- ===== PART A: goes FIRST, ahead of the names: the tables' words, and 'selects' of the private methods out of them =====
/-- a private method of a class that the tables say can be made, by its rows of tables_1 -/
def lw_okq (q : MethodName × Nat) : Prop := (q.1.cls ≠ "java/lang/invoke/MethodHandle" ∧ q.1.cls ≠ "java/lang/invoke/VarHandle") ∧ Cond.instantiable q.1.cls q.2 ∈ tables_1 ∧ Cond.privateMethod q.1 ∈ tables_1 ∧ Cond.instanceMethod q.1 ∈ tables_1
theorem lw_p0 : lw_okq (⟨"java/lang/Throwable", "fillInStackTrace", "(I)Ljava/lang/Throwable;"⟩, 6) := ⟨⟨by decide +kernel, by decide +kernel⟩, List.mem_of_getElem? (i := 696) (by decide +kernel), List.mem_of_getElem? (i := 694) (by decide +kernel), List.mem_of_getElem? (i := 695) (by decide +kernel)⟩
theorem lw_p1 : lw_okq (⟨"BlastPlannerLaw$Drawn", "neighbour", "(LBlastPlannerLaw$Draws;I)V"⟩, 27) := ⟨⟨by decide +kernel, by decide +kernel⟩, List.mem_of_getElem? (i := 428) (by decide +kernel), List.mem_of_getElem? (i := 755) (by decide +kernel), List.mem_of_getElem? (i := 756) (by decide +kernel)⟩
theorem lw_p2 : lw_okq (⟨"BlastPlannerLaw$Drawn", "blast", "(LBlastPlannerLaw$Draws;I)V"⟩, 27) := ⟨⟨by decide +kernel, by decide +kernel⟩, List.mem_of_getElem? (i := 428) (by decide +kernel), List.mem_of_getElem? (i := 784) (by decide +kernel), List.mem_of_getElem? (i := 785) (by decide +kernel)⟩
theorem lw_p3 : lw_okq (⟨"BlastPlanner$Tokens", "skipSpaces", "()V"⟩, 5) := ⟨⟨by decide +kernel, by decide +kernel⟩, List.mem_of_getElem? (i := 48) (by decide +kernel), List.mem_of_getElem? (i := 918) (by decide +kernel), List.mem_of_getElem? (i := 919) (by decide +kernel)⟩
theorem lw_p4 : lw_okq (⟨"BlastPlanner$Parser", "parseLine", "(LBlastPlanner$Site;)V"⟩, 1) := ⟨⟨by decide +kernel, by decide +kernel⟩, List.mem_of_getElem? (i := 42) (by decide +kernel), List.mem_of_getElem? (i := 922) (by decide +kernel), List.mem_of_getElem? (i := 923) (by decide +kernel)⟩
theorem lw_p5 : lw_okq (⟨"BlastPlanner$Tokens", "endOfRun", "(CC)I"⟩, 5) := ⟨⟨by decide +kernel, by decide +kernel⟩, List.mem_of_getElem? (i := 48) (by decide +kernel), List.mem_of_getElem? (i := 931) (by decide +kernel), List.mem_of_getElem? (i := 932) (by decide +kernel)⟩
theorem lw_p6 : lw_okq (⟨"BlastPlanner$Parser", "parseNeighbour", "(LBlastPlanner$Site;I)V"⟩, 1) := ⟨⟨by decide +kernel, by decide +kernel⟩, List.mem_of_getElem? (i := 42) (by decide +kernel), List.mem_of_getElem? (i := 951) (by decide +kernel), List.mem_of_getElem? (i := 952) (by decide +kernel)⟩
theorem lw_p7 : lw_okq (⟨"BlastPlanner$Tokens", "nameUpTo", "(I)I"⟩, 5) := ⟨⟨by decide +kernel, by decide +kernel⟩, List.mem_of_getElem? (i := 48) (by decide +kernel), List.mem_of_getElem? (i := 964) (by decide +kernel), List.mem_of_getElem? (i := 965) (by decide +kernel)⟩
theorem lw_p8 : lw_okq (⟨"BlastPlanner$Tokens", "valueUpTo", "(I)I"⟩, 5) := ⟨⟨by decide +kernel, by decide +kernel⟩, List.mem_of_getElem? (i := 48) (by decide +kernel), List.mem_of_getElem? (i := 973) (by decide +kernel), List.mem_of_getElem? (i := 974) (by decide +kernel)⟩
theorem lw_p9 : lw_okq (⟨"BlastPlanner$Parser", "parseWindow", "(LBlastPlanner$Neighbour;)V"⟩, 1) := ⟨⟨by decide +kernel, by decide +kernel⟩, List.mem_of_getElem? (i := 42) (by decide +kernel), List.mem_of_getElem? (i := 982) (by decide +kernel), List.mem_of_getElem? (i := 983) (by decide +kernel)⟩
theorem lw_p10 : lw_okq (⟨"BlastPlanner$Parser", "parseRoad", "(LBlastPlanner$Site;I)V"⟩, 1) := ⟨⟨by decide +kernel, by decide +kernel⟩, List.mem_of_getElem? (i := 42) (by decide +kernel), List.mem_of_getElem? (i := 996) (by decide +kernel), List.mem_of_getElem? (i := 997) (by decide +kernel)⟩
theorem lw_p11 : lw_okq (⟨"BlastPlanner$Parser", "parseBlast", "(LBlastPlanner$Site;I)V"⟩, 1) := ⟨⟨by decide +kernel, by decide +kernel⟩, List.mem_of_getElem? (i := 42) (by decide +kernel), List.mem_of_getElem? (i := 1001) (by decide +kernel), List.mem_of_getElem? (i := 1002) (by decide +kernel)⟩
theorem lw_p12 : lw_okq (⟨"BlastPlanner$Parser", "parseCharge", "(LBlastPlanner$Blast;)V"⟩, 1) := ⟨⟨by decide +kernel, by decide +kernel⟩, List.mem_of_getElem? (i := 42) (by decide +kernel), List.mem_of_getElem? (i := 1005) (by decide +kernel), List.mem_of_getElem? (i := 1006) (by decide +kernel)⟩
theorem lw_p13 : lw_okq (⟨"BlastPlanner$Parser", "parseSetting", "(LBlastPlanner$Site;)V"⟩, 1) := ⟨⟨by decide +kernel, by decide +kernel⟩, List.mem_of_getElem? (i := 42) (by decide +kernel), List.mem_of_getElem? (i := 1014) (by decide +kernel), List.mem_of_getElem? (i := 1015) (by decide +kernel)⟩
theorem lw_p14 : lw_okq (⟨"BlastPlanner$Parser", "parseWind", "(LBlastPlanner$Site;)V"⟩, 1) := ⟨⟨by decide +kernel, by decide +kernel⟩, List.mem_of_getElem? (i := 42) (by decide +kernel), List.mem_of_getElem? (i := 1023) (by decide +kernel), List.mem_of_getElem? (i := 1024) (by decide +kernel)⟩
theorem lw_p15 : lw_okq (⟨"BlastPlanner$Site", "measureNeighbours", "(LBlastPlanner$Blast;)V"⟩, 18) := ⟨⟨by decide +kernel, by decide +kernel⟩, List.mem_of_getElem? (i := 172) (by decide +kernel), List.mem_of_getElem? (i := 1038) (by decide +kernel), List.mem_of_getElem? (i := 1039) (by decide +kernel)⟩
def lw_privs_1 : List (MethodName × Nat) := [(⟨"java/lang/Throwable", "fillInStackTrace", "(I)Ljava/lang/Throwable;"⟩, 6), (⟨"BlastPlannerLaw$Drawn", "neighbour", "(LBlastPlannerLaw$Draws;I)V"⟩, 27), (⟨"BlastPlannerLaw$Drawn", "blast", "(LBlastPlannerLaw$Draws;I)V"⟩, 27), (⟨"BlastPlanner$Tokens", "skipSpaces", "()V"⟩, 5), (⟨"BlastPlanner$Parser", "parseLine", "(LBlastPlanner$Site;)V"⟩, 1), (⟨"BlastPlanner$Tokens", "endOfRun", "(CC)I"⟩, 5), (⟨"BlastPlanner$Parser", "parseNeighbour", "(LBlastPlanner$Site;I)V"⟩, 1), (⟨"BlastPlanner$Tokens", "nameUpTo", "(I)I"⟩, 5), (⟨"BlastPlanner$Tokens", "valueUpTo", "(I)I"⟩, 5), (⟨"BlastPlanner$Parser", "parseWindow", "(LBlastPlanner$Neighbour;)V"⟩, 1), (⟨"BlastPlanner$Parser", "parseRoad", "(LBlastPlanner$Site;I)V"⟩, 1), (⟨"BlastPlanner$Parser", "parseBlast", "(LBlastPlanner$Site;I)V"⟩, 1), (⟨"BlastPlanner$Parser", "parseCharge", "(LBlastPlanner$Blast;)V"⟩, 1), (⟨"BlastPlanner$Parser", "parseSetting", "(LBlastPlanner$Site;)V"⟩, 1), (⟨"BlastPlanner$Parser", "parseWind", "(LBlastPlanner$Site;)V"⟩, 1), (⟨"BlastPlanner$Site", "measureNeighbours", "(LBlastPlanner$Blast;)V"⟩, 18)]
theorem lw_r1 : ∀ q ∈ lw_privs_1, lw_okq q := List.forall_mem_cons.mpr ⟨lw_p0, List.forall_mem_cons.mpr ⟨lw_p1, List.forall_mem_cons.mpr ⟨lw_p2, List.forall_mem_cons.mpr ⟨lw_p3, List.forall_mem_cons.mpr ⟨lw_p4, List.forall_mem_cons.mpr ⟨lw_p5, List.forall_mem_cons.mpr ⟨lw_p6, List.forall_mem_cons.mpr ⟨lw_p7, List.forall_mem_cons.mpr ⟨lw_p8, List.forall_mem_cons.mpr ⟨lw_p9, List.forall_mem_cons.mpr ⟨lw_p10, List.forall_mem_cons.mpr ⟨lw_p11, List.forall_mem_cons.mpr ⟨lw_p12, List.forall_mem_cons.mpr ⟨lw_p13, List.forall_mem_cons.mpr ⟨lw_p14, List.forall_mem_cons.mpr ⟨lw_p15, fun _ h => absurd h List.not_mem_nil⟩⟩⟩⟩⟩⟩⟩⟩⟩⟩⟩⟩⟩⟩⟩⟩
theorem lw_p16 : lw_okq (⟨"BlastPlanner$Site", "measureRoads", "(LBlastPlanner$Blast;)V"⟩, 18) := ⟨⟨by decide +kernel, by decide +kernel⟩, List.mem_of_getElem? (i := 172) (by decide +kernel), List.mem_of_getElem? (i := 1045) (by decide +kernel), List.mem_of_getElem? (i := 1046) (by decide +kernel)⟩
theorem lw_p17 : lw_okq (⟨"BlastPlanner$Site", "neighboursInDust", "(LBlastPlanner$Blast;I)I"⟩, 18) := ⟨⟨by decide +kernel, by decide +kernel⟩, List.mem_of_getElem? (i := 172) (by decide +kernel), List.mem_of_getElem? (i := 1054) (by decide +kernel), List.mem_of_getElem? (i := 1055) (by decide +kernel)⟩
theorem lw_p18 : lw_okq (⟨"BlastPlanner", "blastAt", "(I)LBlastPlanner$Blast;"⟩, 10) := ⟨⟨by decide +kernel, by decide +kernel⟩, List.mem_of_getElem? (i := 34) (by decide +kernel), List.mem_of_getElem? (i := 1096) (by decide +kernel), List.mem_of_getElem? (i := 1097) (by decide +kernel)⟩
theorem lw_p19 : lw_okq (⟨"BlastPlanner", "needBlast", "(I)V"⟩, 10) := ⟨⟨by decide +kernel, by decide +kernel⟩, List.mem_of_getElem? (i := 34) (by decide +kernel), List.mem_of_getElem? (i := 1100) (by decide +kernel), List.mem_of_getElem? (i := 1101) (by decide +kernel)⟩
theorem lw_p20 : lw_okq (⟨"BlastPlanner", "neighbourAt", "(I)LBlastPlanner$Neighbour;"⟩, 10) := ⟨⟨by decide +kernel, by decide +kernel⟩, List.mem_of_getElem? (i := 34) (by decide +kernel), List.mem_of_getElem? (i := 1128) (by decide +kernel), List.mem_of_getElem? (i := 1129) (by decide +kernel)⟩
theorem lw_p21 : lw_okq (⟨"BlastPlanner", "roadAt", "(I)LBlastPlanner$Road;"⟩, 10) := ⟨⟨by decide +kernel, by decide +kernel⟩, List.mem_of_getElem? (i := 34) (by decide +kernel), List.mem_of_getElem? (i := 1138) (by decide +kernel), List.mem_of_getElem? (i := 1139) (by decide +kernel)⟩
theorem lw_p22 : lw_okq (⟨"BlastPlanner", "needRange", "(III)V"⟩, 10) := ⟨⟨by decide +kernel, by decide +kernel⟩, List.mem_of_getElem? (i := 34) (by decide +kernel), List.mem_of_getElem? (i := 1159) (by decide +kernel), List.mem_of_getElem? (i := 1160) (by decide +kernel)⟩
theorem lw_p23 : lw_okq (⟨"BlastPlanner$Site", "quietFor", "(LBlastPlanner$Blast;I)Z"⟩, 18) := ⟨⟨by decide +kernel, by decide +kernel⟩, List.mem_of_getElem? (i := 172) (by decide +kernel), List.mem_of_getElem? (i := 1176) (by decide +kernel), List.mem_of_getElem? (i := 1177) (by decide +kernel)⟩
theorem lw_p24 : lw_okq (⟨"BlastPlanner$Site", "crowded", "(II[I)Z"⟩, 18) := ⟨⟨by decide +kernel, by decide +kernel⟩, List.mem_of_getElem? (i := 172) (by decide +kernel), List.mem_of_getElem? (i := 1181) (by decide +kernel), List.mem_of_getElem? (i := 1182) (by decide +kernel)⟩
theorem lw_p25 : lw_okq (⟨"BlastPlanner", "isAllowed", "(II)Z"⟩, 10) := ⟨⟨by decide +kernel, by decide +kernel⟩, List.mem_of_getElem? (i := 34) (by decide +kernel), List.mem_of_getElem? (i := 1198) (by decide +kernel), List.mem_of_getElem? (i := 1199) (by decide +kernel)⟩
theorem lw_p26 : lw_okq (⟨"BlastPlanner", "startsWithReason", "(II)I"⟩, 10) := ⟨⟨by decide +kernel, by decide +kernel⟩, List.mem_of_getElem? (i := 34) (by decide +kernel), List.mem_of_getElem? (i := 1206) (by decide +kernel), List.mem_of_getElem? (i := 1207) (by decide +kernel)⟩
theorem lw_p27 : lw_okq (⟨"BlastPlanner", "recordAction", "()V"⟩, 10) := ⟨⟨by decide +kernel, by decide +kernel⟩, List.mem_of_getElem? (i := 34) (by decide +kernel), List.mem_of_getElem? (i := 1230) (by decide +kernel), List.mem_of_getElem? (i := 1231) (by decide +kernel)⟩
theorem lw_p28 : lw_okq (⟨"BlastPlanner", "needScheduled", "(I)V"⟩, 10) := ⟨⟨by decide +kernel, by decide +kernel⟩, List.mem_of_getElem? (i := 34) (by decide +kernel), List.mem_of_getElem? (i := 1243) (by decide +kernel), List.mem_of_getElem? (i := 1244) (by decide +kernel)⟩
theorem lw_p29 : lw_okq (⟨"BlastPlanner$MinuteSet", "insert", "(II)V"⟩, 3) := ⟨⟨by decide +kernel, by decide +kernel⟩, List.mem_of_getElem? (i := 153) (by decide +kernel), List.mem_of_getElem? (i := 1294) (by decide +kernel), List.mem_of_getElem? (i := 1295) (by decide +kernel)⟩
theorem lw_p30 : lw_okq (⟨"BlastPlanner", "sirenAt", "(I)I"⟩, 10) := ⟨⟨by decide +kernel, by decide +kernel⟩, List.mem_of_getElem? (i := 34) (by decide +kernel), List.mem_of_getElem? (i := 1330) (by decide +kernel), List.mem_of_getElem? (i := 1331) (by decide +kernel)⟩
theorem lw_p31 : lw_okq (⟨"BlastPlanner$SirenList", "insert", "(III)V"⟩, 2) := ⟨⟨by decide +kernel, by decide +kernel⟩, List.mem_of_getElem? (i := 126) (by decide +kernel), List.mem_of_getElem? (i := 1338) (by decide +kernel), List.mem_of_getElem? (i := 1339) (by decide +kernel)⟩
def lw_privs_2 : List (MethodName × Nat) := [(⟨"BlastPlanner$Site", "measureRoads", "(LBlastPlanner$Blast;)V"⟩, 18), (⟨"BlastPlanner$Site", "neighboursInDust", "(LBlastPlanner$Blast;I)I"⟩, 18), (⟨"BlastPlanner", "blastAt", "(I)LBlastPlanner$Blast;"⟩, 10), (⟨"BlastPlanner", "needBlast", "(I)V"⟩, 10), (⟨"BlastPlanner", "neighbourAt", "(I)LBlastPlanner$Neighbour;"⟩, 10), (⟨"BlastPlanner", "roadAt", "(I)LBlastPlanner$Road;"⟩, 10), (⟨"BlastPlanner", "needRange", "(III)V"⟩, 10), (⟨"BlastPlanner$Site", "quietFor", "(LBlastPlanner$Blast;I)Z"⟩, 18), (⟨"BlastPlanner$Site", "crowded", "(II[I)Z"⟩, 18), (⟨"BlastPlanner", "isAllowed", "(II)Z"⟩, 10), (⟨"BlastPlanner", "startsWithReason", "(II)I"⟩, 10), (⟨"BlastPlanner", "recordAction", "()V"⟩, 10), (⟨"BlastPlanner", "needScheduled", "(I)V"⟩, 10), (⟨"BlastPlanner$MinuteSet", "insert", "(II)V"⟩, 3), (⟨"BlastPlanner", "sirenAt", "(I)I"⟩, 10), (⟨"BlastPlanner$SirenList", "insert", "(III)V"⟩, 2)]
theorem lw_r2 : ∀ q ∈ lw_privs_2, lw_okq q := List.forall_mem_cons.mpr ⟨lw_p16, List.forall_mem_cons.mpr ⟨lw_p17, List.forall_mem_cons.mpr ⟨lw_p18, List.forall_mem_cons.mpr ⟨lw_p19, List.forall_mem_cons.mpr ⟨lw_p20, List.forall_mem_cons.mpr ⟨lw_p21, List.forall_mem_cons.mpr ⟨lw_p22, List.forall_mem_cons.mpr ⟨lw_p23, List.forall_mem_cons.mpr ⟨lw_p24, List.forall_mem_cons.mpr ⟨lw_p25, List.forall_mem_cons.mpr ⟨lw_p26, List.forall_mem_cons.mpr ⟨lw_p27, List.forall_mem_cons.mpr ⟨lw_p28, List.forall_mem_cons.mpr ⟨lw_p29, List.forall_mem_cons.mpr ⟨lw_p30, List.forall_mem_cons.mpr ⟨lw_p31, fun _ h => absurd h List.not_mem_nil⟩⟩⟩⟩⟩⟩⟩⟩⟩⟩⟩⟩⟩⟩⟩⟩
theorem lw_p32 : lw_okq (⟨"BlastPlanner", "findPlan", "()V"⟩, 10) := ⟨⟨by decide +kernel, by decide +kernel⟩, List.mem_of_getElem? (i := 34) (by decide +kernel), List.mem_of_getElem? (i := 1364) (by decide +kernel), List.mem_of_getElem? (i := 1365) (by decide +kernel)⟩
theorem lw_p33 : lw_okq (⟨"BlastPlanner$PlanSearch", "keep", "(LBlastPlanner$Site;I)V"⟩, 6) := ⟨⟨by decide +kernel, by decide +kernel⟩, List.mem_of_getElem? (i := 98) (by decide +kernel), List.mem_of_getElem? (i := 1386) (by decide +kernel), List.mem_of_getElem? (i := 1387) (by decide +kernel)⟩
theorem lw_p34 : lw_okq (⟨"BlastPlanner$PlanSearch", "newlyClosed", "(LBlastPlanner$Site;II)I"⟩, 6) := ⟨⟨by decide +kernel, by decide +kernel⟩, List.mem_of_getElem? (i := 98) (by decide +kernel), List.mem_of_getElem? (i := 1393) (by decide +kernel), List.mem_of_getElem? (i := 1394) (by decide +kernel)⟩
theorem lw_p35 : lw_okq (⟨"BlastPlanner$PlanSearch", "newlyClosedOf", "(LBlastPlanner$Site;II)I"⟩, 6) := ⟨⟨by decide +kernel, by decide +kernel⟩, List.mem_of_getElem? (i := 98) (by decide +kernel), List.mem_of_getElem? (i := 1398) (by decide +kernel), List.mem_of_getElem? (i := 1399) (by decide +kernel)⟩
def lw_privs_3 : List (MethodName × Nat) := [(⟨"BlastPlanner", "findPlan", "()V"⟩, 10), (⟨"BlastPlanner$PlanSearch", "keep", "(LBlastPlanner$Site;I)V"⟩, 6), (⟨"BlastPlanner$PlanSearch", "newlyClosed", "(LBlastPlanner$Site;II)I"⟩, 6), (⟨"BlastPlanner$PlanSearch", "newlyClosedOf", "(LBlastPlanner$Site;II)I"⟩, 6)]
theorem lw_r3 : ∀ q ∈ lw_privs_3, lw_okq q := List.forall_mem_cons.mpr ⟨lw_p32, List.forall_mem_cons.mpr ⟨lw_p33, List.forall_mem_cons.mpr ⟨lw_p34, List.forall_mem_cons.mpr ⟨lw_p35, fun _ h => absurd h List.not_mem_nil⟩⟩⟩⟩
def lw_privs : List (MethodName × Nat) := lw_privs_1 ++ (lw_privs_2 ++ (lw_privs_3))
def lw_tbl : List Cond := k2_sels lw_privs ++ tables_1
theorem lw_privs_ok : ∀ q ∈ lw_privs, lw_okq q := by
  show ∀ q ∈ lw_privs_1 ++ (lw_privs_2 ++ (lw_privs_3)), lw_okq q
  exact List.forall_mem_append.mpr ⟨lw_r1, List.forall_mem_append.mpr ⟨lw_r2, lw_r3⟩⟩
end
section
/-- the tables hold the class of arrays over arrays of ty -/
def va_AOA (ty : FieldType) (U : State) : Prop := (Cond.arrayOver (.array ty)).before #[] U = true
theorem va_AOA.use {ty : FieldType} {A : Array Value} {U : State} (h : va_AOA ty U) : (Cond.arrayOver (.array ty)).before A U = true := h
/-! ===== BEGIN words of one list among another's, by their places ===== -/
theorem goodIn_r {big : List Cond} (ws : List Cond) (ps : List Nat) (hp : ws = ps.filterMap (fun i => big[i]?)) (h : ws.all goodWord = true) : GoodIn big ws := by
  intro w hw
  have h1 := List.all_eq_true.mp h w hw
  rw [hp] at hw
  obtain ⟨i, -, hi⟩ := List.mem_filterMap.mp hw
  have hm : w ∈ big := by first | exact List.mem_of_getElem? hi | exact List.getElem?_mem hi
  exact ⟨hm, good_of_word h1⟩
theorem goodIn_app {big a b : List Cond} (ha : GoodIn big a) (hb : GoodIn big b) : GoodIn big (a ++ b) := fun w h => (List.mem_append.mp h).elim (ha w) (hb w)
theorem goodIn_ca {big a b : List Cond} {c : Cond} (ha : GoodIn big (c :: a)) (hb : GoodIn big b) : GoodIn big (c :: (a ++ b)) := fun w h => (List.mem_cons.mp h).elim (fun e => ha w (List.mem_cons.mpr (Or.inl e))) (fun h => (List.mem_append.mp h).elim (fun h => ha w (List.mem_cons.mpr (Or.inr h))) (hb w))
theorem goodIn_sub {big ws : List Cond} (hm : ∀ w ∈ ws, w ∈ big) (h : ws.all goodWord = true) : GoodIn big ws := fun w hw => ⟨hm w hw, good_of_word (List.all_eq_true.mp h w hw)⟩
/-! ===== END ===== -/

/-! ===== BEGIN new T[n][m]: the outer array a place, the inner ones among the pooled ===== -/
/-- f, but v at every address of l -/
def vr_up {α : Type} (f : Nat → α) (l : List Nat) (v : α) : Nat → α := fun a => if a ∈ l then v else f a
theorem vr_up_in {α : Type} {f : Nat → α} {l : List Nat} {v : α} {a : Nat} (h : a ∈ l) : vr_up f l v a = v := if_pos h
theorem vr_up_ne {α : Type} {f : Nat → α} {l : List Nat} {v : α} {a : Nat} (h : a ∉ l) : vr_up f l v a = f a := if_neg h
theorem vr_rows {L l : List Nat} {f : Nat → va_E} {e : va_E} (h : ∀ a, a ∈ l → a ∉ L) : va_pl L f ++ l.map (fun a => (a, e)) = va_pl (L ++ l) (vr_up f l e) := by
  unfold va_pl
  rw [List.map_append]
  congr 1
  · apply List.map_congr_left
    intro a ha
    rw [vr_up_ne (fun q => h a q ha)]
  · apply List.map_congr_left
    intro a ha
    rw [vr_up_in ha]
theorem vr_lay {X rows : va_W} {x : Nat × va_E} {pl : va_W} {D : va_G} {cl : List vw_C} {H : Heap} (hP : va_P D cl (((X ++ pl) ++ [x]) ++ rows) H) : va_P D cl ((X ++ [x]) ++ (pl ++ rows)) H := by
  rw [List.append_assoc (X ++ pl)] at hP
  have h := va_P.swap hP
  rw [← List.append_assoc X] at h
  have h2 := va_P.swap h
  rw [List.append_assoc (X ++ [x])] at h2
  exact h2
theorem vr_layD {X rows : va_W} {x : Nat × va_E} {pl : va_W} {A : Nat → Prop} (hD : va_D A (((X ++ pl) ++ [x]) ++ rows)) : va_D A ((X ++ [x]) ++ (pl ++ rows)) := by
  rw [List.append_assoc (X ++ pl)] at hD
  have h := va_D.swap hD
  rw [← List.append_assoc X] at h
  have h2 := va_D.swap h
  rw [List.append_assoc (X ++ [x])] at h2
  exact h2
theorem vr_outer (c : ClassId) (N h0 : Nat) : ∀ i : Nat, Jvm.Free.Multi.outerC c N h0 i = arrV c N (fun j => va_rf (if j < i then some (h0 + 1 + j) else none))
  | 0 => by
    show ({ cls := c, slots := Array.replicate N .null, vm := .none } : Cell) = _
    rw [arrV_new]
    refine congrArg (arrV c N) (funext fun j => ?_)
    simp [va_rf]
  | i + 1 => by
    show (Jvm.Free.Multi.outerC c N h0 i).setSlot i (.ref (h0 + 1 + i)) = _
    rw [vr_outer c N h0 i, arrV_store]
    refine congrArg (arrV c N) (funext fun j => ?_)
    by_cases e : j = i
    · subst e
      simp [updV, va_rf]
    · by_cases h : j < i
      · simp [updV, e, h, Nat.lt_succ_of_lt h]
      · simp [updV, e, h, show ¬ j < i + 1 by omega]
section VGM
variable {p : Program} {l : Launch} {e : Env} {R : Room} {s : State} {m : MethodId} {args : Array Value} {below : List Frame} {meth : Method} {c : Code} {H : Heap} {locs : List Loc} {cells slots : Nat} {Q : State → Prop}
variable {cc : ByteArray} {pc : Nat} {ls : Array Slot} {rest : List Value} {D : va_G} {cl : List vw_C} {A : Nat → Prop} {a : Nat} {tys : List (ClassId × FieldType)} {ws : va_W} {H0 : Heap}
theorem va_mna {X : va_W} {L : List Nat} {f : Nat → va_E} {cc : ByteArray} (hexec : p.tables.exec = Jvm.exec) (hb : c.code = cc) {own : String} {index : Nat} {ty : FieldType} {cy : ClassId} (hown : s.vm.findClass own = some m.cls) (hclink : (Cond.classLink own index ("[" ++ (FieldType.array ty).toString)).before args s = true) (hover : va_AOA ty s) (harr : (Cond.arrayClass ty).before args s = true) (hcy : s.vm.findClass (FieldType.array ty).toString = some cy)
    (hK : va_K D cl tys s) (hP : va_P D cl (X ++ va_pl L f) H) (hD : va_D A (X ++ va_pl L f)) (hS : va_S A H0 H locs) (hA : ∀ q, H0.size ≤ q → A q) {n k : Int32} {N' K' : Nat} {z : vp_A} (hn : ¬ n < 0) (hk : ¬ k < 0) (hN : n.toNatClampNeg = N') (hM : k.toNatClampNeg = K')
    (hb1 : N' * 4 ≤ 536870912) (hb2 : K' * componentBytes ty ≤ 536870912) (hb3 : K' ≤ 536870912) (hdf : fits ty (defaultValue ty) = true) (hdd : (defaultValue ty).isDefault = true) (hcells : cells + (1 + N') ≤ R.cells) (hslots : slots + (N' + N' * K') ≤ R.slots) (hz : ∀ c : ClassId, Jvm.Free.Multi.innerC c K' (defaultValue ty) = vp_cell c z) (hdg : decode cc pc = .ok (.multianewarray index 2, 4))
    (kk : ∀ (q : Nat) (r : Nat → Nat) (cA : ClassId) (H1 : Heap), (∀ i j : Nat, i < N' → j < N' → r i = r j → i = j) → (∀ i : Nat, i < N' → r i ∉ L) → va_K D cl (tys ++ [(cA, .array ty)]) s →
      va_P D cl ((X ++ [(q, .inl (cA, N', .inr (.inr (.inr (.inr (fun i => if i < N' then some (r i) else none))))))]) ++ va_pl (L ++ (List.range N').map r) (vr_up f ((List.range N').map r) (.inl (cy, z)))) H1 → va_D A ((X ++ [(q, .inl (cA, N', .inr (.inr (.inr (.inr (fun i => if i < N' then some (r i) else none))))))]) ++ va_pl (L ++ (List.range N').map r) (vr_up f ((List.range N').map r) (.inl (cy, z)))) → va_S A H0 H1 locs →
      W p l e R s m args below meth c H1 locs (cells + 1 + N') (slots + N' + N' * K') Q (F0 m (pc + 4) ls (.ref q :: rest))) : W p l e R s m args below meth c H locs cells slots Q (F0 m pc ls (.int k :: .int n :: rest)) := by
  subst hN
  subst hM
  intro T hT Xs
  obtain ⟨vm₁, cA, comp, -, fA, fC, hO, -, X', step⟩ := Xs.multianewarray2F hexec hown hclink (va_AOA.use hover) harr (g := F0 m pc ls (.int k :: .int n :: rest)) rfl (by rw [hb]; exact hdg) rfl hn hk hb1 hb2 hb3 hdf hdd hcells hslots
  have ec : some cy = some comp := hcy.symm.trans fC
  cases ec
  generalize hF : Jvm.Free.Multi.fill (T.setVm vm₁) cA cy n.toNatClampNeg k.toNatClampNeg (defaultValue ty) n.toNatClampNeg = F at X' step
  have hTh : (T.setVm vm₁).heap = H := hT
  obtain ⟨f1, f2, -, -⟩ := Jvm.Free.Multi.fill_facts (T.setVm vm₁) cA cy n.toNatClampNeg k.toNatClampNeg (defaultValue ty) n.toNatClampNeg
  rw [hF, hTh] at f1 f2
  have hold : ∀ x : Nat, x < H.size → F.heap[x]? = H[x]? := fun x hx => by
    have := Jvm.Free.Multi.fill_old (T.setVm vm₁) cA cy n.toNatClampNeg k.toNatClampNeg (defaultValue ty) (a := x) (by rw [hTh]; exact hx) n.toNatClampNeg
    rw [hF, hTh] at this
    exact this
  have hrow : ∀ j : Nat, j < n.toNatClampNeg → F.heap[H.size + 1 + j]? = some (vp_cell cy z) := fun j hj => by
    have := Jvm.Free.Multi.fill_inner (T.setVm vm₁) cA cy n.toNatClampNeg k.toNatClampNeg (defaultValue ty) n.toNatClampNeg j hj
    rw [hF, hTh, hz] at this
    exact this
  have hout : Jvm.Free.Multi.outerC cA n.toNatClampNeg H.size n.toNatClampNeg = vp_cell cA (n.toNatClampNeg, .inr (.inr (.inr (.inr (fun i => if i < n.toNatClampNeg then some (H.size + 1 + i) else none))))) := by
    rw [vp_cell_q]
    exact vr_outer cA n.toNatClampNeg H.size n.toNatClampNeg
  rw [hout] at f2
  have hlt : ∀ a, a ∈ L → a < H.size := fun a ha => by
    obtain ⟨k9, hk9⟩ := va_pl_get (X := X) (f := f) ha
    exact (hP k9 _ hk9).lt
  have hnl : ∀ i : Nat, i < n.toNatClampNeg → H.size + 1 + i ∉ L := fun i _ h => by
    have := hlt _ h
    omega
  have hnm : ∀ a, a ∈ (List.range n.toNatClampNeg).map (fun i => H.size + 1 + i) → a ∉ L := fun a ha h => by
    obtain ⟨i, -, rfl⟩ := List.mem_map.mp ha
    have := hlt _ h
    omega
  have hP0 : va_P D cl (X ++ va_pl L f) F.heap := hP.kept (fun k9 x hx => hold x.1 ((hP k9 x hx).lt))
  have hP1 : va_P D cl ((X ++ va_pl L f) ++ [(H.size, .inl (cA, n.toNatClampNeg, .inr (.inr (.inr (.inr (fun i => if i < n.toNatClampNeg then some (H.size + 1 + i) else none))))))]) F.heap := hP0.app (fun k9 x hx => by
    have h0 : k9 < 1 := (List.getElem?_eq_some_iff.mp hx).1
    rw [show k9 = 0 by omega] at hx
    cases hx
    exact f2)
  have hP2 : va_P D cl (((X ++ va_pl L f) ++ [(H.size, .inl (cA, n.toNatClampNeg, .inr (.inr (.inr (.inr (fun i => if i < n.toNatClampNeg then some (H.size + 1 + i) else none))))))]) ++ ((List.range n.toNatClampNeg).map (fun i => H.size + 1 + i)).map (fun a => (a, .inl (cy, z)))) F.heap := hP1.app (fun k9 x hx => by
    obtain ⟨a, ha, rfl⟩ := List.mem_map.mp (List.mem_of_getElem? hx)
    obtain ⟨i, hi, rfl⟩ := List.mem_map.mp ha
    exact hrow i (List.mem_range.mp hi))
  have hD2 : va_D A (((X ++ va_pl L f) ++ [(H.size, .inl (cA, n.toNatClampNeg, .inr (.inr (.inr (.inr (fun i => if i < n.toNatClampNeg then some (H.size + 1 + i) else none))))))]) ++ ((List.range n.toNatClampNeg).map (fun i => H.size + 1 + i)).map (fun a => (a, .inl (cy, z)))) := by
    have hD1 := hD.push (e := .inl (cA, n.toNatClampNeg, .inr (.inr (.inr (.inr (fun i => if i < n.toNatClampNeg then some (H.size + 1 + i) else none)))))) hP rfl (hA _ hS.1)
    generalize hW1 : (X ++ va_pl L f) ++ [(H.size, .inl (cA, n.toNatClampNeg, .inr (.inr (.inr (.inr (fun i => if i < n.toNatClampNeg then some (H.size + 1 + i) else none))))))] = W1 at hD1 hP1 ⊢
    have hle : ∀ (k9 : Nat) (x : Nat × va_E), W1[k9]? = some x → x.1 ≤ H.size := fun k9 x hx => by
      rw [← hW1] at hx
      by_cases hl : k9 < (X ++ va_pl L f).length
      · rw [List.getElem?_append_left hl] at hx
        exact Nat.le_of_lt ((hP k9 x hx).lt)
      · rw [List.getElem?_append_right (by omega)] at hx
        have h0 : k9 - (X ++ va_pl L f).length < 1 := (List.getElem?_eq_some_iff.mp hx).1
        rw [show k9 - (X ++ va_pl L f).length = 0 by omega] at hx
        cases hx
        exact Nat.le_refl _
    have hr : ∀ (k9 : Nat) (x : Nat × va_E), (((List.range n.toNatClampNeg).map (fun i => H.size + 1 + i)).map (fun a => ((a, .inl (cy, z)) : Nat × va_E)))[k9]? = some x → x.1 = H.size + 1 + k9 := fun k9 x hx => by
      rw [List.getElem?_map, List.getElem?_map] at hx
      by_cases h9 : k9 < n.toNatClampNeg
      · rw [List.getElem?_range h9] at hx
        cases hx
        rfl
      · have hn0 : (List.range n.toNatClampNeg)[k9]? = none := List.getElem?_eq_none (by rw [List.length_range]; omega)
        rw [hn0] at hx
        cases hx
    refine ⟨fun i j x y hi hj hxy => ?_, fun k9 x hx => ?_⟩
    · by_cases h1 : i < W1.length <;> by_cases h2 : j < W1.length
      · rw [List.getElem?_append_left h1] at hi
        rw [List.getElem?_append_left h2] at hj
        exact hD1.1 i j x y hi hj hxy
      · rw [List.getElem?_append_left h1] at hi
        rw [List.getElem?_append_right (by omega)] at hj
        have := hle _ _ hi
        have := hr _ _ hj
        omega
      · rw [List.getElem?_append_right (by omega)] at hi
        rw [List.getElem?_append_left h2] at hj
        have := hle _ _ hj
        have := hr _ _ hi
        omega
      · rw [List.getElem?_append_right (by omega)] at hi hj
        have := hr _ _ hi
        have := hr _ _ hj
        omega
    · by_cases h1 : k9 < W1.length
      · rw [List.getElem?_append_left h1] at hx
        exact hD1.2 k9 x hx
      · rw [List.getElem?_append_right (by omega)] at hx
        have := hr _ _ hx
        exact hA _ (by have := hS.1; omega)
  have hAr : ArrOfT s cA (.array ty) := fun N9 z9 => by
    obtain ⟨-, k9, hk9, cm9, hkk9⟩ := (hO 0 0 0).1
    exact ⟨(fun q hq => by cases hq), k9, hk9, cm9, hkk9⟩
  have hK2 : va_K D cl (tys ++ [(cA, .array ty)]) s := ⟨hK.1, fun k9 x hx => by
    by_cases hl : k9 < tys.length
    · rw [List.getElem?_append_left hl] at hx
      exact hK.2 k9 x hx
    · rw [List.getElem?_append_right (by omega)] at hx
      have h0 : k9 - tys.length < 1 := (List.getElem?_eq_some_iff.mp hx).1
      rw [show k9 - tys.length = 0 by omega] at hx
      cases hx
      exact ⟨hAr, fA⟩⟩
  obtain ⟨t, a1, b1⟩ := kk H.size (fun i => H.size + 1 + i) cA F.heap (fun i j _ _ h => by have h9 : H.size + 1 + i = H.size + 1 + j := h; omega) hnl hK2 (by rw [← vr_rows hnm]; exact vr_lay hP2) (by rw [← vr_rows hnm]; exact vr_layD hD2) ⟨by rw [f1]; have := hS.1; omega, fun x h1 h2 => (hold x (Nat.lt_of_lt_of_le h1 hS.1)).trans (hS.2.1 x h1 h2), hS.2.2⟩ F rfl X'
  refine ⟨t, step t ?_, b1⟩
  have e : T.heap.size = H.size := by rw [hT]
  rw [e]
  exact a1
end VGM
/-! ===== END ===== -/

/-! ===== BEGIN exceptions that leave a method, and their catching by the caller (launches without stack traces) ===== -/
section VXA
/-! The laws vx_back, vx_callV, vx_callS, vx_callSW, vx_throw0, vx_throwS follow proofs of the library, with one case more: JvmDerived/Free/Laws.lean (Back.of_free), Shelf42/LK1.lean (callV, callS), Shelf/KitTraced.lean (throwNew0V, throwNewS). -/
/-- where a method has thrown q: the class by its name, the cell, what was written, the world -/
def vx_T (XC : String → State → State → Prop) (st : State) (q : Addr) (t : State) (mc ms : Nat) (free : Addr → Prop) : Prop :=
  ∃ (E : String) (ce : Cell) (L : List Loc), XC E st t ∧ t.heap[q]? = some ce ∧ ce.vm = .none ∧ st.vm.findClass E = some ce.cls ∧ st.WarmedH t.vm ∧ st.sameButNew ({ t with vm := st.vm } : State) L mc ms ∧ ∀ z ∈ L, free z.base
def vx_Q (Qc : Array Value → State → Outcome → State → Prop) (XC : String → State → State → Prop) (mc ms : Nat) (free : Addr → Prop) : Array Value → State → Outcome → State → Prop := fun a st o t =>
  (Qc a st o t ∧ ∃ L, FrameEnd st o t L mc ms ∧ ∀ q ∈ L, free q.base) ∨ ∃ q, o = .threw q ∧ vx_T XC st q t mc ms free
/-- a callee that returns or throws -/
def vx_Met (l : Launch) (y : MethodName) (ws : List Cond) (rm : Room) (Pc : Array Value → State → Prop) (Qc : Array Value → State → Outcome → State → Prop) (XC : String → State → State → Prop) (mc ms : Nat) (free : Addr → Prop) : Prop :=
  MetFree l y (headSpec ws rm) Pc (fun _ _ _ _ _ => True) (vx_Q Qc XC mc ms free)
def vx_Post (XC : String → State → State → Prop) (mc ms : Nat) (free : Addr → Prop) : Pt → Array Value → Addr → Pt → Prop := fun A a q B =>
  ∃ (g : JFrame) (mk : MethodId) (t : State) (L : List Loc) (E : String) (ce : Cell), B.U.heap = t.heap ∧ B.U.vm = t.vm ∧ XC E (A.U.calling g mk a) t ∧ t.heap[q]? = some ce ∧ ce.vm = .none ∧ A.U.vm.findClass E = some ce.cls ∧ B.locs = A.locs ++ L ∧ (∀ z ∈ L, free z.base) ∧ B.cells = A.cells + mc ∧ B.slots = A.slots + ms
def vx_Back (l : Launch) (R : Room) (p : Program) (e : Env) (below : List Frame) (s : State) (sargs : Array Value) (y : MethodName) (len W9 : Nat)
    (Pre : Pt → Array Value → Prop) (Post : Pt → Array Value → Option Value → Pt → Prop) (PostX : Pt → Array Value → Addr → Pt → Prop) : Prop :=
  ∀ (m : MethodId) (meth : Method) (c : Code) (A : Pt) (g : JFrame) (ig : Instr) (mk : MethodId) (a : Array Value),
    Stand p l e R s m sargs below meth c A.U A.locs A.cells A.slots → g.method = m → g.locals.size = c.maxLocals → decode c.code g.pc = .ok (ig, len) →
    2 * g.monitorRoom + (g.stack.map fun v => v.category).sum ≤ W9 → A.U.methodNamed? y = some mk → Pre A a →
    (∃ (v : Option Value) (B : Pt), Stand p l e R s m sargs below meth c B.U B.locs B.cells B.slots ∧ Post A a v B ∧
      Steps p.tables e below (doInvoke e (A.U.setTop g) [] mk a).1 (B.U.setTop { g with pc := g.pc + len, stack := v.toList ++ g.stack })) ∨
    (∃ (q : Addr) (B : Pt), Stand p l e R s m sargs below meth c B.U B.locs B.cells B.slots ∧ PostX A a q B ∧
      Steps p.tables e below (doInvoke e (A.U.setTop g) [] mk a).1 ((B.U.setTop g).pushFrame (.throwing q)))
section Payer
variable {l : Launch} {R : Room} {p : Program} {e : Env} {below : List Frame} {s : State} {sargs : Array Value} {y : MethodName} {len W9 : Nat}
theorem vx_back {ws : List Cond} {rm : Room} {Pc : Array Value → State → Prop} {Qc : Array Value → State → Outcome → State → Prop} {XC : String → State → State → Prop} {mc ms : Nat} {free : Addr → Prop} {bytes : ByteArray} {maxL : Nat} {ret : Option FieldType}
    (hM : vx_Met l y ws rm Pc Qc XC mc ms free) (hblind : FrameBlind Pc) (hrc : rm.cells = mc) (hrs : rm.slots = ms)
    (hframes : rm.frames + 1 ≤ R.frames) (hlocals : W9 + (maxL + 11) + rm.locals ≤ R.locals)
    (hws : ∀ w ∈ ws, ∀ a' U, s.WarmedH U.vm → w.before a' U = true) (hcode : Cond.code y bytes maxL ret ∈ ws) (hinit : ∀ a' U, s.WarmedH U.vm → (Cond.initialized y.cls).before a' U = true) :
    vx_Back l R p e below s sargs y len W9 (PreOf R mc ms Pc) (PostOf Qc mc ms free) (vx_Post XC mc ms free) := by
  intro m meth c A g ig mk a X hg hsize hdg hW hn hp
  have h1 : (headSpec ws rm).pre.before a A.U = true := atoms_intro fun w hw => hws w hw _ _ X.warmed
  have h2 : (Cond.code y bytes maxL ret).before a A.U = true := hws _ hcode _ _ X.warmed
  have h3 : (Cond.initialized y.cls).before a A.U = true := hinit _ _ X.warmed
  have h4 : A.cells + (headSpec ws rm).room.cells ≤ R.cells := by rw [show (headSpec ws rm).room.cells = mc from hrc]; exact hp.1
  have h5 : A.slots + (headSpec ws rm).room.slots ≤ R.slots := by rw [show (headSpec ws rm).room.slots = ms from hrs]; exact hp.2.1
  have hPc : Pc a (A.U.calling g mk a) := hblind _ _ _ _ hp.2.2
  obtain ⟨U, Ls, c0, s0⟩ := A
  dsimp only [Pt.U, Pt.locs, Pt.cells, Pt.slots] at h1 h2 h3 h4 h5 X hn hPc ⊢
  obtain ⟨methY, cY, hmY, hcY, -, hlY, -, -, -, -⟩ := Cond.code_spec hn h2
  obtain ⟨kY, hkY, -⟩ := className_of_methodNamed hn
  have hinitY : kY.init = .initialized := Cond.initialized_spec (findClass_of_methodNamed hn) hkY h3
  have h : At U g.method c below := by rw [hg]; exact X.here
  have hlocals9 : W9 + (maxL + 11) + (headSpec ws rm).room.locals ≤ R.locals := hlocals
  have happ : (headSpec ws rm).appliesLoose y e.platform (U.calling g mk a) = true :=
    Spec.appliesLoose_calling (g := g) h hdg hn hkY hinitY
      (X.room_calling (g := g) (R' := (headSpec ws rm).room) hsize hmY hcY hframes (by rw [hlY]; omega) h4 h5) h1
  obtain ⟨mid, hmid⟩ := h.above
  have hfr : (U.setTop g).frames = (.java g :: mid) ++ below := by rw [State.frames_setTop' g h.top, hmid]; rfl
  obtain ⟨o, s₂, hsteps, -, hend, hq⟩ := Steps.callFree hM p X.admits X.cas X.clock (acts := []) hfr happ hPc trivial
  have hq' : vx_Q Qc XC mc ms free a (U.calling g mk a) o s₂ := hq
  rw [State.frames_setTop' g h.top] at hend
  obtain ⟨g₀, hg0⟩ := Option.isSome_iff_exists.mp h.top
  obtain ⟨r, hr⟩ := State.topJava?_eq_some.mp hg0
  have hr' : (({ U with heap := s₂.heap, slotsUsed := s₂.slotsUsed } : State).setVm s₂.vm).frames = .java g₀ :: r := hr
  rcases hq' with ⟨hqc, L, hfe, hL⟩ | ⟨q, rfl, E, ce, L, hx, hce, hcv, hcl, hW₂, hsm, hL⟩
  · obtain ⟨⟨v, rfl⟩, hW₂, e2, q2, q3, q4, q5, q6⟩ := id hfe
    have e3 : s₂ = ({ (U.calling g mk a).setFrames s₂.frames with heap := s₂.heap, slotsUsed := s₂.slotsUsed } : State).setVm s₂.vm := by
      have : s₂ = ({ s₂ with vm := (U.calling g mk a).vm } : State).setVm s₂.vm := rfl
      rw [e2] at this
      exact this
    obtain ⟨c₂, i₂, len₂, hc₂, hd₂, hf₂⟩ := hend
    have hW' : U.WarmedH s₂.vm := hW₂
    have hcc : c₂ = c := by
      have h1 : s₂.code? g.method = U.code? g.method := by
        rw [State.code?_eq, State.code?_eq, hW'.alike.method?]
      exact Option.some.inj (hc₂.symm.trans (h1.trans h.code))
    subst hcc
    have hlen : len₂ = len := by rw [hdg] at hd₂; cases hd₂; rfl
    subst hlen
    have hs₂ : s₂ = (({ U with heap := s₂.heap, slotsUsed := s₂.slotsUsed } : State).setVm s₂.vm).setTop { g with pc := g.pc + len₂, stack := v.toList ++ g.stack } := by
      refine e3.trans ?_
      rw [hf₂, State.calling_eq h.top, State.setFrames_setFrames, State.setTop_of_frames _ hr', hr]
      rfl
    have hsame : U.sameButNew ({ U with heap := s₂.heap, slotsUsed := s₂.slotsUsed } : State) L mc ms := by
      refine ⟨?_, q2, q3, q4, q5, q6⟩
      obtain ⟨t, ht, -⟩ := State.frames_cons hr
      show ({ U with heap := s₂.heap, slotsUsed := s₂.slotsUsed } : State) = { U.setFrames U.frames with heap := s₂.heap, slotsUsed := s₂.slotsUsed }
      rw [State.setFrames_self ht]
    subst hg
    refine Or.inl ⟨v, ⟨(({ U with heap := s₂.heap, slotsUsed := s₂.slotsUsed } : State).setVm s₂.vm), Ls ++ L, c0 + mc, s0 + ms⟩,
      ⟨X.admits, X.cas, X.clock, X.frames, X.room, X.hears, X.method, X.code, (X.here.setHeapUsed s₂.heap s₂.slotsUsed).setVm hW'.alike, X.tail, State.WarmedH.trans X.warmed hW', X.limits, X.bytes, X.same.trans (hsame.setVm s.vm)⟩,
      ⟨g, mk, s₂, L, rfl, rfl, hqc, rfl, hL, rfl, rfl⟩, ?_⟩
    show Steps p.tables e below _ ((({ U with heap := s₂.heap, slotsUsed := s₂.slotsUsed } : State).setVm s₂.vm).setTop { g with pc := g.pc + len₂, stack := v.toList ++ g.stack })
    rw [← hs₂]
    exact hsteps
  · obtain ⟨e2, q2, q3, q4, q5, q6⟩ := id hsm
    have e3 : s₂ = ({ (U.calling g mk a).setFrames s₂.frames with heap := s₂.heap, slotsUsed := s₂.slotsUsed } : State).setVm s₂.vm := by
      have : s₂ = ({ s₂ with vm := (U.calling g mk a).vm } : State).setVm s₂.vm := rfl
      rw [e2] at this
      exact this
    have hf₂ : s₂.frames = .throwing q :: .java g :: U.frames.tail := hend
    have hW' : U.WarmedH s₂.vm := hW₂
    have hs₂ : s₂ = ((({ U with heap := s₂.heap, slotsUsed := s₂.slotsUsed } : State).setVm s₂.vm).setTop g).pushFrame (.throwing q) := by
      refine e3.trans ?_
      rw [hf₂, State.calling_eq h.top, State.setFrames_setFrames, State.pushFrame, State.frames_setTop _ hr', State.setTop_of_frames _ hr', State.setFrames_setFrames, hr]
      rfl
    have hsame : U.sameButNew ({ U with heap := s₂.heap, slotsUsed := s₂.slotsUsed } : State) L mc ms := by
      refine ⟨?_, q2, q3, q4, q5, q6⟩
      obtain ⟨t, ht, -⟩ := State.frames_cons hr
      show ({ U with heap := s₂.heap, slotsUsed := s₂.slotsUsed } : State) = { U.setFrames U.frames with heap := s₂.heap, slotsUsed := s₂.slotsUsed }
      rw [State.setFrames_self ht]
    subst hg
    refine Or.inr ⟨q, ⟨(({ U with heap := s₂.heap, slotsUsed := s₂.slotsUsed } : State).setVm s₂.vm), Ls ++ L, c0 + mc, s0 + ms⟩,
      ⟨X.admits, X.cas, X.clock, X.frames, X.room, X.hears, X.method, X.code, (X.here.setHeapUsed s₂.heap s₂.slotsUsed).setVm hW'.alike, X.tail, State.WarmedH.trans X.warmed hW', X.limits, X.bytes, X.same.trans (hsame.setVm s.vm)⟩,
      ⟨g, mk, s₂, L, E, ce, rfl, rfl, hx, hce, hcv, hcl, rfl, hL, rfl, rfl⟩, ?_⟩
    show Steps p.tables e below _ (((({ U with heap := s₂.heap, slotsUsed := s₂.slotsUsed } : State).setVm s₂.vm).setTop g).pushFrame (.throwing q))
    rw [← hs₂]
    exact hsteps
end Payer
section Calls
variable {p : Program} {l : Launch} {e : Env} {R : Room} {s : State} {m : MethodId} {args : Array Value} {below : List Frame} {meth : Method} {c : Code} {T : State} {locs : List Loc} {cells slots : Nat}
theorem vx_callV (X : Stand p l e R s m args below meth c T locs cells slots) (hexec : p.tables.exec = Jvm.exec) {own C : String} {index : Nat} {y : MethodName} {bytes : ByteArray} {maxL : Nat} {ret : Option FieldType}
    (hown : s.vm.findClass own = some m.cls) (hlink : (Cond.methodLink own index y).before args s = true) (hinst : (Cond.instanceMethod y).before args s = true) (hsel : (Cond.selects C y y).before args s = true)
    (hcode : (Cond.code y bytes maxL ret).before args s = true) (hy : y.cls ≠ "java/lang/invoke/MethodHandle" ∧ y.cls ≠ "java/lang/invoke/VarHandle")
    {W9 : Nat} {Pre : Pt → Array Value → Prop} {Post : Pt → Array Value → Option Value → Pt → Prop} {PostX : Pt → Array Value → Addr → Pt → Prop} (hK : vx_Back l R p e below s args y 3 W9 Pre Post PostX)
    {b : Addr} {cellB : Cell} (hcell : T.heap[b]? = some cellB) (hobj : cellB.vm.isStatics = false) (hcls : s.vm.findClass C = some cellB.cls)
    {g : JFrame} (hg : g.method = m) (hsize : g.locals.size = c.maxLocals) {argsL rest : List Value} (hlen : ∀ sig, parseMethodDescriptor y.desc = some sig → argsL.length = sig.parameters.length)
    (hstack : g.stack = argsL.reverse ++ .ref b :: rest) (hW : 2 * g.monitorRoom + (rest.map fun v => v.category).sum ≤ W9) (hdg : decode c.code g.pc = .ok (.invokevirtual index, 3))
    (hpre : ∀ vm₁, s.WarmedH vm₁ → Pre ⟨T.setVm vm₁, locs, cells, slots⟩ (Value.ref b :: argsL).toArray) :
    (∃ (v : Option Value) (vm₁ : Vm) (B : Pt), s.WarmedH vm₁ ∧ Stand p l e R s m args below meth c B.U B.locs B.cells B.slots ∧ Post ⟨T.setVm vm₁, locs, cells, slots⟩ (Value.ref b :: argsL).toArray v B ∧
      ∀ target, Steps p.tables e below (B.U.setTop { g with pc := g.pc + 3, stack := v.toList ++ rest }) target → Steps p.tables e below (T.setTop g) target) ∨
    (∃ (q : Addr) (vm₁ : Vm) (B : Pt), s.WarmedH vm₁ ∧ Stand p l e R s m args below meth c B.U B.locs B.cells B.slots ∧ PostX ⟨T.setVm vm₁, locs, cells, slots⟩ (Value.ref b :: argsL).toArray q B ∧
      Steps p.tables e below (T.setTop g) ((B.U.setTop { g with stack := rest }).pushFrame (.throwing q))) := by
  obtain ⟨mk, methM, hnamed, hmethM, hstM, habM⟩ := Cond.instanceMethod_spec hinst
  obtain ⟨methM', cM, hmethM', -, -, -, -, -, -, hsigM⟩ := Cond.code_spec hnamed hcode
  cases hmethM.symm.trans hmethM'
  obtain ⟨c2, r2, m2, q1, q2, q3, q4, kP, hkP, hkPi⟩ := Cond.selects_spec hsel
  cases hcls.symm.trans q1
  cases (State.methodFound?_of_named hnamed hy).symm.trans q2
  cases hnamed.symm.trans q3
  have hselP : selectMethod e.platform s.vm cellB.cls mk = .method mk := by rw [Launch.admits_selectMethod X.admits]; exact q4
  obtain ⟨vm₁, X₁, hstep₁⟩ := X.invokevirtual hexec hown hlink hnamed hmethM hstM hkP hkPi hy (a := b) (cell := cellB) hcell
    (fun z h => by rw [h] at hobj; cases hobj) hselP hmethM habM hkP hkPi (g := g) hg (argsL := argsL) (rest := rest) (hlen _ hsigM) hstack hdg
  rcases hK m meth c ⟨T.setVm vm₁, locs, cells, slots⟩ { g with stack := rest } (.invokevirtual index) mk (Value.ref b :: argsL).toArray X₁ hg hsize hdg hW (X₁.named hnamed) (hpre vm₁ X₁.warmed) with ⟨v, B, X', hpost, hsteps⟩ | ⟨q, B, X', hpost, hsteps⟩
  · exact Or.inl ⟨v, vm₁, B, X₁.warmed, X', hpost, fun target h => hstep₁ _ fun acts => by rw [doInvoke_state]; exact hsteps.trans h⟩
  · exact Or.inr ⟨q, vm₁, B, X₁.warmed, X', hpost, hstep₁ _ fun acts => by rw [doInvoke_state]; exact hsteps⟩
theorem vx_callS (X : Stand p l e R s m args below meth c T locs cells slots) (hexec : p.tables.exec = Jvm.exec) {own : String} {index : Nat} {y : MethodName} {bytes : ByteArray} {maxL : Nat} {ret : Option FieldType}
    (hown : s.vm.findClass own = some m.cls) (hlink : (Cond.methodLink own index y).before args s = true) (hstat : (Cond.static y).before args s = true) (hinit : (Cond.initialized y.cls).before args s = true)
    (hcode : (Cond.code y bytes maxL ret).before args s = true) (hy : y.cls ≠ "java/lang/invoke/MethodHandle" ∧ y.cls ≠ "java/lang/invoke/VarHandle")
    {W9 : Nat} {Pre : Pt → Array Value → Prop} {Post : Pt → Array Value → Option Value → Pt → Prop} {PostX : Pt → Array Value → Addr → Pt → Prop} (hK : vx_Back l R p e below s args y 3 W9 Pre Post PostX)
    {g : JFrame} (hg : g.method = m) (hsize : g.locals.size = c.maxLocals) {argsL rest : List Value} (hlen : ∀ sig, parseMethodDescriptor y.desc = some sig → argsL.length = sig.parameters.length)
    (hstack : g.stack = argsL.reverse ++ rest) (hW : 2 * g.monitorRoom + (rest.map fun v => v.category).sum ≤ W9) (hdg : decode c.code g.pc = .ok (.invokestatic index, 3))
    (hpre : ∀ vm₁, s.WarmedH vm₁ → Pre ⟨T.setVm vm₁, locs, cells, slots⟩ argsL.toArray) :
    (∃ (v : Option Value) (vm₁ : Vm) (B : Pt), s.WarmedH vm₁ ∧ Stand p l e R s m args below meth c B.U B.locs B.cells B.slots ∧ Post ⟨T.setVm vm₁, locs, cells, slots⟩ argsL.toArray v B ∧
      ∀ target, Steps p.tables e below (B.U.setTop { g with pc := g.pc + 3, stack := v.toList ++ rest }) target → Steps p.tables e below (T.setTop g) target) ∨
    (∃ (q : Addr) (vm₁ : Vm) (B : Pt), s.WarmedH vm₁ ∧ Stand p l e R s m args below meth c B.U B.locs B.cells B.slots ∧ PostX ⟨T.setVm vm₁, locs, cells, slots⟩ argsL.toArray q B ∧
      Steps p.tables e below (T.setTop g) ((B.U.setTop { g with stack := rest }).pushFrame (.throwing q))) := by
  obtain ⟨mk, hnamed⟩ := Cond.code_named hcode
  obtain ⟨methM, cM, hmethM, -, -, -, -, -, -, hsigM⟩ := Cond.code_spec hnamed hcode
  have hstatic : methM.isStatic = true := Cond.static_spec hnamed hmethM hstat
  obtain ⟨kP, hkP, -⟩ := className_of_methodNamed hnamed
  have hinitP : kP.init = .initialized := Cond.initialized_spec (findClass_of_methodNamed hnamed) hkP hinit
  obtain ⟨vm₁, X₁, hstep₁⟩ := X.invokestatic hexec hown hlink hnamed hmethM hstatic hkP hinitP hy (g := g) hg (argsL := argsL) (rest := rest) (hlen _ hsigM) hstack hdg
  rcases hK m meth c ⟨T.setVm vm₁, locs, cells, slots⟩ { g with stack := rest } (.invokestatic index) mk argsL.toArray X₁ hg hsize hdg hW (X₁.named hnamed) (hpre vm₁ X₁.warmed) with ⟨v, B, X', hpost, hsteps⟩ | ⟨q, B, X', hpost, hsteps⟩
  · exact Or.inl ⟨v, vm₁, B, X₁.warmed, X', hpost, fun target h => hstep₁ _ fun acts => by rw [doInvoke_state]; exact hsteps.trans h⟩
  · exact Or.inr ⟨q, vm₁, B, X₁.warmed, X', hpost, hstep₁ _ fun acts => by rw [doInvoke_state]; exact hsteps⟩
end Calls
theorem vx_cls {s : State} {T : State} {vm₁ : Vm} {E : String} {k : ClassId} (hW : s.WarmedH vm₁) (h : (T.setVm vm₁).vm.findClass E = some k) : s.vm.findClass E = some k := by
  have h1 : vm₁.findClass E = some k := h
  rw [hW.alike.findClass] at h1
  exact h1
/-- the method's frame g, with q thrown over it -/
def vx_W (p : Program) (l : Launch) (e : Env) (R : Room) (s : State) (m : MethodId) (args : Array Value) (below : List Frame) (meth : Method) (c : Code) (H : Heap) (locs : List Loc) (cells slots : Nat) (Q : State → Prop) (g : JFrame) (q : Addr) : Prop :=
  ∀ T : State, T.heap = H → Stand p l e R s m args below meth c T locs cells slots → ∃ t, Steps p.tables e below ((T.setTop g).pushFrame (.throwing q)) t ∧ Q t
def vx_Run (p : Program) (l : Launch) (e : Env) (R : Room) (s : State) (m : MethodId) (args : Array Value) (below : List Frame) (meth : Method) (c : Code) (H : Heap) (locs : List Loc) (cells slots mc ms : Nat) (g : JFrame) (rest : List Value) (Qa : State → Outcome → State → Prop) (XC : String → State → State → Prop) (free : Addr → Prop) : Prop :=
  ∀ T : State, T.heap = H → Stand p l e R s m args below meth c T locs cells slots →
    (∃ (v : Option Value) (st₀ t T' : State) (L : List Loc), st₀.heap = H ∧ Stand p l e R s m args below meth c T' (locs ++ L) (cells + mc) (slots + ms) ∧ (∀ q ∈ L, free q.base) ∧ T'.heap = t.heap ∧ T'.vm = t.vm ∧ Qa st₀ (.returned v) t ∧
      Goes p e below T g T' { g with pc := g.pc + 3, stack := v.toList ++ rest }) ∨
    (∃ (q : Addr) (st₀ t T' : State) (L : List Loc) (E : String) (ce : Cell), st₀.heap = H ∧ Stand p l e R s m args below meth c T' (locs ++ L) (cells + mc) (slots + ms) ∧ (∀ z ∈ L, free z.base) ∧ T'.heap = t.heap ∧ T'.vm = t.vm ∧ XC E st₀ t ∧ t.heap[q]? = some ce ∧ ce.vm = .none ∧ s.vm.findClass E = some ce.cls ∧
      Steps p.tables e below (T.setTop g) ((T'.setTop { g with stack := rest }).pushFrame (.throwing q)))
def vx_X {S : Type} (px : S → Prop) (B : String → S → State → Prop) (A : Nat → Prop) : String → State → State → Prop := fun E st t => ∃ u : S, px u ∧ B E u t ∧ va_F A st t
section Runs
variable {p : Program} {l : Launch} {e : Env} {R : Room} {s : State} {m : MethodId} {args : Array Value} {below : List Frame} {meth : Method} {c : Code} {H : Heap} {locs : List Loc} {cells slots : Nat}
variable {y : MethodName} {bytes cc : ByteArray} {maxL nL mc ms n index : Nat} {ret : Option FieldType} {ws : List Cond} {rm : Room} {Pc : Array Value → State → Prop} {Qc : Array Value → State → Outcome → State → Prop} {XC : String → State → State → Prop} {free : Addr → Prop} {Ts : List Cond} {own C : String} {b : Addr} {As rest : List Value} {g : JFrame}
theorem vx_callBack (cb : CallB R s args own index y bytes maxL ret ws rm mc ms n) (hM : vx_Met l y ws rm Pc Qc XC mc ms free) (hbl : FrameBlind Pc) : vx_Back l R p e below s args y 3 8 (PreOf R mc ms Pc) (PostOf Qc mc ms free) (vx_Post XC mc ms free) := by
  obtain ⟨hrc, hrs, hfr, hlo, hws, hcw, -, hini, -⟩ := cb
  exact vx_back (bytes := bytes) (maxL := maxL) (ret := ret) hM hbl hrc hrs hfr hlo hws hcw (fun a' U hW => word_at hW (Or.inl (by first | rfl | simp [Cond.onTables, Cond.keeps, Cond.steady])) hini)
theorem vx_runV (S : CallFix p m c cc nL s args Ts own) (hM : vx_Met l y ws rm Pc Qc XC mc ms free) (cw : CallW R s args own C index y bytes maxL ret ws rm mc ms n) (hp : PreV s H C b Pc As)
    (hg : g.method = m) (hn : As.length = n) (hsize : g.locals.size = nL) (hstack : g.stack = As.reverse ++ .ref b :: rest) (hW : 2 * g.monitorRoom + (rest.map fun v => v.category).sum ≤ 8) (hdg : decode cc g.pc = .ok (.invokevirtual index, 3)) (hf : cells + mc ≤ R.cells ∧ slots + ms ≤ R.slots) :
    vx_Run p l e R s m args below meth c H locs cells slots mc ms g rest (Qc (Value.ref b :: As).toArray) XC free := by
  have hK : vx_Back l R p e below s args y 3 8 (PreOf R mc ms Pc) (PostOf Qc mc ms free) (vx_Post XC mc ms free) := vx_callBack cw.1 hM hp.1
  obtain ⟨⟨-, -, -, -, -, -, hcode, -, hy, hlen, hl⟩, hin, hse⟩ := cw
  obtain ⟨hx, hb, hml, ho, -⟩ := S
  obtain ⟨-, ⟨cellB, hcB, hoB, hclB⟩, hPc⟩ := hp
  intro T hT X
  rcases vx_callV X hx (C := C) (bytes := bytes) (maxL := maxL) (ret := ret) ho hl hin hse hcode hy hK (by rw [hT]; exact hcB) hoB hclB hg (hsize.trans hml.symm) (argsL := As) (rest := rest) (fun sig h => hn.trans (hlen sig h)) hstack hW (by rw [hb]; exact hdg)
    (fun vm₁ hW₁ => ⟨hf.1, hf.2, hPc (T.setVm vm₁) hT hW₁⟩) with ⟨v, vm₁, ⟨U', l2, c2, s2⟩, hW₁, X', ⟨g', mk, t, L, e1, e2, hq, h1, hL, h2, h3⟩, st⟩ | ⟨q, vm₁, ⟨U', l2, c2, s2⟩, hW₁, X', ⟨g', mk, t, L, E, ce, e1, e2, hq, hce, hcv, hcl, h1, hL, h2, h3⟩, st⟩
  · dsimp only [Pt.U, Pt.locs, Pt.cells, Pt.slots] at X' e1 e2 h1 h2 h3 st
    subst h1; subst h2; subst h3
    exact Or.inl ⟨v, (T.setVm vm₁).calling g' mk (Value.ref b :: As).toArray, t, U', L, hT, X', hL, e1, e2, hq, st⟩
  · dsimp only [Pt.U, Pt.locs, Pt.cells, Pt.slots] at X' e1 e2 h1 h2 h3 st hcl
    subst h1; subst h2; subst h3
    exact Or.inr ⟨q, (T.setVm vm₁).calling g' mk (Value.ref b :: As).toArray, t, U', L, E, ce, hT, X', hL, e1, e2, hq, hce, hcv, vx_cls hW₁ hcl, st⟩
theorem vx_runS (S : CallFix p m c cc nL s args Ts own) (hM : vx_Met l y ws rm Pc Qc XC mc ms free) (cw : CallB R s args own index y bytes maxL ret ws rm mc ms n ∧ (Cond.static y).before args s = true) (hp : PreS s H Pc As)
    (hg : g.method = m) (hn : As.length = n) (hsize : g.locals.size = nL) (hstack : g.stack = As.reverse ++ rest) (hW : 2 * g.monitorRoom + (rest.map fun v => v.category).sum ≤ 8) (hdg : decode cc g.pc = .ok (.invokestatic index, 3)) (hf : cells + mc ≤ R.cells ∧ slots + ms ≤ R.slots) :
    vx_Run p l e R s m args below meth c H locs cells slots mc ms g rest (Qc As.toArray) XC free := by
  have hK : vx_Back l R p e below s args y 3 8 (PreOf R mc ms Pc) (PostOf Qc mc ms free) (vx_Post XC mc ms free) := vx_callBack cw.1 hM hp.1
  obtain ⟨⟨-, -, -, -, -, -, hcode, hini, hy, hlen, hl⟩, hstt⟩ := cw
  obtain ⟨hx, hb, hml, ho, -⟩ := S
  intro T hT X
  rcases vx_callS X hx (bytes := bytes) (maxL := maxL) (ret := ret) ho hl hstt hini hcode hy hK hg (hsize.trans hml.symm) (argsL := As) (rest := rest) (fun sig h => hn.trans (hlen sig h)) hstack hW (by rw [hb]; exact hdg)
    (fun vm₁ hW₁ => ⟨hf.1, hf.2, hp.2 (T.setVm vm₁) hT hW₁⟩) with ⟨v, vm₁, ⟨U', l2, c2, s2⟩, hW₁, X', ⟨g', mk, t, L, e1, e2, hq, h1, hL, h2, h3⟩, st⟩ | ⟨q, vm₁, ⟨U', l2, c2, s2⟩, hW₁, X', ⟨g', mk, t, L, E, ce, e1, e2, hq, hce, hcv, hcl, h1, hL, h2, h3⟩, st⟩
  · dsimp only [Pt.U, Pt.locs, Pt.cells, Pt.slots] at X' e1 e2 h1 h2 h3 st
    subst h1; subst h2; subst h3
    exact Or.inl ⟨v, (T.setVm vm₁).calling g' mk As.toArray, t, U', L, hT, X', hL, e1, e2, hq, st⟩
  · dsimp only [Pt.U, Pt.locs, Pt.cells, Pt.slots] at X' e1 e2 h1 h2 h3 st hcl
    subst h1; subst h2; subst h3
    exact Or.inr ⟨q, (T.setVm vm₁).calling g' mk As.toArray, t, U', L, E, ce, hT, X', hL, e1, e2, hq, hce, hcv, vx_cls hW₁ hcl, st⟩
end Runs
section Rows
variable {p : Program} {l : Launch} {e : Env} {R : Room} {s : State} {m : MethodId} {args : Array Value} {below : List Frame} {meth : Method} {c : Code} {H : Heap} {locs : List Loc} {cells slots : Nat} {Q : State → Prop}
variable {mc ms : Nat} {free : Addr → Prop} {A0 A1 : Nat → Prop} {H0 : Heap} {a : Array Value} {pc : Nat} {ls : Array Slot} {st0 rest : List Value}
theorem vx_keep {st₀ t T' : State} {L : List Loc} (h0 : st₀.heap = H) (e1 : T'.heap = t.heap) (hS : va_S A0 H0 H locs) (hA : ∀ q, q < H.size → A1 q → A0 q) (hf : ∀ q, free q → A0 q) (hL : ∀ q ∈ L, free q.base) (hF : va_F A1 st₀ t) :
    H.size ≤ T'.heap.size ∧ (∀ q : Nat, q < H.size → ¬ A1 q → T'.heap[q]? = H[q]?) ∧ va_S A0 H0 T'.heap (locs ++ L) := by
  obtain ⟨hz, hk⟩ := hF
  rw [h0] at hz hk
  exact ⟨by rw [e1]; exact hz, fun q h1 h2 => by rw [e1]; exact hk q h1 h2,
    ⟨Nat.le_trans hS.1 (by rw [e1]; exact hz), fun q h1 h2 => by rw [e1, hk q (Nat.lt_of_lt_of_le h1 hS.1) (fun z => h2 (hA q (Nat.lt_of_lt_of_le h1 hS.1) z))]; exact hS.2.1 q h1 h2, fun q hq => by
      rcases List.mem_append.mp hq with h | h
      · exact hS.2.2 q h
      · exact hf _ (hL q h)⟩⟩
theorem vx_calli {S SX : Type} {post : Int32 → S → Prop} {px : SX → Prop} {B : S → State → Prop} {BX : String → SX → State → Prop} {AX : Nat → Prop} (hr : vx_Run p l e R s m args below meth c H locs cells slots mc ms (F0 m pc ls st0) rest (va_Qi post B A1 a) (vx_X px BX AX) free) (hS : va_S A0 H0 H locs) (hA : ∀ q, q < H.size → A1 q → A0 q) (hf : ∀ q, free q → A0 q) (hAX : ∀ q, q < H.size → AX q → A0 q)
    (kx : ∀ (E : String) (ce : Cell) (q9 : Addr) (u : SX) (t : State) (H1 : Heap) (locs1 : List Loc), t.heap = H1 → s.vm.Alike t.vm → px u → BX E u t → H.size ≤ H1.size → (∀ q : Nat, q < H.size → ¬ AX q → H1[q]? = H[q]?) → va_S A0 H0 H1 locs1 → H1[q9]? = some ce → ce.vm = .none → s.vm.findClass E = some ce.cls → vx_W p l e R s m args below meth c H1 locs1 (cells + mc) (slots + ms) Q (F0 m pc ls rest) q9)
    (kk : ∀ (r : Int32) (u : S) (t : State) (H1 : Heap) (locs1 : List Loc), t.heap = H1 → s.vm.Alike t.vm → post r u → B u t → H.size ≤ H1.size → (∀ q : Nat, q < H.size → ¬ A1 q → H1[q]? = H[q]?) → va_S A0 H0 H1 locs1 → W p l e R s m args below meth c H1 locs1 (cells + mc) (slots + ms) Q (F0 m (pc + 3) ls (.int r :: rest))) : W p l e R s m args below meth c H locs cells slots Q (F0 m pc ls st0) := by
  intro T hT X
  rcases hr T hT X with ⟨v, st₀, t, T', L, h0, X', hL, e1, e2, ⟨⟨r, u, hv, hp, hb⟩, hF⟩, st⟩ | ⟨q, st₀, t, T', L, E, ce, h0, X', hL, e1, e2, ⟨u, hp, hb, hF⟩, hce, hcv, hcl, st⟩
  · cases hv
    obtain ⟨k1, k2, k3⟩ := vx_keep h0 e1 hS hA hf hL hF
    obtain ⟨t2, a1, b1⟩ := kk r u t T'.heap (locs ++ L) e1.symm (by rw [← e2]; exact X'.warmed.alike) hp hb k1 k2 k3 T' rfl X'
    exact ⟨t2, st t2 a1, b1⟩
  · obtain ⟨k1, k2, k3⟩ := vx_keep h0 e1 hS hAX hf hL hF
    obtain ⟨t2, a1, b1⟩ := kx E ce q u t T'.heap (locs ++ L) e1.symm (by rw [← e2]; exact X'.warmed.alike) hp hb k1 k2 k3 (by rw [e1]; exact hce) hcv hcl T' rfl X'
    exact ⟨t2, st.trans a1, b1⟩
theorem vx_calll {S SX : Type} {post : Int64 → S → Prop} {px : SX → Prop} {B : S → State → Prop} {BX : String → SX → State → Prop} {AX : Nat → Prop} (hr : vx_Run p l e R s m args below meth c H locs cells slots mc ms (F0 m pc ls st0) rest (va_Ql post B A1 a) (vx_X px BX AX) free) (hS : va_S A0 H0 H locs) (hA : ∀ q, q < H.size → A1 q → A0 q) (hf : ∀ q, free q → A0 q) (hAX : ∀ q, q < H.size → AX q → A0 q)
    (kx : ∀ (E : String) (ce : Cell) (q9 : Addr) (u : SX) (t : State) (H1 : Heap) (locs1 : List Loc), t.heap = H1 → s.vm.Alike t.vm → px u → BX E u t → H.size ≤ H1.size → (∀ q : Nat, q < H.size → ¬ AX q → H1[q]? = H[q]?) → va_S A0 H0 H1 locs1 → H1[q9]? = some ce → ce.vm = .none → s.vm.findClass E = some ce.cls → vx_W p l e R s m args below meth c H1 locs1 (cells + mc) (slots + ms) Q (F0 m pc ls rest) q9)
    (kk : ∀ (r : Int64) (u : S) (t : State) (H1 : Heap) (locs1 : List Loc), t.heap = H1 → s.vm.Alike t.vm → post r u → B u t → H.size ≤ H1.size → (∀ q : Nat, q < H.size → ¬ A1 q → H1[q]? = H[q]?) → va_S A0 H0 H1 locs1 → W p l e R s m args below meth c H1 locs1 (cells + mc) (slots + ms) Q (F0 m (pc + 3) ls (.long r :: rest))) : W p l e R s m args below meth c H locs cells slots Q (F0 m pc ls st0) := by
  intro T hT X
  rcases hr T hT X with ⟨v, st₀, t, T', L, h0, X', hL, e1, e2, ⟨⟨r, u, hv, hp, hb⟩, hF⟩, st⟩ | ⟨q, st₀, t, T', L, E, ce, h0, X', hL, e1, e2, ⟨u, hp, hb, hF⟩, hce, hcv, hcl, st⟩
  · cases hv
    obtain ⟨k1, k2, k3⟩ := vx_keep h0 e1 hS hA hf hL hF
    obtain ⟨t2, a1, b1⟩ := kk r u t T'.heap (locs ++ L) e1.symm (by rw [← e2]; exact X'.warmed.alike) hp hb k1 k2 k3 T' rfl X'
    exact ⟨t2, st t2 a1, b1⟩
  · obtain ⟨k1, k2, k3⟩ := vx_keep h0 e1 hS hAX hf hL hF
    obtain ⟨t2, a1, b1⟩ := kx E ce q u t T'.heap (locs ++ L) e1.symm (by rw [← e2]; exact X'.warmed.alike) hp hb k1 k2 k3 (by rw [e1]; exact hce) hcv hcl T' rfl X'
    exact ⟨t2, st.trans a1, b1⟩
theorem vx_callf {S SX : Type} {post : UInt32 → S → Prop} {px : SX → Prop} {B : S → State → Prop} {BX : String → SX → State → Prop} {AX : Nat → Prop} (hr : vx_Run p l e R s m args below meth c H locs cells slots mc ms (F0 m pc ls st0) rest (va_Qf post B A1 a) (vx_X px BX AX) free) (hS : va_S A0 H0 H locs) (hA : ∀ q, q < H.size → A1 q → A0 q) (hf : ∀ q, free q → A0 q) (hAX : ∀ q, q < H.size → AX q → A0 q)
    (kx : ∀ (E : String) (ce : Cell) (q9 : Addr) (u : SX) (t : State) (H1 : Heap) (locs1 : List Loc), t.heap = H1 → s.vm.Alike t.vm → px u → BX E u t → H.size ≤ H1.size → (∀ q : Nat, q < H.size → ¬ AX q → H1[q]? = H[q]?) → va_S A0 H0 H1 locs1 → H1[q9]? = some ce → ce.vm = .none → s.vm.findClass E = some ce.cls → vx_W p l e R s m args below meth c H1 locs1 (cells + mc) (slots + ms) Q (F0 m pc ls rest) q9)
    (kk : ∀ (r : UInt32) (u : S) (t : State) (H1 : Heap) (locs1 : List Loc), t.heap = H1 → s.vm.Alike t.vm → post r u → B u t → H.size ≤ H1.size → (∀ q : Nat, q < H.size → ¬ A1 q → H1[q]? = H[q]?) → va_S A0 H0 H1 locs1 → W p l e R s m args below meth c H1 locs1 (cells + mc) (slots + ms) Q (F0 m (pc + 3) ls (.float r :: rest))) : W p l e R s m args below meth c H locs cells slots Q (F0 m pc ls st0) := by
  intro T hT X
  rcases hr T hT X with ⟨v, st₀, t, T', L, h0, X', hL, e1, e2, ⟨⟨r, u, hv, hp, hb⟩, hF⟩, st⟩ | ⟨q, st₀, t, T', L, E, ce, h0, X', hL, e1, e2, ⟨u, hp, hb, hF⟩, hce, hcv, hcl, st⟩
  · cases hv
    obtain ⟨k1, k2, k3⟩ := vx_keep h0 e1 hS hA hf hL hF
    obtain ⟨t2, a1, b1⟩ := kk r u t T'.heap (locs ++ L) e1.symm (by rw [← e2]; exact X'.warmed.alike) hp hb k1 k2 k3 T' rfl X'
    exact ⟨t2, st t2 a1, b1⟩
  · obtain ⟨k1, k2, k3⟩ := vx_keep h0 e1 hS hAX hf hL hF
    obtain ⟨t2, a1, b1⟩ := kx E ce q u t T'.heap (locs ++ L) e1.symm (by rw [← e2]; exact X'.warmed.alike) hp hb k1 k2 k3 (by rw [e1]; exact hce) hcv hcl T' rfl X'
    exact ⟨t2, st.trans a1, b1⟩
theorem vx_calld {S SX : Type} {post : UInt64 → S → Prop} {px : SX → Prop} {B : S → State → Prop} {BX : String → SX → State → Prop} {AX : Nat → Prop} (hr : vx_Run p l e R s m args below meth c H locs cells slots mc ms (F0 m pc ls st0) rest (va_Qd post B A1 a) (vx_X px BX AX) free) (hS : va_S A0 H0 H locs) (hA : ∀ q, q < H.size → A1 q → A0 q) (hf : ∀ q, free q → A0 q) (hAX : ∀ q, q < H.size → AX q → A0 q)
    (kx : ∀ (E : String) (ce : Cell) (q9 : Addr) (u : SX) (t : State) (H1 : Heap) (locs1 : List Loc), t.heap = H1 → s.vm.Alike t.vm → px u → BX E u t → H.size ≤ H1.size → (∀ q : Nat, q < H.size → ¬ AX q → H1[q]? = H[q]?) → va_S A0 H0 H1 locs1 → H1[q9]? = some ce → ce.vm = .none → s.vm.findClass E = some ce.cls → vx_W p l e R s m args below meth c H1 locs1 (cells + mc) (slots + ms) Q (F0 m pc ls rest) q9)
    (kk : ∀ (r : UInt64) (u : S) (t : State) (H1 : Heap) (locs1 : List Loc), t.heap = H1 → s.vm.Alike t.vm → post r u → B u t → H.size ≤ H1.size → (∀ q : Nat, q < H.size → ¬ A1 q → H1[q]? = H[q]?) → va_S A0 H0 H1 locs1 → W p l e R s m args below meth c H1 locs1 (cells + mc) (slots + ms) Q (F0 m (pc + 3) ls (.double r :: rest))) : W p l e R s m args below meth c H locs cells slots Q (F0 m pc ls st0) := by
  intro T hT X
  rcases hr T hT X with ⟨v, st₀, t, T', L, h0, X', hL, e1, e2, ⟨⟨r, u, hv, hp, hb⟩, hF⟩, st⟩ | ⟨q, st₀, t, T', L, E, ce, h0, X', hL, e1, e2, ⟨u, hp, hb, hF⟩, hce, hcv, hcl, st⟩
  · cases hv
    obtain ⟨k1, k2, k3⟩ := vx_keep h0 e1 hS hA hf hL hF
    obtain ⟨t2, a1, b1⟩ := kk r u t T'.heap (locs ++ L) e1.symm (by rw [← e2]; exact X'.warmed.alike) hp hb k1 k2 k3 T' rfl X'
    exact ⟨t2, st t2 a1, b1⟩
  · obtain ⟨k1, k2, k3⟩ := vx_keep h0 e1 hS hAX hf hL hF
    obtain ⟨t2, a1, b1⟩ := kx E ce q u t T'.heap (locs ++ L) e1.symm (by rw [← e2]; exact X'.warmed.alike) hp hb k1 k2 k3 (by rw [e1]; exact hce) hcv hcl T' rfl X'
    exact ⟨t2, st.trans a1, b1⟩
theorem vx_callv {S SX : Type} {post : S → Prop} {px : SX → Prop} {B : S → State → Prop} {BX : String → SX → State → Prop} {AX : Nat → Prop} (hr : vx_Run p l e R s m args below meth c H locs cells slots mc ms (F0 m pc ls st0) rest (va_Qv post B A1 a) (vx_X px BX AX) free) (hS : va_S A0 H0 H locs) (hA : ∀ q, q < H.size → A1 q → A0 q) (hf : ∀ q, free q → A0 q) (hAX : ∀ q, q < H.size → AX q → A0 q)
    (kx : ∀ (E : String) (ce : Cell) (q9 : Addr) (u : SX) (t : State) (H1 : Heap) (locs1 : List Loc), t.heap = H1 → s.vm.Alike t.vm → px u → BX E u t → H.size ≤ H1.size → (∀ q : Nat, q < H.size → ¬ AX q → H1[q]? = H[q]?) → va_S A0 H0 H1 locs1 → H1[q9]? = some ce → ce.vm = .none → s.vm.findClass E = some ce.cls → vx_W p l e R s m args below meth c H1 locs1 (cells + mc) (slots + ms) Q (F0 m pc ls rest) q9)
    (kk : ∀ (u : S) (t : State) (H1 : Heap) (locs1 : List Loc), t.heap = H1 → s.vm.Alike t.vm → post u → B u t → H.size ≤ H1.size → (∀ q : Nat, q < H.size → ¬ A1 q → H1[q]? = H[q]?) → va_S A0 H0 H1 locs1 → W p l e R s m args below meth c H1 locs1 (cells + mc) (slots + ms) Q (F0 m (pc + 3) ls (rest))) : W p l e R s m args below meth c H locs cells slots Q (F0 m pc ls st0) := by
  intro T hT X
  rcases hr T hT X with ⟨v, st₀, t, T', L, h0, X', hL, e1, e2, ⟨⟨u, hv, hp, hb⟩, hF⟩, st⟩ | ⟨q, st₀, t, T', L, E, ce, h0, X', hL, e1, e2, ⟨u, hp, hb, hF⟩, hce, hcv, hcl, st⟩
  · cases hv
    obtain ⟨k1, k2, k3⟩ := vx_keep h0 e1 hS hA hf hL hF
    obtain ⟨t2, a1, b1⟩ := kk u t T'.heap (locs ++ L) e1.symm (by rw [← e2]; exact X'.warmed.alike) hp hb k1 k2 k3 T' rfl X'
    exact ⟨t2, st t2 a1, b1⟩
  · obtain ⟨k1, k2, k3⟩ := vx_keep h0 e1 hS hAX hf hL hF
    obtain ⟨t2, a1, b1⟩ := kx E ce q u t T'.heap (locs ++ L) e1.symm (by rw [← e2]; exact X'.warmed.alike) hp hb k1 k2 k3 (by rw [e1]; exact hce) hcv hcl T' rfl X'
    exact ⟨t2, st.trans a1, b1⟩
/-- caught by the row x of this method's table; the rows ahead don't take it -/
theorem vx_catch {own name : String} {E : String} {ce : Cell} {q : Addr} (hown : s.vm.findClass own = some m.cls) (pre : List ExceptionTableEntry) (x : ExceptionTableEntry) (suf : List ExceptionTableEntry) (hsplit : c.exceptionTable.toList = pre ++ x :: suf)
    (hpass : ∀ z ∈ pre, covers z pc = false ∨ (z.catchType ≠ 0 ∧ ∃ nm : String, (Cond.classLink own z.catchType nm).before args s = true ∧ va_Nc E nm s)) (hx : covers x pc = true) (h0 : x.catchType ≠ 0)
    (hlink : (Cond.classLink own x.catchType name).before args s = true) (hcast : (Cond.castable E name).before args s = true) (hcell : H[q]? = some ce) (hv : ce.vm = .none) (hcl : s.vm.findClass E = some ce.cls)
    (kk : W p l e R s m args below meth c H locs cells slots Q (F0 m x.handlerPc ls [.ref q])) : vx_W p l e R s m args below meth c H locs cells slots Q (F0 m pc ls rest) q := by
  intro T hT X
  have hpl : e.platform.magicAccessors = ({} : Platform).magicAccessors := by rw [X.admits.platform]
  obtain ⟨c3, c4, hc3, hc4, hasg⟩ := Cond.castable_spec hcast
  cases Option.some.inj (hc3.symm.trans hcl)
  obtain ⟨c5, hc5, hcl5⟩ := Cond.classLink_spec hown hlink e.platform hpl
  cases Option.some.inj (hc4.symm.trans hc5)
  obtain ⟨vm', X', st⟩ := X.thenCaughtThrough q (g := F0 m pc ls rest) rfl (Steps.refl _) (by rw [hT]; exact hcell) (by rw [hv]; rfl) (by obtain ⟨k9, h9, -⟩ := Vm.findClass_spec hcl; exact ⟨k9, h9⟩) pre x suf hsplit
    (fun z hz => by
      rcases hpass z hz with h | ⟨hz0, nm, hl1, hn1⟩
      · exact Or.inl h
      · obtain ⟨c6, hc6, hcl6⟩ := Cond.classLink_spec hown hl1 e.platform hpl
        obtain ⟨a8, b8, h1, h2, h3⟩ := hn1
        cases Option.some.inj (h1.symm.trans hcl)
        cases Option.some.inj (h2.symm.trans hc6)
        exact Or.inr ⟨hz0, _, hcl6, h3⟩) hx (Or.inr ⟨h0, c4, hcl5, hasg⟩)
  obtain ⟨t, a1, b1⟩ := kk (T.setVm vm') hT X'
  exact ⟨t, st.trans a1, b1⟩
end Rows
section Ends
variable {p : Program} {l : Launch} {e : Env} {R : Room} {s : State} {m : MethodId} {args : Array Value} {below : List Frame} {meth : Method} {c : Code} {H : Heap} {locs : List Loc} {cells slots : Nat} {Q : State → Prop}
variable {mc ms : Nat} {free : Addr → Prop} {A0 A1 : Nat → Prop} {H0 : Heap} {a : Array Value} {ls : Array Slot} {st0 rest : List Value}
variable {Qc : Array Value → State → Outcome → State → Prop} {XC : String → State → State → Prop}
/-- what a body that may throw owes at its end -/
def vx_MQ (below : List Frame) (Qc : Array Value → State → Outcome → State → Prop) (XC : String → State → State → Prop) (a : Array Value) (s : State) (mc ms : Nat) (free : Addr → Prop) : State → Prop := fun t =>
  ∃ o, t.status = .running ∧ Ended t below o ∧ vx_Q Qc XC mc ms free a s o t
theorem vx_ret {g : JFrame} {mc ms : Nat} (k : W p l e R s m args below meth c H locs cells slots (MQ below Qc args s mc ms free) g) : W p l e R s m args below meth c H locs cells slots (vx_MQ below Qc XC args s mc ms free) g := by
  intro T hT X
  obtain ⟨t, a1, o, b1, b2, b3, b4⟩ := k T hT X
  exact ⟨t, a1, o, b1, b2, Or.inl ⟨b3, b4⟩⟩
/-- not caught here: it goes on to the caller -/
theorem vx_widen {g : JFrame} {q : Addr} {k n : Nat} (h1 : cells ≤ k) (h2 : slots ≤ n) (kk : vx_W p l e R s m args below meth c H locs k n Q g q) : vx_W p l e R s m args below meth c H locs cells slots Q g q := fun T hT X => kk T hT (stand_widen X h1 h2)
theorem vx_out {pc : Nat} {E : String} {ce : Cell} {q : Addr} {mc ms : Nat} (hout : ∀ x ∈ c.exceptionTable.toList, covers x pc = false) (hlocks : meth.locks = false) (hcell : H[q]? = some ce) (hv : ce.vm = .none) (hcl : s.vm.findClass E = some ce.cls)
    (hx : ∀ t : State, t.heap = H → s.vm.Alike t.vm → XC E s t) (hf : ∀ z ∈ locs, free z.base) (hc : cells ≤ mc) (hs : slots ≤ ms) :
    vx_W p l e R s m args below meth c H locs cells slots (vx_MQ below Qc XC args s mc ms free) (F0 m pc ls rest) q := by
  intro T hT X
  obtain ⟨st1, hrun, hend, hW, hsm⟩ := X.leaveThrown q (g := F0 m pc ls rest) rfl rfl rfl hout hlocks
  have hcell9 : (T.setFrames (.throwing q :: below)).heap[q]? = some ce := by
    show T.heap[q]? = some ce
    rw [hT]; exact hcell
  exact ⟨_, st1, .threw q, hrun, hend, Or.inr ⟨q, rfl, E, ce, locs, hx _ hT hW.alike, hcell9, hv, hcl, hW, hsm.mono hc hs, hf⟩⟩
theorem vx_frame {U : State} {k n : Nat} (h : s.sameButNew ({ U with vm := s.vm } : State) locs k n) : s.heap.size ≤ U.heap.size ∧ ∀ q : Nat, q < s.heap.size → (∀ z ∈ locs, z.base ≠ q) → U.heap[q]? = s.heap[q]? := by
  obtain ⟨-, h2, -, -, -, h6⟩ := h
  refine ⟨h2, fun q hq hz => ?_⟩
  obtain ⟨c9, e1, e2, e3, e4⟩ := h6 q _ (Array.getElem?_eq_getElem hq)
  have hs : c9.slots = (s.heap[q]).slots := Array.ext_getElem? fun i => e4 i fun hm => hz _ hm rfl
  have h9 : c9 = s.heap[q] := by
    rw [hs] at e2
    exact e2
  have e5 : U.heap[q]? = some c9 := e1
  rw [e5, h9, Array.getElem?_eq_getElem hq]
/-- the words of a throw but the four that speak of the heap -/
def vx_no (w : Cond) : Bool := decide (w ≠ .isRef (.static Bundle.tN "UNASSIGNED_STACK" Bundle.steD)) && decide (w ≠ .isRef (.static Bundle.tN "SUPPRESSED_SENTINEL" Bundle.listD)) && decide (w ≠ .laysStatic Bundle.tN "UNASSIGNED_STACK" Bundle.steD) && decide (w ≠ .laysStatic Bundle.tN "SUPPRESSED_SENTINEL" Bundle.listD)
def vx_at0 (own : String) (ic : Nat) (X : String) (names : List String) : List Cond := (Bundle.ownAtoms0 own ic X names).filter vx_no
def vx_atS (own : String) (ic : Nat) (X : String) (names : List String) : List Cond := (Bundle.ownAtoms own ic X names).filter vx_no
/-- a word that the tables alone decide, or a good one -/
def vx_ot (w : Cond) : Bool := w.onTables || goodWord w
theorem vx_ot_at {args a' : Array Value} {s U : State} {w : Cond} (hW : s.WarmedH U.vm) (hvm : s.vm = U.vm) (hg : vx_ot w = true) (h : w.before args s = true) : w.before a' U = true := by
  simp only [vx_ot, Bool.or_eq_true] at hg
  rcases hg with hg | hg
  · exact va_tabs hg hvm h
  · exact word_at hW (good_of_word hg) h
/-- a list's words: the good ones out of the method's own list, the others by premises of their own -/
theorem vx_hat {args : Array Value} {s : State} {L B : List Cond} (h1 : ∀ w ∈ L.filter goodWord, w.before args s = true) (h2 : ∀ w ∈ L.filter (fun w => !goodWord w), w ∈ B) (h3 : ∀ w ∈ B, w.before args s = true) : ∀ w ∈ L, w.before args s = true := by
  intro w hw
  by_cases g : goodWord w = true
  · exact h1 w (List.mem_filter.mpr ⟨hw, g⟩)
  · refine h3 w (h2 w (List.mem_filter.mpr ⟨hw, ?_⟩))
    show (!goodWord w) = true
    cases hgw : goodWord w
    · rfl
    · exact absurd hgw g
theorem vx_c {args : Array Value} {s : State} {w : Cond} {B : List Cond} (h : w.before args s = true) (t : ∀ w ∈ B, w.before args s = true) : ∀ w' ∈ w :: B, w'.before args s = true := fun w' h' => (List.mem_cons.mp h').elim (fun e => by rw [e]; exact h) (t w')
theorem vx_n {args : Array Value} {s : State} : ∀ w ∈ ([] : List Cond), w.before args s = true := fun _ h => nomatch h
theorem vx_own {args : Array Value} {s : State} {L : List Cond} (h1 : ∀ w ∈ L.filter vx_no, w.before args s = true)
    (hU : (Cond.isRef (.static Bundle.tN "UNASSIGNED_STACK" Bundle.steD)).before args s = true) (hN : (Cond.isRef (.static Bundle.tN "SUPPRESSED_SENTINEL" Bundle.listD)).before args s = true)
    (lU : (Cond.laysStatic Bundle.tN "UNASSIGNED_STACK" Bundle.steD).before args s = true) (lN : (Cond.laysStatic Bundle.tN "SUPPRESSED_SENTINEL" Bundle.listD).before args s = true) : ∀ w ∈ L, w.before args s = true := by
  intro w hw
  by_cases e1 : w = .isRef (.static Bundle.tN "UNASSIGNED_STACK" Bundle.steD)
  · rw [e1]; exact hU
  · by_cases e2 : w = .isRef (.static Bundle.tN "SUPPRESSED_SENTINEL" Bundle.listD)
    · rw [e2]; exact hN
    · by_cases e3 : w = .laysStatic Bundle.tN "UNASSIGNED_STACK" Bundle.steD
      · rw [e3]; exact lU
      · by_cases e4 : w = .laysStatic Bundle.tN "SUPPRESSED_SENTINEL" Bundle.listD
        · rw [e4]; exact lN
        · exact h1 w (List.mem_filter.mpr ⟨hw, by unfold vx_no; rw [decide_eq_true e1, decide_eq_true e2, decide_eq_true e3, decide_eq_true e4]; rfl⟩)
/-- where a static field lies, its class's statics cell in H -/
def vx_L (C n d : String) (A : Nat → Prop) (U : State) (H : Heap) : Prop := ∃ (c : ClassId) (k : Class) (i : Nat) (f : Field) (a : Nat) (cell : Cell), U.vm.findClass C = some c ∧ U.fieldFound? C n d = some (c, k, i, f) ∧ f.isStatic = true ∧ k.statics = some a ∧ H[a]? = some cell ∧ cell.vm.isStatics = true ∧ cell.cls = c ∧ f.slot < cell.slots.size ∧ k.staticTypes[f.slot]? = some f.type ∧ ¬ A a
theorem vx_L.moved {C n d : String} {A : Nat → Prop} {u U : State} {H : Heap} (hvm : u.vm.Alike U.vm) (h : vx_L C n d A u H) : vx_L C n d A U H := by
  obtain ⟨c, k, i, f, a, cell, h1, h2, h3, h4, h5, h6, h7, h8, h9, h10⟩ := h
  obtain ⟨k', hi', he⟩ := State.fieldFound?_setVm hvm h2
  exact ⟨c, k', i, f, a, cell, by rw [hvm.findClass]; exact h1, hi', h3, by rw [he]; exact h4, h5, h6, h7, h8, by rw [he]; exact h9, h10⟩
theorem vx_L.kept {C n d : String} {A : Nat → Prop} {U : State} {H H1 : Heap} (h : vx_L C n d A U H) (hq : ∀ a : Nat, a < H.size → ¬ A a → H1[a]? = H[a]?) : vx_L C n d A U H1 := by
  obtain ⟨c, k, i, f, a, cell, h1, h2, h3, h4, h5, h6, h7, h8, h9, h10⟩ := h
  exact ⟨c, k, i, f, a, cell, h1, h2, h3, h4, by rw [hq a (Array.getElem?_eq_some_iff.mp h5).1 h10]; exact h5, h6, h7, h8, h9, h10⟩
theorem vx_L.narrow {C n d : String} {A B : Nat → Prop} {U : State} {H : Heap} (h : vx_L C n d A U H) (hAB : ∀ q, B q → A q) : vx_L C n d B U H := by
  obtain ⟨c, k, i, f, a, cell, h1, h2, h3, h4, h5, h6, h7, h8, h9, h10⟩ := h
  exact ⟨c, k, i, f, a, cell, h1, h2, h3, h4, h5, h6, h7, h8, h9, fun z => h10 (hAB _ z)⟩
theorem vx_L.word {C n d : String} {A : Nat → Prop} {s : State} {args : Array Value} (h : vx_L C n d A s s.heap) : (Cond.laysStatic C n d).before args s = true := by
  obtain ⟨c, k, i, f, a, cell, h1, h2, h3, h4, h5, h6, h7, h8, h9, -⟩ := h
  show (Cond.laysStatic C n d).holds args s none s [] = true
  exact Cond.laysStatic_of h1 h2 h3 h4 h5 h6 h7 h8 h9
/-- .. and what it holds: null or some reference -/
def vx_Zq (C n d : String) (A : Nat → Prop) (U : State) (H : Heap) : Prop := va_Zq C n d A U H ∧ vx_L C n d A U H
theorem vx_Zq.moved {C n d : String} {A : Nat → Prop} {u U : State} {H : Heap} (hvm : u.vm.Alike U.vm) (h : vx_Zq C n d A u H) : vx_Zq C n d A U H := ⟨va_Zq.moved hvm h.1, vx_L.moved hvm h.2⟩
theorem vx_Zq.kept {C n d : String} {A : Nat → Prop} {U : State} {H H1 : Heap} (h : vx_Zq C n d A U H) (hq : ∀ a : Nat, a < H.size → ¬ A a → H1[a]? = H[a]?) : vx_Zq C n d A U H1 := ⟨va_Zq.kept h.1 hq, vx_L.kept h.2 hq⟩
theorem vx_Zq.narrow {C n d : String} {A B : Nat → Prop} {U : State} {H : Heap} (h : vx_Zq C n d A U H) (hAB : ∀ q, B q → A q) : vx_Zq C n d B U H := ⟨va_Zq.narrow h.1 hAB, vx_L.narrow h.2 hAB⟩
theorem vx_Zqof {args : Array Value} {s : State} {C n d : String} {A : Nat → Prop} (hl : (Cond.laysStatic C n d).before args s = true) (hini : (Cond.initialized C).before args s = true) (h : (Cond.isRef (.static C n d)).before args s = true) (hA : ∀ a : Nat, a < s.heap.size → ¬ A a) : vx_Zq C n d A s s.heap := by
  refine ⟨va_Zqof hl hini h hA, ?_⟩
  obtain ⟨c, k, i, f, a, cell, h1, h2, h3, h4, h5, h6, h7, h8, h9⟩ := Cond.laysStatic_spec hl
  exact ⟨c, k, i, f, a, cell, h1, h2, h3, h4, h5, h6, h7, h8, h9, hA a (Array.getElem?_eq_some_iff.mp h5).1⟩
theorem vx_isRef {C n d : String} {v : Value} {A : Nat → Prop} {s : State} {args : Array Value} (h : va_Z C n d v A s s.heap) (hv : v.isRef = true) : (Cond.isRef (.static C n d)).before args s = true := by
  obtain ⟨cf, kf, fi, f, a, cell, h1, h2, h3, h4, h5, h6, h7, -⟩ := h
  have he : (Term.static C n d).eval args s none [] s = some v := by
    simp [Term.eval, State.fieldNamed?, h1, h2, h4, h5, h6, h7]
  simp only [Cond.before, Cond.holds, Cond.value, he]
  cases v <;> simp_all [Value.isRef]
theorem vx_isRefq {C n d : String} {A : Nat → Prop} {s : State} {args : Array Value} (h : va_Zq C n d A s s.heap) : (Cond.isRef (.static C n d)).before args s = true := by
  rcases h with h | ⟨t, h⟩
  · exact vx_isRef h rfl
  · exact vx_isRef h rfl
/-- the same frame, seen from here: as if the method were called anew in this heap -/
theorem vx_rebase {T : State} (X : Stand p l e R s m args below meth c T locs cells slots) {R' : Room} (hf : R'.frames ≤ R.frames) (hl : R'.locals ≤ R.locals) (hc : cells + R'.cells ≤ R.cells) (hs : slots + R'.slots ≤ R.slots) :
    Stand p l e R' ((T.setVm s.vm).setFrames (.invoking m args :: below)) m args below meth c T [] 0 0 := by
  have htop : (T.setVm s.vm).topJava?.isSome := X.here.top
  have hF : ((T.setVm s.vm).setFrames (.invoking m args :: below)).frames = .invoking m args :: below := State.frames_setFrames _ (State.cur_lt_of_top htop)
  obtain ⟨g₀, hg0⟩ := Option.isSome_iff_exists.mp htop
  obtain ⟨r, hr⟩ := State.topJava?_eq_some.mp hg0
  have hl9 : e.platform.stackLimits (T.setVm s.vm).me = e.platform.stackLimits s.me := X.limits
  have hb9 : (T.setVm s.vm).me.stackBytes = s.me.stackBytes := X.bytes
  refine ⟨X.admits, X.cas, X.clock, hF, ?_, X.hears, X.method, X.code, X.here, X.tail, X.warmed, ?_, ?_, ?_⟩
  · have h := X.room
    have hU : ((T.setVm s.vm).setFrames (.invoking m args :: below)).localsInUse = s.localsInUse := by
      rw [State.localsInUse_invoking hF (meth := meth) (c := c) X.method X.code, State.localsInUse_invoking X.frames X.method X.code]
    simp only [State.hasRoom, Bool.and_eq_true, decide_eq_true_eq] at h ⊢
    obtain ⟨⟨⟨⟨h1, h2, h3, h4, h5, h6⟩, h7⟩, h8⟩, h9⟩ := h
    rw [X.frames, List.length_cons] at h2 h3
    have q1 := X.heapSize
    have q2 := X.used
    simp only [hF, hU, List.length_cons, State.stackLimits_setFrames, State.stackBytes_setFrames, hl9, hb9]
    refine ⟨⟨⟨⟨by omega, by omega, by omega, by omega, by omega, h6⟩, ?_⟩, ?_⟩, X.book⟩
    · show T.heap.size + R'.cells ≤ e.platform.maxCells
      omega
    · show T.slotsUsed + R'.slots ≤ e.platform.maxSlots
      omega
  · rw [State.stackLimits_setFrames]; rfl
  · rw [State.stackBytes_setFrames]; rfl
  · refine ⟨?_, Nat.le_refl _, Nat.le_refl _, ?_, ?_, fun a c9 h9 => ⟨c9, h9, rfl, rfl, fun _ _ => rfl⟩⟩
    · obtain ⟨t, ht, -⟩ := State.frames_cons hr
      show T.setVm s.vm = { ((T.setVm s.vm).setFrames (.invoking m args :: below)).setFrames (T.setVm s.vm).frames with heap := T.heap, slotsUsed := T.slotsUsed }
      rw [State.setFrames_setFrames, State.setFrames_self ht]
      rfl
    · show T.slotsUsed = T.slotsUsed + ((T.heap.toList.drop T.heap.size).map (·.slots.size)).sum
      rw [List.drop_eq_nil_of_le (Nat.le_of_eq Array.length_toList)]
      rfl
    · show ((T.heap.toList.drop T.heap.size).map (·.slots.size)).sum ≤ 0
      rw [List.drop_eq_nil_of_le (Nat.le_of_eq Array.length_toList)]
      exact Nat.le_refl _
/-- 'throw new E()': new; dup; invokespecial; athrow -/
theorem vx_throw0 {cc : ByteArray} {pc : Nat} (hexec : p.tables.exec = Jvm.exec) (hb : c.code = cc) (hl : l.stackTraces = false) {own cls : String} {names : List String} {ik ic mc ms : Nat} {A : Nat → Prop}
    (hown : s.vm.findClass own = some m.cls) (hcls : Bundle.fit cls = true) (hnames : ∀ n ∈ names, Bundle.fit n = true)
    (hk : (Cond.classLink own ik cls).before args s = true) (hini : (Cond.initialized cls).before args s = true) (hat : ∀ w ∈ vx_at0 own ic cls names, w.before args s = true)
    (hgood : ∀ w ∈ Cond.classLink own ik cls :: Cond.initialized cls :: vx_at0 own ic cls names, vx_ot w = true)
    (hU : vx_Zq Bundle.tN "UNASSIGNED_STACK" Bundle.steD A s s.heap) (hN : vx_Zq Bundle.tN "SUPPRESSED_SENTINEL" Bundle.listD A s s.heap) (hS : va_S A s.heap H locs) (hsize : ls.size = c.maxLocals)
    (d0 : decode cc pc = .ok (.new ik, 3)) (d3 : decode cc (pc + 3) = .ok (.dup, 1)) (d4 : decode cc (pc + 4) = .ok (.invokespecial ic, 3)) (d7 : decode cc (pc + 7) = .ok (.athrow, 1))
    (hout : ∀ x ∈ c.exceptionTable.toList, covers x (pc + 7) = false)
    (hRframes : names.length + 3 < R.frames) (hRlocals : (rest.map fun v => v.category).sum + (13 * (names.length + 1) + 42) ≤ R.locals) (hRcells : cells + 1 ≤ R.cells) (hRslots : slots + 6 ≤ R.slots) (hlocks : meth.locks = false)
    (hx : ∀ t : State, s.vm.Alike t.vm → H.size ≤ t.heap.size → (∀ q : Nat, q < H.size → t.heap[q]? = H[q]?) → XC cls s t)
    (hf : ∀ z ∈ locs, free z.base) (hc : cells + 1 ≤ mc) (hs : slots + 6 ≤ ms) :
    W p l e R s m args below meth c H locs cells slots (vx_MQ below Qc XC args s mc ms free) (F0 m pc ls rest) := by
  intro T hT X
  have htr : e.platform.stackTraces = false := (show e.platform.stackTraces = l.stackTraces by rw [X.admits.platform]).trans hl
  have Y := vx_rebase X (R' := { frames := R.frames, locals := R.locals, cells := 1, slots := 6 }) (Nat.le_refl _) (Nat.le_refl _) hRcells hRslots
  obtain ⟨s', hA⟩ : ∃ z, z = (T.setVm s.vm).setFrames (.invoking m args :: below) := ⟨_, rfl⟩
  rw [← hA] at Y
  have hvm : s'.vm = s.vm := by rw [hA]; rfl
  have hhp : s'.heap = H := by rw [hA]; exact hT
  have hW0 : s.WarmedH s'.vm := by rw [hvm]; exact State.WarmedH.refl s
  have hat' : ∀ w ∈ vx_at0 own ic cls names, w.before args s' = true := fun w hw => vx_ot_at hW0 hvm.symm (hgood w (List.mem_cons_of_mem _ (List.mem_cons_of_mem _ hw))) (hat w hw)
  have hk' : (Cond.classLink own ik cls).before args s' = true := vx_ot_at hW0 hvm.symm (hgood _ List.mem_cons_self) hk
  have hini' : (Cond.initialized cls).before args s' = true := vx_ot_at hW0 hvm.symm (hgood _ (List.mem_cons_of_mem _ List.mem_cons_self)) hini
  have hU' : vx_Zq Bundle.tN "UNASSIGNED_STACK" Bundle.steD A s' s'.heap := by rw [hhp]; exact vx_Zq.moved hW0.alike (hU.kept hS.2.1)
  have hN' : vx_Zq Bundle.tN "SUPPRESSED_SENTINEL" Bundle.listD A s' s'.heap := by rw [hhp]; exact vx_Zq.moved hW0.alike (hN.kept hS.2.1)
  have h : ∀ w ∈ Bundle.ownAtoms0 own ic cls names, w.before args s' = true := vx_own hat' (vx_isRefq hU'.1) (vx_isRefq hN'.1) hU'.2.word hN'.2.word
  have hown' : s'.vm.findClass own = some m.cls := by rw [hvm]; exact hown
  have hins : (Cond.instantiable cls 6).before args s' = true := h _ (by simp [Bundle.ownAtoms0])
  obtain ⟨vm₁, cX, kX, hfX, hkX, -, -, X₁, st1⟩ := Y.newCold hexec (own := own) (C := cls) (index := ik) (n := 6) hown' hk' hins hini'
    (g := F0 m pc ls rest) rfl (by rw [hb]; exact d0) (Nat.le_refl _) (Nat.le_refl _)
  generalize hT1 : (T.setVm vm₁).pushCell { cls := cX, slots := kX.instanceTypes.map defaultValue, vm := .none } = T1 at X₁ st1
  have hcat : (Value.ref T.heap.size).category = 1 := rfl
  have hcellA : T1.heap[T.heap.size]? = some (freshCell cX kX) := by rw [← hT1]; exact State.heap_pushCell_size _ _
  have d3' : decode c.code (pc + 3) = .ok (.dup, 1) := by rw [hb]; exact d3
  obtain ⟨U, hsteps, hrun, hend, hW, hsame, ce, hce, hO⟩ := X₁.ctorThrow0 hexec htr (own := own) (cls := cls) (names := names) (ic := ic) hown' hcls hnames h (fun x hx => nomatch hx) hfX hkX hcellA (by rw [hhp, hT]; exact Nat.le_refl _)
    (g := { method := m, pc := pc + 4, locals := ls, stack := .ref T.heap.size :: .ref T.heap.size :: rest, locked := none }) rfl hsize rfl rfl (rest := rest) rfl
    (by rw [hb]; exact d4) (by rw [hb]; exact d7) hout hRframes (by simp only [List.map_cons, List.sum_cons, hcat]; omega) hlocks
  obtain ⟨f1, f2⟩ := vx_frame hsame
  rw [hhp] at f1 f2
  have hWs : s.WarmedH U.vm := State.WarmedH.trans hW0 hW
  have hcl : s.vm.findClass cls = some ce.cls := by
    have h9 := hO.cls
    rw [hvm] at h9
    exact h9
  have hall : s.sameButNew ({ U with vm := s.vm } : State) locs mc ms := by
    subst hA
    obtain ⟨e1, e2⟩ := hsame
    rw [State.setFrames_setFrames] at e1
    have h2 : (T.setVm s.vm).sameButNew ({ U with vm := s.vm } : State) [] (0 + 1) (0 + 6) := ⟨e1, e2⟩
    have h3 := X.same.trans h2
    rw [List.append_nil] at h3
    exact h3.mono hc hs
  refine ⟨U, ?_, .threw T.heap.size, hrun, hend, Or.inr ⟨T.heap.size, rfl, cls, ce, locs, hx U hWs.alike f1 (fun q hq => f2 q hq (fun z hz => nomatch hz)), hce, hO.vm, hcl, hWs, hall, hf⟩⟩
  refine st1 _ ?_
  show Steps p.tables e below (T1.setTop { method := m, pc := pc + 3, locals := ls, stack := .ref T.heap.size :: rest, locked := none }) _
  jvm_step X₁.here [X₁.here.top, hexec, d3', Value.category]
  exact hsteps
/-- 'throw new E("text")': new; dup; ldc; invokespecial; athrow -/
theorem vx_throwS {cc : ByteArray} {pc : Nat} (hexec : p.tables.exec = Jvm.exec) (hb : c.code = cc) (hl : l.stackTraces = false) {own cls text : String} {names : List String} {ik is ic mc ms sa : Nat} {A : Nat → Prop}
    (hown : s.vm.findClass own = some m.cls) (hcls : Bundle.fit cls = true) (hnames : ∀ n ∈ names, Bundle.fit n = true)
    (hk : (Cond.classLink own ik cls).before args s = true) (hini : (Cond.initialized cls).before args s = true) (hstr : vk_R own is text sa s) (hat : ∀ w ∈ vx_atS own ic cls names, w.before args s = true)
    (hgood : ∀ w ∈ Cond.classLink own ik cls :: Cond.initialized cls :: vx_atS own ic cls names, vx_ot w = true)
    (hU : vx_Zq Bundle.tN "UNASSIGNED_STACK" Bundle.steD A s s.heap) (hN : vx_Zq Bundle.tN "SUPPRESSED_SENTINEL" Bundle.listD A s s.heap) (hS : va_S A s.heap H locs) (hsize : ls.size = c.maxLocals)
    (d0 : decode cc pc = .ok (.new ik, 3)) (d3 : decode cc (pc + 3) = .ok (.dup, 1)) (d4 : decode cc (pc + 4) = .ok (.ldc is, 2)) (d6 : decode cc (pc + 6) = .ok (.invokespecial ic, 3)) (d9 : decode cc (pc + 9) = .ok (.athrow, 1))
    (hout : ∀ x ∈ c.exceptionTable.toList, covers x (pc + 9) = false)
    (hRframes : names.length + 3 < R.frames) (hRlocals : (rest.map fun v => v.category).sum + (13 * (names.length + 1) + 43) ≤ R.locals) (hRcells : cells + 1 ≤ R.cells) (hRslots : slots + 6 ≤ R.slots) (hlocks : meth.locks = false)
    (hx : ∀ t : State, s.vm.Alike t.vm → H.size ≤ t.heap.size → (∀ q : Nat, q < H.size → t.heap[q]? = H[q]?) → XC cls s t)
    (hf : ∀ z ∈ locs, free z.base) (hc : cells + 1 ≤ mc) (hs : slots + 6 ≤ ms) :
    W p l e R s m args below meth c H locs cells slots (vx_MQ below Qc XC args s mc ms free) (F0 m pc ls rest) := by
  intro T hT X
  have htr : e.platform.stackTraces = false := (show e.platform.stackTraces = l.stackTraces by rw [X.admits.platform]).trans hl
  have Y := vx_rebase X (R' := { frames := R.frames, locals := R.locals, cells := 1, slots := 6 }) (Nat.le_refl _) (Nat.le_refl _) hRcells hRslots
  obtain ⟨s', hA⟩ : ∃ z, z = (T.setVm s.vm).setFrames (.invoking m args :: below) := ⟨_, rfl⟩
  rw [← hA] at Y
  have hvm : s'.vm = s.vm := by rw [hA]; rfl
  have hhp : s'.heap = H := by rw [hA]; exact hT
  have hW0 : s.WarmedH s'.vm := by rw [hvm]; exact State.WarmedH.refl s
  have hat' : ∀ w ∈ vx_atS own ic cls names, w.before args s' = true := fun w hw => vx_ot_at hW0 hvm.symm (hgood w (List.mem_cons_of_mem _ (List.mem_cons_of_mem _ hw))) (hat w hw)
  have hk' : (Cond.classLink own ik cls).before args s' = true := vx_ot_at hW0 hvm.symm (hgood _ List.mem_cons_self) hk
  have hini' : (Cond.initialized cls).before args s' = true := vx_ot_at hW0 hvm.symm (hgood _ (List.mem_cons_of_mem _ List.mem_cons_self)) hini
  have hU' : vx_Zq Bundle.tN "UNASSIGNED_STACK" Bundle.steD A s' s'.heap := by rw [hhp]; exact vx_Zq.moved hW0.alike (hU.kept hS.2.1)
  have hN' : vx_Zq Bundle.tN "SUPPRESSED_SENTINEL" Bundle.listD A s' s'.heap := by rw [hhp]; exact vx_Zq.moved hW0.alike (hN.kept hS.2.1)
  have h : ∀ w ∈ Bundle.ownAtoms own ic cls names, w.before args s' = true := vx_own hat' (vx_isRefq hU'.1) (vx_isRefq hN'.1) hU'.2.word hN'.2.word
  have hown' : s'.vm.findClass own = some m.cls := by rw [hvm]; exact hown
  have hins : (Cond.instantiable cls 6).before args s' = true := h _ (by simp [Bundle.ownAtoms])
  obtain ⟨vm₁, cX, kX, hfX, hkX, -, -, X₁, st1⟩ := Y.newCold hexec (own := own) (C := cls) (index := ik) (n := 6) hown' hk' hins hini'
    (g := F0 m pc ls rest) rfl (by rw [hb]; exact d0) (Nat.le_refl _) (Nat.le_refl _)
  generalize hT1 : (T.setVm vm₁).pushCell { cls := cX, slots := kX.instanceTypes.map defaultValue, vm := .none } = T1 at X₁ st1
  have hcat : (Value.ref T.heap.size).category = 1 := rfl
  have hcellA : T1.heap[T.heap.size]? = some (freshCell cX kX) := by rw [← hT1]; exact State.heap_pushCell_size _ _
  have d3' : decode c.code (pc + 3) = .ok (.dup, 1) := by rw [hb]; exact d3
  have d4' : decode c.code (pc + 4) = .ok (.ldc is, 2) := by rw [hb]; exact d4
  have hstr' : vk_R own is text sa s' := vk_R.warm hW0 hstr
  obtain ⟨U, hsteps, hrun, hend, hW, hsame, ce, hce, hO⟩ := X₁.ctorThrowS hexec htr (own := own) (cls := cls) (names := names) (ic := ic) hown' hcls hnames h (fun x hx => nomatch hx) hfX hkX hcellA (by rw [hhp, hT]; exact Nat.le_refl _) (msg := .ref sa) rfl
    (g := { method := m, pc := pc + 6, locals := ls, stack := .ref sa :: .ref T.heap.size :: .ref T.heap.size :: rest, locked := none }) rfl hsize rfl rfl (rest := rest) rfl
    (by rw [hb]; exact d6) (by rw [hb]; exact d9) hout hRframes (by simp only [List.map_cons, List.sum_cons, hcat]; omega) hlocks
  obtain ⟨f1, f2⟩ := vx_frame hsame
  rw [hhp] at f1 f2
  have hWs : s.WarmedH U.vm := State.WarmedH.trans hW0 hW
  have hcl : s.vm.findClass cls = some ce.cls := by
    have h9 := hO.cls
    rw [hvm] at h9
    exact h9
  have hall : s.sameButNew ({ U with vm := s.vm } : State) locs mc ms := by
    subst hA
    obtain ⟨e1, e2⟩ := hsame
    rw [State.setFrames_setFrames] at e1
    have h2 : (T.setVm s.vm).sameButNew ({ U with vm := s.vm } : State) [] (0 + 1) (0 + 6) := ⟨e1, e2⟩
    have h3 := X.same.trans h2
    rw [List.append_nil] at h3
    exact h3.mono hc hs
  refine ⟨U, ?_, .threw T.heap.size, hrun, hend, Or.inr ⟨T.heap.size, rfl, cls, ce, locs, hx U hWs.alike f1 (fun q hq => f2 q hq (fun z hz => nomatch hz)), hce, hO.vm, hcl, hWs, hall, hf⟩⟩
  refine st1 _ ?_
  show Steps p.tables e below (T1.setTop { method := m, pc := pc + 3, locals := ls, stack := .ref T.heap.size :: rest, locked := none }) _
  jvm_step X₁.here [X₁.here.top, hexec, d3', Value.category]
  exact X₁.ldcString hexec (own := own) (text := text) (index := is) (a := sa) hown' hstr'.1 hstr'.2
    (g := { method := m, pc := pc + 4, locals := ls, stack := .ref T.heap.size :: .ref T.heap.size :: rest, locked := none }) rfl d4' _ hsteps
/-- 'throw new E("text")', the text by a wide index -/
theorem vx_throwSW {cc : ByteArray} {pc : Nat} (hexec : p.tables.exec = Jvm.exec) (hb : c.code = cc) (hl : l.stackTraces = false) {own cls text : String} {names : List String} {ik is ic mc ms sa : Nat} {A : Nat → Prop}
    (hown : s.vm.findClass own = some m.cls) (hcls : Bundle.fit cls = true) (hnames : ∀ n ∈ names, Bundle.fit n = true)
    (hk : (Cond.classLink own ik cls).before args s = true) (hini : (Cond.initialized cls).before args s = true) (hstr : vk_R own is text sa s) (hat : ∀ w ∈ vx_atS own ic cls names, w.before args s = true)
    (hgood : ∀ w ∈ Cond.classLink own ik cls :: Cond.initialized cls :: vx_atS own ic cls names, vx_ot w = true)
    (hU : vx_Zq Bundle.tN "UNASSIGNED_STACK" Bundle.steD A s s.heap) (hN : vx_Zq Bundle.tN "SUPPRESSED_SENTINEL" Bundle.listD A s s.heap) (hS : va_S A s.heap H locs) (hsize : ls.size = c.maxLocals)
    (d0 : decode cc pc = .ok (.new ik, 3)) (d3 : decode cc (pc + 3) = .ok (.dup, 1)) (d4 : decode cc (pc + 4) = .ok (.ldc_w is, 3)) (d7 : decode cc (pc + 7) = .ok (.invokespecial ic, 3)) (d10 : decode cc (pc + 10) = .ok (.athrow, 1))
    (hout : ∀ x ∈ c.exceptionTable.toList, covers x (pc + 10) = false)
    (hRframes : names.length + 3 < R.frames) (hRlocals : (rest.map fun v => v.category).sum + (13 * (names.length + 1) + 43) ≤ R.locals) (hRcells : cells + 1 ≤ R.cells) (hRslots : slots + 6 ≤ R.slots) (hlocks : meth.locks = false)
    (hx : ∀ t : State, s.vm.Alike t.vm → H.size ≤ t.heap.size → (∀ q : Nat, q < H.size → t.heap[q]? = H[q]?) → XC cls s t)
    (hf : ∀ z ∈ locs, free z.base) (hc : cells + 1 ≤ mc) (hs : slots + 6 ≤ ms) :
    W p l e R s m args below meth c H locs cells slots (vx_MQ below Qc XC args s mc ms free) (F0 m pc ls rest) := by
  intro T hT X
  have htr : e.platform.stackTraces = false := (show e.platform.stackTraces = l.stackTraces by rw [X.admits.platform]).trans hl
  have Y := vx_rebase X (R' := { frames := R.frames, locals := R.locals, cells := 1, slots := 6 }) (Nat.le_refl _) (Nat.le_refl _) hRcells hRslots
  obtain ⟨s', hA⟩ : ∃ z, z = (T.setVm s.vm).setFrames (.invoking m args :: below) := ⟨_, rfl⟩
  rw [← hA] at Y
  have hvm : s'.vm = s.vm := by rw [hA]; rfl
  have hhp : s'.heap = H := by rw [hA]; exact hT
  have hW0 : s.WarmedH s'.vm := by rw [hvm]; exact State.WarmedH.refl s
  have hat' : ∀ w ∈ vx_atS own ic cls names, w.before args s' = true := fun w hw => vx_ot_at hW0 hvm.symm (hgood w (List.mem_cons_of_mem _ (List.mem_cons_of_mem _ hw))) (hat w hw)
  have hk' : (Cond.classLink own ik cls).before args s' = true := vx_ot_at hW0 hvm.symm (hgood _ List.mem_cons_self) hk
  have hini' : (Cond.initialized cls).before args s' = true := vx_ot_at hW0 hvm.symm (hgood _ (List.mem_cons_of_mem _ List.mem_cons_self)) hini
  have hU' : vx_Zq Bundle.tN "UNASSIGNED_STACK" Bundle.steD A s' s'.heap := by rw [hhp]; exact vx_Zq.moved hW0.alike (hU.kept hS.2.1)
  have hN' : vx_Zq Bundle.tN "SUPPRESSED_SENTINEL" Bundle.listD A s' s'.heap := by rw [hhp]; exact vx_Zq.moved hW0.alike (hN.kept hS.2.1)
  have h : ∀ w ∈ Bundle.ownAtoms own ic cls names, w.before args s' = true := vx_own hat' (vx_isRefq hU'.1) (vx_isRefq hN'.1) hU'.2.word hN'.2.word
  have hown' : s'.vm.findClass own = some m.cls := by rw [hvm]; exact hown
  have hins : (Cond.instantiable cls 6).before args s' = true := h _ (by simp [Bundle.ownAtoms])
  obtain ⟨vm₁, cX, kX, hfX, hkX, -, -, X₁, st1⟩ := Y.newCold hexec (own := own) (C := cls) (index := ik) (n := 6) hown' hk' hins hini'
    (g := F0 m pc ls rest) rfl (by rw [hb]; exact d0) (Nat.le_refl _) (Nat.le_refl _)
  generalize hT1 : (T.setVm vm₁).pushCell { cls := cX, slots := kX.instanceTypes.map defaultValue, vm := .none } = T1 at X₁ st1
  have hcat : (Value.ref T.heap.size).category = 1 := rfl
  have hcellA : T1.heap[T.heap.size]? = some (freshCell cX kX) := by rw [← hT1]; exact State.heap_pushCell_size _ _
  have d3' : decode c.code (pc + 3) = .ok (.dup, 1) := by rw [hb]; exact d3
  have d4' : decode c.code (pc + 4) = .ok (.ldc_w is, 3) := by rw [hb]; exact d4
  have hstr' : vk_R own is text sa s' := vk_R.warm hW0 hstr
  obtain ⟨U, hsteps, hrun, hend, hW, hsame, ce, hce, hO⟩ := X₁.ctorThrowS hexec htr (own := own) (cls := cls) (names := names) (ic := ic) hown' hcls hnames h (fun x hx => nomatch hx) hfX hkX hcellA (by rw [hhp, hT]; exact Nat.le_refl _) (msg := .ref sa) rfl
    (g := { method := m, pc := pc + 7, locals := ls, stack := .ref sa :: .ref T.heap.size :: .ref T.heap.size :: rest, locked := none }) rfl hsize rfl rfl (rest := rest) rfl
    (by rw [hb]; exact d7) (by rw [hb]; exact d10) hout hRframes (by simp only [List.map_cons, List.sum_cons, hcat]; omega) hlocks
  obtain ⟨f1, f2⟩ := vx_frame hsame
  rw [hhp] at f1 f2
  have hWs : s.WarmedH U.vm := State.WarmedH.trans hW0 hW
  have hcl : s.vm.findClass cls = some ce.cls := by
    have h9 := hO.cls
    rw [hvm] at h9
    exact h9
  have hall : s.sameButNew ({ U with vm := s.vm } : State) locs mc ms := by
    subst hA
    obtain ⟨e1, e2⟩ := hsame
    rw [State.setFrames_setFrames] at e1
    have h2 : (T.setVm s.vm).sameButNew ({ U with vm := s.vm } : State) [] (0 + 1) (0 + 6) := ⟨e1, e2⟩
    have h3 := X.same.trans h2
    rw [List.append_nil] at h3
    exact h3.mono hc hs
  refine ⟨U, ?_, .threw T.heap.size, hrun, hend, Or.inr ⟨T.heap.size, rfl, cls, ce, locs, hx U hWs.alike f1 (fun q hq => f2 q hq (fun z hz => nomatch hz)), hce, hO.vm, hcl, hWs, hall, hf⟩⟩
  refine st1 _ ?_
  show Steps p.tables e below (T1.setTop { method := m, pc := pc + 3, locals := ls, stack := .ref T.heap.size :: rest, locked := none }) _
  jvm_step X₁.here [X₁.here.top, hexec, d3', Value.category]
  exact X₁.ldcStringW hexec (own := own) (text := text) (index := is) (a := sa) hown' hstr'.1 hstr'.2
    (g := { method := m, pc := pc + 4, locals := ls, stack := .ref T.heap.size :: .ref T.heap.size :: rest, locked := none }) rfl d4' _ hsteps
end Ends
section Bodies
variable {l : Launch}
theorem vx_ofW {y : MethodName} {ws ws' : List Cond} {rm : Room} {Pc : Array Value → State → Prop} {Qc : Array Value → State → Outcome → State → Prop} {XC : String → State → State → Prop} {mc ms : Nat} {free : Addr → Prop} {cc : ByteArray} {maxL : Nat} {ret : Option FieldType}
    (hy : plainName y.cls = true) (hw : ws = Cond.code y cc maxL ret :: ws')
    (body : ∀ p e s m args below meth c s₁, BodyLoose p l y (headSpec ws rm) cc maxL ret e s m args below meth c s₁ → c.maxLocals = maxL → (∀ x ∈ c.exceptionTable.toList, False) → Pc args s →
      W p l e (headSpec ws rm).room s m args below meth c s.heap [] 0 0 (vx_MQ below Qc XC args s mc ms free) (entryFrame m args maxL)) : vx_Met l y ws rm Pc Qc XC mc ms free := by
  refine MetFree.of_bodyS (code := cc) (maxLocals := maxL) (ret := ret) hy ?_ ?_
  · intro args s m h hn
    obtain ⟨meth, c, h1, h2, h3, h4, h5, h6, -, -⟩ := Cond.code_spec hn (atoms_spec (ws := ws) h _ (by rw [hw]; exact List.mem_cons_self))
    exact ⟨meth, c, h1, h2, h3, h4, h5, h6⟩
  · intro p e s m args below meth c s₁ B hml hP _
    have hh0 : s₁.heap = s.heap := by rw [B.state]; rfl
    have ht : ∀ x ∈ c.exceptionTable.toList, False := by
      obtain ⟨meth9, c9, h1, h2, -, -, -, -, h7, -⟩ := Cond.code_spec B.named (atoms_spec (ws := ws) B.pre _ (by rw [hw]; exact List.mem_cons_self))
      cases Option.some.inj (h1.symm.trans B.method)
      cases Option.some.inj (h2.symm.trans (Stand.of_body B).code)
      intro x hx
      rw [Array.isEmpty_iff.mp h7] at hx
      cases hx
    obtain ⟨t, a1, o, b1, b2, b3⟩ := body p e s m args below meth c s₁ B hml ht hP s₁ hh0 (Stand.of_body B)
    exact ⟨t, o, a1, b1, b2, b3⟩
/-- the table of a body with handlers -/
theorem vx_table {p : Program} {x y : MethodName} {S : Spec} {cc bytes : ByteArray} {maxL maxL' : Nat} {ret ret' : Option FieldType} {e : Env} {s s₁ : State} {m : MethodId} {args : Array Value} {below : List Frame} {meth : Method} {c : Code} {hh : List (Nat × Nat × Nat × Nat)}
    (B : BodyLoose p l y S cc maxL ret e s m args below meth c s₁) (h : (Cond.codeWith y bytes maxL' ret' hh).before args s = true) : c.exceptionTable.toList = tableOf hh := by
  obtain ⟨m9, meth9, c9, hn9, h1, h2, -, -, h6, -⟩ := Cond.codeWith_spec h
  cases Option.some.inj (hn9.symm.trans B.named)
  cases Option.some.inj (h1.symm.trans B.method)
  cases Option.some.inj (h2.symm.trans (Stand.of_body B).code)
  rw [← h6, table_eq]
end Bodies
end VXA
/-! ===== END ===== -/
/-! ===== BEGIN a static call of a method with an exception table ===== -/
section VXS
variable {p : Program} {l : Launch} {e : Env} {R : Room} {s : State} {m : MethodId} {args : Array Value} {below : List Frame} {meth : Method} {c : Code} {T : State} {H : Heap} {locs : List Loc} {cells slots : Nat}
abbrev vx_CSW (R : Room) (s : State) (args : Array Value) (own : String) (index : Nat) (y : MethodName) (bytes : ByteArray) (maxL : Nat) (ret : Option FieldType) (hh : List (Nat × Nat × Nat × Nat)) (ws : List Cond) (rm : Room) (mc ms n : Nat) : Prop :=
  (rm.cells = mc ∧ rm.slots = ms ∧ rm.frames + 1 ≤ R.frames ∧ 8 + (maxL + 11) + rm.locals ≤ R.locals ∧ (∀ w ∈ ws, ∀ (a' : Array Value) (U : State), s.WarmedH U.vm → w.before a' U = true) ∧ Cond.codeWith y bytes maxL ret hh ∈ ws) ∧
  (Cond.codeWith y bytes maxL ret hh).before args s = true ∧ (Cond.initialized y.cls).before args s = true ∧ (y.cls ≠ "java/lang/invoke/MethodHandle" ∧ y.cls ≠ "java/lang/invoke/VarHandle") ∧
  (∀ sig, parseMethodDescriptor y.desc = some sig → n = sig.parameters.length) ∧ (Cond.methodLink own index y).before args s = true ∧ (Cond.static y).before args s = true
theorem vx_cwSW {own : String} {index maxL mc ms : Nat} {y : MethodName} {bytes : ByteArray} {ret : Option FieldType} {hh : List (Nat × Nat × Nat × Nat)} {Ts ws ws' : List Cond} {rm : Room} (n : Nat) (ht : ∀ w ∈ Ts, w.before args s = true) (hT : GoodIn Ts (va_wsS own index y ws)) (hw : ws = Cond.codeWith y bytes maxL ret hh :: ws') (hrc : rm.cells = mc) (hrs : rm.slots = ms)
    (hd : y.cls ≠ "java/lang/invoke/MethodHandle" ∧ y.cls ≠ "java/lang/invoke/VarHandle" ∧ (parseMethodDescriptor y.desc).map (fun d => d.parameters.length) = some n) (hR : rm.frames + 1 ≤ R.frames ∧ 8 + (maxL + 11) + rm.locals ≤ R.locals) :
    vx_CSW R s args own index y bytes maxL ret hh ws rm mc ms n := by
  have ok : ∀ w ∈ va_wsS own index y ws, w.before args s = true := fun w h => ht w (hT w h).1
  have hG : GoodIn Ts ws := fun w h => hT w (by unfold va_wsS; exact List.mem_append_right _ h)
  have hc : Cond.codeWith y bytes maxL ret hh ∈ ws := by rw [hw]; exact List.mem_cons_self
  refine ⟨⟨hrc, hrs, hR.1, hR.2, pay_in ht hG, hc⟩, ht _ (hG _ hc).1, ok _ (by simp [va_wsS]), ⟨hd.1, hd.2.1⟩, fun sig h => ?_, ok _ (by simp [va_wsS]), ok _ (by simp [va_wsS])⟩
  have h2 := hd.2.2
  rw [h] at h2
  exact (Option.some.inj h2).symm
theorem vx_callSW (X : Stand p l e R s m args below meth c T locs cells slots) (hexec : p.tables.exec = Jvm.exec) {own : String} {index : Nat} {y : MethodName} {bytes : ByteArray} {maxL : Nat} {ret : Option FieldType} {hh : List (Nat × Nat × Nat × Nat)}
    (hown : s.vm.findClass own = some m.cls) (hlink : (Cond.methodLink own index y).before args s = true) (hstat : (Cond.static y).before args s = true) (hinit : (Cond.initialized y.cls).before args s = true)
    (hcode : (Cond.codeWith y bytes maxL ret hh).before args s = true) (hy : y.cls ≠ "java/lang/invoke/MethodHandle" ∧ y.cls ≠ "java/lang/invoke/VarHandle")
    {W9 : Nat} {Pre : Pt → Array Value → Prop} {Post : Pt → Array Value → Option Value → Pt → Prop} (hK : Back l R p e below s args y 3 W9 Pre Post)
    {g : JFrame} (hg : g.method = m) (hsize : g.locals.size = c.maxLocals) {argsL rest : List Value} (hlen : ∀ sig, parseMethodDescriptor y.desc = some sig → argsL.length = sig.parameters.length)
    (hstack : g.stack = argsL.reverse ++ rest) (hW : 2 * g.monitorRoom + (rest.map fun v => v.category).sum ≤ W9) (hdg : decode c.code g.pc = .ok (.invokestatic index, 3))
    (hpre : ∀ vm₁, s.WarmedH vm₁ → Pre ⟨T.setVm vm₁, locs, cells, slots⟩ argsL.toArray) :
    ∃ (v : Option Value) (vm₁ : Vm) (B : Pt), s.WarmedH vm₁ ∧ Stand p l e R s m args below meth c B.U B.locs B.cells B.slots ∧ Post ⟨T.setVm vm₁, locs, cells, slots⟩ argsL.toArray v B ∧
      ∀ target, Steps p.tables e below (B.U.setTop { g with pc := g.pc + 3, stack := v.toList ++ rest }) target → Steps p.tables e below (T.setTop g) target := by
  obtain ⟨mk, methM, cM, hnamed, hmethM, -, -, -, -, -, -, hsigM⟩ := Cond.codeWith_spec hcode
  have hstatic : methM.isStatic = true := Cond.static_spec hnamed hmethM hstat
  obtain ⟨kP, hkP, -⟩ := className_of_methodNamed hnamed
  have hinitP : kP.init = .initialized := Cond.initialized_spec (findClass_of_methodNamed hnamed) hkP hinit
  obtain ⟨vm₁, X₁, hstep₁⟩ := X.invokestatic hexec hown hlink hnamed hmethM hstatic hkP hinitP hy (g := g) hg (argsL := argsL) (rest := rest) (hlen _ hsigM) hstack hdg
  obtain ⟨v, B, X', hpost, hsteps⟩ := hK m meth c ⟨T.setVm vm₁, locs, cells, slots⟩ { g with stack := rest } (.invokestatic index) mk argsL.toArray X₁ hg hsize hdg hW (X₁.named hnamed) (hpre vm₁ X₁.warmed)
  exact ⟨v, vm₁, B, X₁.warmed, X', hpost, fun target h => hstep₁ _ fun acts => by rw [doInvoke_state]; exact hsteps.trans h⟩
theorem vx_runSW {y : MethodName} {bytes cc : ByteArray} {maxL nL mc ms n index : Nat} {ret : Option FieldType} {hh : List (Nat × Nat × Nat × Nat)} {ws : List Cond} {rm : Room} {Pc : Array Value → State → Prop} {Qc : Array Value → State → Outcome → State → Prop} {free : Addr → Prop} {Ts : List Cond} {own : String} {As rest : List Value} {g : JFrame}
    (S : CallFix p m c cc nL s args Ts own) (hM : Met l y ws rm Pc Qc mc ms free) (cw : vx_CSW R s args own index y bytes maxL ret hh ws rm mc ms n) (hp : PreS s H Pc As)
    (hg : g.method = m) (hn : As.length = n) (hsize : g.locals.size = nL) (hstack : g.stack = As.reverse ++ rest) (hW : 2 * g.monitorRoom + (rest.map fun v => v.category).sum ≤ 8) (hdg : decode cc g.pc = .ok (.invokestatic index, 3)) (hf : cells + mc ≤ R.cells ∧ slots + ms ≤ R.slots) :
    va_Run p l e R s m args below meth c H locs cells slots mc ms g rest (Qc As.toArray) (free) := by
  obtain ⟨⟨hrc, hrs, hfr, hlo, hws, hcw⟩, hcode, hini, hy, hlen, hl, hstt⟩ := cw
  have hK : Back l R p e below s args y 3 8 (PreOf R mc ms Pc) (PostOf Qc mc ms free) := va_backW (hh := hh) (bytes := bytes) (maxL := maxL) (ret := ret) hM hp.1 hrc hrs hfr hlo hws hcw (fun a' U hW => word_at hW (Or.inl (by first | rfl | simp [Cond.onTables, Cond.keeps, Cond.steady])) hini)
  obtain ⟨hx, hb, hml, ho, -⟩ := S
  intro T hT X
  obtain ⟨v, vm₁, ⟨U', l2, c2, s2⟩, hW₁, X', ⟨g', mk, t, L, e1, e2, hq, h1, hL, h2, h3⟩, st⟩ := vx_callSW X hx (hh := hh) (bytes := bytes) (maxL := maxL) (ret := ret) ho hl hstt hini hcode hy hK hg (hsize.trans hml.symm) (argsL := As) (rest := rest) (fun sig h => hn.trans (hlen sig h)) hstack hW (by rw [hb]; exact hdg)
    (fun vm₁ hW₁ => ⟨hf.1, hf.2, hp.2 (T.setVm vm₁) hT hW₁⟩)
  dsimp only [Pt.U, Pt.locs, Pt.cells, Pt.slots] at X' e1 e2 h1 h2 h3 st
  subst h1; subst h2; subst h3
  exact ⟨v, (T.setVm vm₁).calling g' mk As.toArray, t, U', L, hT, X', hL, e1, e2, hq, st⟩
/-- not caught here, past rows that name other classes: it goes on to the caller -/
theorem vx_outP {p : Program} {l : Launch} {e : Env} {R : Room} {s : State} {m : MethodId} {args : Array Value} {below : List Frame} {meth : Method} {c : Code} {H : Heap} {locs : List Loc} {cells slots : Nat} {free : Addr → Prop} {ls : Array Slot} {rest : List Value} {Qc : Array Value → State → Outcome → State → Prop} {XC : String → State → State → Prop}
    {pc : Nat} {own E : String} {ce : Cell} {q : Addr} {mc ms : Nat} (hown : s.vm.findClass own = some m.cls) (hlocks : meth.locks = false)
    (hpass : ∀ z ∈ c.exceptionTable.toList, covers z pc = false ∨ (z.catchType ≠ 0 ∧ ∃ nm : String, (Cond.classLink own z.catchType nm).before args s = true ∧ va_Nc E nm s)) (hcell : H[q]? = some ce) (hv : ce.vm = .none) (hcl : s.vm.findClass E = some ce.cls)
    (hx : ∀ t : State, t.heap = H → s.vm.Alike t.vm → XC E s t) (hf : ∀ z ∈ locs, free z.base) (hc : cells ≤ mc) (hs : slots ≤ ms) :
    vx_W p l e R s m args below meth c H locs cells slots (vx_MQ below Qc XC args s mc ms free) (F0 m pc ls rest) q := by
  intro T hT X
  have hpl : e.platform.magicAccessors = ({} : Platform).magicAccessors := by rw [X.admits.platform]
  obtain ⟨vm', hW', X', st⟩ := X.outThrough hlocks q (g := F0 m pc ls rest) rfl rfl rfl (cell := ce) (by rw [hT]; exact hcell) (by rw [hv]; rfl)
    (by obtain ⟨k9, h9, -⟩ := Vm.findClass_spec hcl; exact ⟨k9, h9⟩) (fun z hz => by
      rcases hpass z hz with h | ⟨hz0, nm, hl1, hn1⟩
      · exact Or.inl h
      · obtain ⟨c6, hc6, hcl6⟩ := Cond.classLink_spec hown hl1 e.platform hpl
        obtain ⟨a8, b8, h1, h2, h3⟩ := hn1
        cases Option.some.inj (h1.symm.trans hcl)
        cases Option.some.inj (h2.symm.trans hc6)
        exact Or.inr ⟨hz0, _, hcl6, h3⟩)
  obtain ⟨g₀, hfr⟩ := X'.frames_eq
  have hcell9 : ((T.setVm vm').setFrames (.throwing q :: below)).heap[q]? = some ce := by
    show T.heap[q]? = some ce
    rw [hT]; exact hcell
  have hend : Ended ((T.setVm vm').setFrames (.throwing q :: below)) below (.threw q) := State.frames_setFrames _ (State.cur_lt_of_frames hfr)
  refine ⟨(T.setVm vm').setFrames (.throwing q :: below), ?_, .threw q, X'.here.running, hend, Or.inr ⟨q, rfl, E, ce, locs, hx _ hT (X'.ends _).1.alike, hcell9, hv, hcl, (X'.ends _).1, (X'.ends _).2.mono hc hs, hf⟩⟩
  rw [X.pushThrowing_eq]
  exact st
/-- a thing of a world lies in the heap -/
theorem vx_lt {D : va_G} {cl : List vw_C} {ws : va_W} {H1 : Heap} (h : va_P D cl ws H1) {k : Nat} {q : Nat × va_E} (hk : ws[k]? = some q) : q.1 < H1.size := (h k q hk).lt
end VXS
/-! ===== END ===== -/
/-! ===== BEGIN methods with a table of their own: called by a name, returning or throwing ===== -/
section VXH
/-! vx_backW, vx_callVX, vx_callSX, vx_callVW, vx_runVW, vx_runVX, vx_runSX, vx_ofWH follow the same proofs as their sisters above (Free/Laws.lean, Shelf42/LK1.lean); vx_outP calls Shelf42/NT130.lean (outThrough). -/
section
variable {l : Launch} {R : Room} {p : Program} {e : Env} {below : List Frame} {s : State} {sargs : Array Value} {y : MethodName} {len W9 : Nat}
theorem vx_backW {ws : List Cond} {rm : Room} {Pc : Array Value → State → Prop} {Qc : Array Value → State → Outcome → State → Prop} {XC : String → State → State → Prop} {mc ms : Nat} {free : Addr → Prop} {bytes : ByteArray} {maxL : Nat} {ret : Option FieldType} {hh : List (Nat × Nat × Nat × Nat)}
    (hM : vx_Met l y ws rm Pc Qc XC mc ms free) (hblind : FrameBlind Pc) (hrc : rm.cells = mc) (hrs : rm.slots = ms)
    (hframes : rm.frames + 1 ≤ R.frames) (hlocals : W9 + (maxL + 11) + rm.locals ≤ R.locals)
    (hws : ∀ w ∈ ws, ∀ a' U, s.WarmedH U.vm → w.before a' U = true) (hcode : Cond.codeWith y bytes maxL ret hh ∈ ws) (hinit : ∀ a' U, s.WarmedH U.vm → (Cond.initialized y.cls).before a' U = true) :
    vx_Back l R p e below s sargs y len W9 (PreOf R mc ms Pc) (PostOf Qc mc ms free) (vx_Post XC mc ms free) := by
  intro m meth c A g ig mk a X hg hsize hdg hW hn hp
  have h1 : (headSpec ws rm).pre.before a A.U = true := atoms_intro fun w hw => hws w hw _ _ X.warmed
  have h2 : (Cond.codeWith y bytes maxL ret hh).before a A.U = true := hws _ hcode _ _ X.warmed
  have h3 : (Cond.initialized y.cls).before a A.U = true := hinit _ _ X.warmed
  have h4 : A.cells + (headSpec ws rm).room.cells ≤ R.cells := by rw [show (headSpec ws rm).room.cells = mc from hrc]; exact hp.1
  have h5 : A.slots + (headSpec ws rm).room.slots ≤ R.slots := by rw [show (headSpec ws rm).room.slots = ms from hrs]; exact hp.2.1
  have hPc : Pc a (A.U.calling g mk a) := hblind _ _ _ _ hp.2.2
  obtain ⟨U, Ls, c0, s0⟩ := A
  dsimp only [Pt.U, Pt.locs, Pt.cells, Pt.slots] at h1 h2 h3 h4 h5 X hn hPc ⊢
  obtain ⟨m9, methY, cY, hn9, hmY, hcY, -, hlY, -⟩ := Cond.codeWith_spec h2
  cases Option.some.inj (hn9.symm.trans hn)
  obtain ⟨kY, hkY, -⟩ := className_of_methodNamed hn
  have hinitY : kY.init = .initialized := Cond.initialized_spec (findClass_of_methodNamed hn) hkY h3
  have h : At U g.method c below := by rw [hg]; exact X.here
  have hlocals9 : W9 + (maxL + 11) + (headSpec ws rm).room.locals ≤ R.locals := hlocals
  have happ : (headSpec ws rm).appliesLoose y e.platform (U.calling g mk a) = true :=
    Spec.appliesLoose_calling (g := g) h hdg hn hkY hinitY
      (X.room_calling (g := g) (R' := (headSpec ws rm).room) hsize hmY hcY hframes (by rw [hlY]; omega) h4 h5) h1
  obtain ⟨mid, hmid⟩ := h.above
  have hfr : (U.setTop g).frames = (.java g :: mid) ++ below := by rw [State.frames_setTop' g h.top, hmid]; rfl
  obtain ⟨o, s₂, hsteps, -, hend, hq⟩ := Steps.callFree hM p X.admits X.cas X.clock (acts := []) hfr happ hPc trivial
  have hq' : vx_Q Qc XC mc ms free a (U.calling g mk a) o s₂ := hq
  rw [State.frames_setTop' g h.top] at hend
  obtain ⟨g₀, hg0⟩ := Option.isSome_iff_exists.mp h.top
  obtain ⟨r, hr⟩ := State.topJava?_eq_some.mp hg0
  have hr' : (({ U with heap := s₂.heap, slotsUsed := s₂.slotsUsed } : State).setVm s₂.vm).frames = .java g₀ :: r := hr
  rcases hq' with ⟨hqc, L, hfe, hL⟩ | ⟨q, rfl, E, ce, L, hx, hce, hcv, hcl, hW₂, hsm, hL⟩
  · obtain ⟨⟨v, rfl⟩, hW₂, e2, q2, q3, q4, q5, q6⟩ := id hfe
    have e3 : s₂ = ({ (U.calling g mk a).setFrames s₂.frames with heap := s₂.heap, slotsUsed := s₂.slotsUsed } : State).setVm s₂.vm := by
      have : s₂ = ({ s₂ with vm := (U.calling g mk a).vm } : State).setVm s₂.vm := rfl
      rw [e2] at this
      exact this
    obtain ⟨c₂, i₂, len₂, hc₂, hd₂, hf₂⟩ := hend
    have hW' : U.WarmedH s₂.vm := hW₂
    have hcc : c₂ = c := by
      have h1 : s₂.code? g.method = U.code? g.method := by
        rw [State.code?_eq, State.code?_eq, hW'.alike.method?]
      exact Option.some.inj (hc₂.symm.trans (h1.trans h.code))
    subst hcc
    have hlen : len₂ = len := by rw [hdg] at hd₂; cases hd₂; rfl
    subst hlen
    have hs₂ : s₂ = (({ U with heap := s₂.heap, slotsUsed := s₂.slotsUsed } : State).setVm s₂.vm).setTop { g with pc := g.pc + len₂, stack := v.toList ++ g.stack } := by
      refine e3.trans ?_
      rw [hf₂, State.calling_eq h.top, State.setFrames_setFrames, State.setTop_of_frames _ hr', hr]
      rfl
    have hsame : U.sameButNew ({ U with heap := s₂.heap, slotsUsed := s₂.slotsUsed } : State) L mc ms := by
      refine ⟨?_, q2, q3, q4, q5, q6⟩
      obtain ⟨t, ht, -⟩ := State.frames_cons hr
      show ({ U with heap := s₂.heap, slotsUsed := s₂.slotsUsed } : State) = { U.setFrames U.frames with heap := s₂.heap, slotsUsed := s₂.slotsUsed }
      rw [State.setFrames_self ht]
    subst hg
    refine Or.inl ⟨v, ⟨(({ U with heap := s₂.heap, slotsUsed := s₂.slotsUsed } : State).setVm s₂.vm), Ls ++ L, c0 + mc, s0 + ms⟩,
      ⟨X.admits, X.cas, X.clock, X.frames, X.room, X.hears, X.method, X.code, (X.here.setHeapUsed s₂.heap s₂.slotsUsed).setVm hW'.alike, X.tail, State.WarmedH.trans X.warmed hW', X.limits, X.bytes, X.same.trans (hsame.setVm s.vm)⟩,
      ⟨g, mk, s₂, L, rfl, rfl, hqc, rfl, hL, rfl, rfl⟩, ?_⟩
    show Steps p.tables e below _ ((({ U with heap := s₂.heap, slotsUsed := s₂.slotsUsed } : State).setVm s₂.vm).setTop { g with pc := g.pc + len₂, stack := v.toList ++ g.stack })
    rw [← hs₂]
    exact hsteps
  · obtain ⟨e2, q2, q3, q4, q5, q6⟩ := id hsm
    have e3 : s₂ = ({ (U.calling g mk a).setFrames s₂.frames with heap := s₂.heap, slotsUsed := s₂.slotsUsed } : State).setVm s₂.vm := by
      have : s₂ = ({ s₂ with vm := (U.calling g mk a).vm } : State).setVm s₂.vm := rfl
      rw [e2] at this
      exact this
    have hf₂ : s₂.frames = .throwing q :: .java g :: U.frames.tail := hend
    have hW' : U.WarmedH s₂.vm := hW₂
    have hs₂ : s₂ = ((({ U with heap := s₂.heap, slotsUsed := s₂.slotsUsed } : State).setVm s₂.vm).setTop g).pushFrame (.throwing q) := by
      refine e3.trans ?_
      rw [hf₂, State.calling_eq h.top, State.setFrames_setFrames, State.pushFrame, State.frames_setTop _ hr', State.setTop_of_frames _ hr', State.setFrames_setFrames, hr]
      rfl
    have hsame : U.sameButNew ({ U with heap := s₂.heap, slotsUsed := s₂.slotsUsed } : State) L mc ms := by
      refine ⟨?_, q2, q3, q4, q5, q6⟩
      obtain ⟨t, ht, -⟩ := State.frames_cons hr
      show ({ U with heap := s₂.heap, slotsUsed := s₂.slotsUsed } : State) = { U.setFrames U.frames with heap := s₂.heap, slotsUsed := s₂.slotsUsed }
      rw [State.setFrames_self ht]
    subst hg
    refine Or.inr ⟨q, ⟨(({ U with heap := s₂.heap, slotsUsed := s₂.slotsUsed } : State).setVm s₂.vm), Ls ++ L, c0 + mc, s0 + ms⟩,
      ⟨X.admits, X.cas, X.clock, X.frames, X.room, X.hears, X.method, X.code, (X.here.setHeapUsed s₂.heap s₂.slotsUsed).setVm hW'.alike, X.tail, State.WarmedH.trans X.warmed hW', X.limits, X.bytes, X.same.trans (hsame.setVm s.vm)⟩,
      ⟨g, mk, s₂, L, E, ce, rfl, rfl, hx, hce, hcv, hcl, rfl, hL, rfl, rfl⟩, ?_⟩
    show Steps p.tables e below _ (((({ U with heap := s₂.heap, slotsUsed := s₂.slotsUsed } : State).setVm s₂.vm).setTop g).pushFrame (.throwing q))
    rw [← hs₂]
    exact hsteps
end
variable {p : Program} {l : Launch} {e : Env} {R : Room} {s : State} {m : MethodId} {args : Array Value} {below : List Frame} {meth : Method} {c : Code} {T : State} {H : Heap} {locs : List Loc} {cells slots : Nat}
theorem vx_callVX (X : Stand p l e R s m args below meth c T locs cells slots) (hexec : p.tables.exec = Jvm.exec) {own C : String} {index : Nat} {y : MethodName} {bytes : ByteArray} {maxL : Nat} {ret : Option FieldType} {hh : List (Nat × Nat × Nat × Nat)}
    (hown : s.vm.findClass own = some m.cls) (hlink : (Cond.methodLink own index y).before args s = true) (hinst : (Cond.instanceMethod y).before args s = true) (hsel : (Cond.selects C y y).before args s = true)
    (hcode : (Cond.codeWith y bytes maxL ret hh).before args s = true) (hy : y.cls ≠ "java/lang/invoke/MethodHandle" ∧ y.cls ≠ "java/lang/invoke/VarHandle")
    {W9 : Nat} {Pre : Pt → Array Value → Prop} {Post : Pt → Array Value → Option Value → Pt → Prop} {PostX : Pt → Array Value → Addr → Pt → Prop} (hK : vx_Back l R p e below s args y 3 W9 Pre Post PostX)
    {b : Addr} {cellB : Cell} (hcell : T.heap[b]? = some cellB) (hobj : cellB.vm.isStatics = false) (hcls : s.vm.findClass C = some cellB.cls)
    {g : JFrame} (hg : g.method = m) (hsize : g.locals.size = c.maxLocals) {argsL rest : List Value} (hlen : ∀ sig, parseMethodDescriptor y.desc = some sig → argsL.length = sig.parameters.length)
    (hstack : g.stack = argsL.reverse ++ .ref b :: rest) (hW : 2 * g.monitorRoom + (rest.map fun v => v.category).sum ≤ W9) (hdg : decode c.code g.pc = .ok (.invokevirtual index, 3))
    (hpre : ∀ vm₁, s.WarmedH vm₁ → Pre ⟨T.setVm vm₁, locs, cells, slots⟩ (Value.ref b :: argsL).toArray) :
    (∃ (v : Option Value) (vm₁ : Vm) (B : Pt), s.WarmedH vm₁ ∧ Stand p l e R s m args below meth c B.U B.locs B.cells B.slots ∧ Post ⟨T.setVm vm₁, locs, cells, slots⟩ (Value.ref b :: argsL).toArray v B ∧
      ∀ target, Steps p.tables e below (B.U.setTop { g with pc := g.pc + 3, stack := v.toList ++ rest }) target → Steps p.tables e below (T.setTop g) target) ∨
    (∃ (q : Addr) (vm₁ : Vm) (B : Pt), s.WarmedH vm₁ ∧ Stand p l e R s m args below meth c B.U B.locs B.cells B.slots ∧ PostX ⟨T.setVm vm₁, locs, cells, slots⟩ (Value.ref b :: argsL).toArray q B ∧
      Steps p.tables e below (T.setTop g) ((B.U.setTop { g with stack := rest }).pushFrame (.throwing q))) := by
  obtain ⟨mk, methM, hnamed, hmethM, hstM, habM⟩ := Cond.instanceMethod_spec hinst
  obtain ⟨m8, methM', cM, hn8, hmethM', -, -, -, -, -, -, hsigM⟩ := Cond.codeWith_spec hcode
  cases Option.some.inj (hn8.symm.trans hnamed)
  cases hmethM.symm.trans hmethM'
  obtain ⟨c2, r2, m2, q1, q2, q3, q4, kP, hkP, hkPi⟩ := Cond.selects_spec hsel
  cases hcls.symm.trans q1
  cases (State.methodFound?_of_named hnamed hy).symm.trans q2
  cases hnamed.symm.trans q3
  have hselP : selectMethod e.platform s.vm cellB.cls mk = .method mk := by rw [Launch.admits_selectMethod X.admits]; exact q4
  obtain ⟨vm₁, X₁, hstep₁⟩ := X.invokevirtual hexec hown hlink hnamed hmethM hstM hkP hkPi hy (a := b) (cell := cellB) hcell
    (fun z h => by rw [h] at hobj; cases hobj) hselP hmethM habM hkP hkPi (g := g) hg (argsL := argsL) (rest := rest) (hlen _ hsigM) hstack hdg
  rcases hK m meth c ⟨T.setVm vm₁, locs, cells, slots⟩ { g with stack := rest } (.invokevirtual index) mk (Value.ref b :: argsL).toArray X₁ hg hsize hdg hW (X₁.named hnamed) (hpre vm₁ X₁.warmed) with ⟨v, B, X', hpost, hsteps⟩ | ⟨q, B, X', hpost, hsteps⟩
  · exact Or.inl ⟨v, vm₁, B, X₁.warmed, X', hpost, fun target h => hstep₁ _ fun acts => by rw [doInvoke_state]; exact hsteps.trans h⟩
  · exact Or.inr ⟨q, vm₁, B, X₁.warmed, X', hpost, hstep₁ _ fun acts => by rw [doInvoke_state]; exact hsteps⟩
theorem vx_callSX (X : Stand p l e R s m args below meth c T locs cells slots) (hexec : p.tables.exec = Jvm.exec) {own : String} {index : Nat} {y : MethodName} {bytes : ByteArray} {maxL : Nat} {ret : Option FieldType} {hh : List (Nat × Nat × Nat × Nat)}
    (hown : s.vm.findClass own = some m.cls) (hlink : (Cond.methodLink own index y).before args s = true) (hstat : (Cond.static y).before args s = true) (hinit : (Cond.initialized y.cls).before args s = true)
    (hcode : (Cond.codeWith y bytes maxL ret hh).before args s = true) (hy : y.cls ≠ "java/lang/invoke/MethodHandle" ∧ y.cls ≠ "java/lang/invoke/VarHandle")
    {W9 : Nat} {Pre : Pt → Array Value → Prop} {Post : Pt → Array Value → Option Value → Pt → Prop} {PostX : Pt → Array Value → Addr → Pt → Prop} (hK : vx_Back l R p e below s args y 3 W9 Pre Post PostX)
    {g : JFrame} (hg : g.method = m) (hsize : g.locals.size = c.maxLocals) {argsL rest : List Value} (hlen : ∀ sig, parseMethodDescriptor y.desc = some sig → argsL.length = sig.parameters.length)
    (hstack : g.stack = argsL.reverse ++ rest) (hW : 2 * g.monitorRoom + (rest.map fun v => v.category).sum ≤ W9) (hdg : decode c.code g.pc = .ok (.invokestatic index, 3))
    (hpre : ∀ vm₁, s.WarmedH vm₁ → Pre ⟨T.setVm vm₁, locs, cells, slots⟩ argsL.toArray) :
    (∃ (v : Option Value) (vm₁ : Vm) (B : Pt), s.WarmedH vm₁ ∧ Stand p l e R s m args below meth c B.U B.locs B.cells B.slots ∧ Post ⟨T.setVm vm₁, locs, cells, slots⟩ argsL.toArray v B ∧
      ∀ target, Steps p.tables e below (B.U.setTop { g with pc := g.pc + 3, stack := v.toList ++ rest }) target → Steps p.tables e below (T.setTop g) target) ∨
    (∃ (q : Addr) (vm₁ : Vm) (B : Pt), s.WarmedH vm₁ ∧ Stand p l e R s m args below meth c B.U B.locs B.cells B.slots ∧ PostX ⟨T.setVm vm₁, locs, cells, slots⟩ argsL.toArray q B ∧
      Steps p.tables e below (T.setTop g) ((B.U.setTop { g with stack := rest }).pushFrame (.throwing q))) := by
  obtain ⟨mk, methM, cM, hnamed, hmethM, -, -, -, -, -, -, hsigM⟩ := Cond.codeWith_spec hcode
  have hstatic : methM.isStatic = true := Cond.static_spec hnamed hmethM hstat
  obtain ⟨kP, hkP, -⟩ := className_of_methodNamed hnamed
  have hinitP : kP.init = .initialized := Cond.initialized_spec (findClass_of_methodNamed hnamed) hkP hinit
  obtain ⟨vm₁, X₁, hstep₁⟩ := X.invokestatic hexec hown hlink hnamed hmethM hstatic hkP hinitP hy (g := g) hg (argsL := argsL) (rest := rest) (hlen _ hsigM) hstack hdg
  rcases hK m meth c ⟨T.setVm vm₁, locs, cells, slots⟩ { g with stack := rest } (.invokestatic index) mk argsL.toArray X₁ hg hsize hdg hW (X₁.named hnamed) (hpre vm₁ X₁.warmed) with ⟨v, B, X', hpost, hsteps⟩ | ⟨q, B, X', hpost, hsteps⟩
  · exact Or.inl ⟨v, vm₁, B, X₁.warmed, X', hpost, fun target h => hstep₁ _ fun acts => by rw [doInvoke_state]; exact hsteps.trans h⟩
  · exact Or.inr ⟨q, vm₁, B, X₁.warmed, X', hpost, hstep₁ _ fun acts => by rw [doInvoke_state]; exact hsteps⟩
theorem vx_callVW (X : Stand p l e R s m args below meth c T locs cells slots) (hexec : p.tables.exec = Jvm.exec) {own C : String} {index : Nat} {y : MethodName} {bytes : ByteArray} {maxL : Nat} {ret : Option FieldType} {hh : List (Nat × Nat × Nat × Nat)}
    (hown : s.vm.findClass own = some m.cls) (hlink : (Cond.methodLink own index y).before args s = true) (hinst : (Cond.instanceMethod y).before args s = true) (hsel : (Cond.selects C y y).before args s = true)
    (hcode : (Cond.codeWith y bytes maxL ret hh).before args s = true) (hy : y.cls ≠ "java/lang/invoke/MethodHandle" ∧ y.cls ≠ "java/lang/invoke/VarHandle")
    {W9 : Nat} {Pre : Pt → Array Value → Prop} {Post : Pt → Array Value → Option Value → Pt → Prop} (hK : Back l R p e below s args y 3 W9 Pre Post)
    {b : Addr} {cellB : Cell} (hcell : T.heap[b]? = some cellB) (hobj : cellB.vm.isStatics = false) (hcls : s.vm.findClass C = some cellB.cls)
    {g : JFrame} (hg : g.method = m) (hsize : g.locals.size = c.maxLocals) {argsL rest : List Value} (hlen : ∀ sig, parseMethodDescriptor y.desc = some sig → argsL.length = sig.parameters.length)
    (hstack : g.stack = argsL.reverse ++ .ref b :: rest) (hW : 2 * g.monitorRoom + (rest.map fun v => v.category).sum ≤ W9) (hdg : decode c.code g.pc = .ok (.invokevirtual index, 3))
    (hpre : ∀ vm₁, s.WarmedH vm₁ → Pre ⟨T.setVm vm₁, locs, cells, slots⟩ (Value.ref b :: argsL).toArray) :
    ∃ (v : Option Value) (vm₁ : Vm) (B : Pt), s.WarmedH vm₁ ∧ Stand p l e R s m args below meth c B.U B.locs B.cells B.slots ∧ Post ⟨T.setVm vm₁, locs, cells, slots⟩ (Value.ref b :: argsL).toArray v B ∧
      ∀ target, Steps p.tables e below (B.U.setTop { g with pc := g.pc + 3, stack := v.toList ++ rest }) target → Steps p.tables e below (T.setTop g) target := by
  obtain ⟨mk, methM, hnamed, hmethM, hstM, habM⟩ := Cond.instanceMethod_spec hinst
  obtain ⟨m8, methM', cM, hn8, hmethM', -, -, -, -, -, -, hsigM⟩ := Cond.codeWith_spec hcode
  cases Option.some.inj (hn8.symm.trans hnamed)
  cases hmethM.symm.trans hmethM'
  obtain ⟨c2, r2, m2, q1, q2, q3, q4, kP, hkP, hkPi⟩ := Cond.selects_spec hsel
  cases hcls.symm.trans q1
  cases (State.methodFound?_of_named hnamed hy).symm.trans q2
  cases hnamed.symm.trans q3
  have hselP : selectMethod e.platform s.vm cellB.cls mk = .method mk := by rw [Launch.admits_selectMethod X.admits]; exact q4
  obtain ⟨vm₁, X₁, hstep₁⟩ := X.invokevirtual hexec hown hlink hnamed hmethM hstM hkP hkPi hy (a := b) (cell := cellB) hcell
    (fun z h => by rw [h] at hobj; cases hobj) hselP hmethM habM hkP hkPi (g := g) hg (argsL := argsL) (rest := rest) (hlen _ hsigM) hstack hdg
  obtain ⟨v, B, X', hpost, hsteps⟩ := hK m meth c ⟨T.setVm vm₁, locs, cells, slots⟩ { g with stack := rest } (.invokevirtual index) mk (Value.ref b :: argsL).toArray X₁ hg hsize hdg hW (X₁.named hnamed) (hpre vm₁ X₁.warmed)
  exact ⟨v, vm₁, B, X₁.warmed, X', hpost, fun target h => hstep₁ _ fun acts => by rw [doInvoke_state]; exact hsteps.trans h⟩
abbrev vx_CVW (R : Room) (s : State) (args : Array Value) (own C : String) (index : Nat) (y : MethodName) (bytes : ByteArray) (maxL : Nat) (ret : Option FieldType) (hh : List (Nat × Nat × Nat × Nat)) (ws : List Cond) (rm : Room) (mc ms n : Nat) : Prop :=
  (rm.cells = mc ∧ rm.slots = ms ∧ rm.frames + 1 ≤ R.frames ∧ 8 + (maxL + 11) + rm.locals ≤ R.locals ∧ (∀ w ∈ ws, ∀ (a' : Array Value) (U : State), s.WarmedH U.vm → w.before a' U = true) ∧ Cond.codeWith y bytes maxL ret hh ∈ ws) ∧
  (Cond.codeWith y bytes maxL ret hh).before args s = true ∧ (Cond.initialized y.cls).before args s = true ∧ (y.cls ≠ "java/lang/invoke/MethodHandle" ∧ y.cls ≠ "java/lang/invoke/VarHandle") ∧
  (∀ sig, parseMethodDescriptor y.desc = some sig → n = sig.parameters.length) ∧ (Cond.methodLink own index y).before args s = true ∧ (Cond.instanceMethod y).before args s = true ∧ (Cond.selects C y y).before args s = true
theorem vx_cwVW {own C : String} {index maxL mc ms : Nat} {y : MethodName} {bytes : ByteArray} {ret : Option FieldType} {hh : List (Nat × Nat × Nat × Nat)} {Ts ws ws' : List Cond} {rm : Room} (n : Nat) (ht : ∀ w ∈ Ts, w.before args s = true) (hT : GoodIn Ts (wsV own index C y ws)) (hw : ws = Cond.codeWith y bytes maxL ret hh :: ws') (hrc : rm.cells = mc) (hrs : rm.slots = ms)
    (hd : y.cls = C ∧ y.cls ≠ "java/lang/invoke/MethodHandle" ∧ y.cls ≠ "java/lang/invoke/VarHandle" ∧ (parseMethodDescriptor y.desc).map (fun d => d.parameters.length) = some n) (hR : rm.frames + 1 ≤ R.frames ∧ 8 + (maxL + 11) + rm.locals ≤ R.locals) :
    vx_CVW R s args own C index y bytes maxL ret hh ws rm mc ms n := by
  obtain ⟨hC, hd⟩ := hd
  subst hC
  have ok : ∀ w ∈ wsV own index y.cls y ws, w.before args s = true := fun w h => ht w (hT w h).1
  have hG : GoodIn Ts ws := fun w h => hT w (by unfold wsV; exact List.mem_append_right _ h)
  have hc : Cond.codeWith y bytes maxL ret hh ∈ ws := by rw [hw]; exact List.mem_cons_self
  refine ⟨⟨hrc, hrs, hR.1, hR.2, pay_in ht hG, hc⟩, ht _ (hG _ hc).1, ok _ (by simp [wsV]), ⟨hd.1, hd.2.1⟩, fun sig h => ?_, ok _ (by simp [wsV]), ok _ (by simp [wsV]), ok _ (by simp [wsV])⟩
  have h2 := hd.2.2
  rw [h] at h2
  exact (Option.some.inj h2).symm
theorem vx_runVW {y : MethodName} {bytes cc : ByteArray} {maxL nL mc ms n index : Nat} {ret : Option FieldType} {hh : List (Nat × Nat × Nat × Nat)} {ws : List Cond} {rm : Room} {Pc : Array Value → State → Prop} {Qc : Array Value → State → Outcome → State → Prop} {free : Addr → Prop} {Ts : List Cond} {own C : String} {b : Addr} {As rest : List Value} {g : JFrame}
    (S : CallFix p m c cc nL s args Ts own) (hM : Met l y ws rm Pc Qc mc ms free) (cw : vx_CVW R s args own C index y bytes maxL ret hh ws rm mc ms n) (hp : PreV s H C b Pc As)
    (hg : g.method = m) (hn : As.length = n) (hsize : g.locals.size = nL) (hstack : g.stack = As.reverse ++ .ref b :: rest) (hW : 2 * g.monitorRoom + (rest.map fun v => v.category).sum ≤ 8) (hdg : decode cc g.pc = .ok (.invokevirtual index, 3)) (hf : cells + mc ≤ R.cells ∧ slots + ms ≤ R.slots) :
    va_Run p l e R s m args below meth c H locs cells slots mc ms g rest (Qc (Value.ref b :: As).toArray) free := by
  obtain ⟨⟨hrc, hrs, hfr, hlo, hws, hcw⟩, hcode, hini, hy, hlen, hl, hin, hse⟩ := cw
  have hK : Back l R p e below s args y 3 8 (PreOf R mc ms Pc) (PostOf Qc mc ms free) := va_backW (hh := hh) (bytes := bytes) (maxL := maxL) (ret := ret) hM hp.1 hrc hrs hfr hlo hws hcw (fun a' U hW => word_at hW (Or.inl (by first | rfl | simp [Cond.onTables, Cond.keeps, Cond.steady])) hini)
  obtain ⟨hx, hb, hml, ho, -⟩ := S
  obtain ⟨-, ⟨cellB, hcB, hoB, hclB⟩, hPc⟩ := hp
  intro T hT X
  obtain ⟨v, vm₁, ⟨U', l2, c2, s2⟩, hW₁, X', ⟨g', mk, t, L, e1, e2, hq, h1, hL, h2, h3⟩, st⟩ := vx_callVW X hx (C := C) (hh := hh) (bytes := bytes) (maxL := maxL) (ret := ret) ho hl hin hse hcode hy hK (by rw [hT]; exact hcB) hoB hclB hg (hsize.trans hml.symm) (argsL := As) (rest := rest) (fun sig h => hn.trans (hlen sig h)) hstack hW (by rw [hb]; exact hdg)
    (fun vm₁ hW₁ => ⟨hf.1, hf.2, hPc (T.setVm vm₁) hT hW₁⟩)
  dsimp only [Pt.U, Pt.locs, Pt.cells, Pt.slots] at X' e1 e2 h1 h2 h3 st
  subst h1; subst h2; subst h3
  exact ⟨v, (T.setVm vm₁).calling g' mk (Value.ref b :: As).toArray, t, U', L, hT, X', hL, e1, e2, hq, st⟩
section
variable {y : MethodName} {bytes cc : ByteArray} {maxL nL mc ms n index : Nat} {ret : Option FieldType} {ws : List Cond} {rm : Room} {Pc : Array Value → State → Prop} {Qc : Array Value → State → Outcome → State → Prop} {XC : String → State → State → Prop} {free : Addr → Prop} {Ts : List Cond} {own C : String} {b : Addr} {As rest : List Value} {g : JFrame}
theorem vx_runVX {hh : List (Nat × Nat × Nat × Nat)} (S : CallFix p m c cc nL s args Ts own) (hM : vx_Met l y ws rm Pc Qc XC mc ms free) (cw : vx_CVW R s args own C index y bytes maxL ret hh ws rm mc ms n) (hp : PreV s H C b Pc As)
    (hg : g.method = m) (hn : As.length = n) (hsize : g.locals.size = nL) (hstack : g.stack = As.reverse ++ .ref b :: rest) (hW : 2 * g.monitorRoom + (rest.map fun v => v.category).sum ≤ 8) (hdg : decode cc g.pc = .ok (.invokevirtual index, 3)) (hf : cells + mc ≤ R.cells ∧ slots + ms ≤ R.slots) :
    vx_Run p l e R s m args below meth c H locs cells slots mc ms g rest (Qc (Value.ref b :: As).toArray) XC free := by
  obtain ⟨⟨hrc, hrs, hfr, hlo, hws, hcw⟩, hcode, hini, hy, hlen, hl, hin, hse⟩ := cw
  have hK : vx_Back l R p e below s args y 3 8 (PreOf R mc ms Pc) (PostOf Qc mc ms free) (vx_Post XC mc ms free) := vx_backW (hh := hh) (bytes := bytes) (maxL := maxL) (ret := ret) hM hp.1 hrc hrs hfr hlo hws hcw (fun a' U hW => word_at hW (Or.inl (by first | rfl | simp [Cond.onTables, Cond.keeps, Cond.steady])) hini)
  obtain ⟨hx, hb, hml, ho, -⟩ := S
  obtain ⟨-, ⟨cellB, hcB, hoB, hclB⟩, hPc⟩ := hp
  intro T hT X
  rcases vx_callVX X hx (C := C) (hh := hh) (bytes := bytes) (maxL := maxL) (ret := ret) ho hl hin hse hcode hy hK (by rw [hT]; exact hcB) hoB hclB hg (hsize.trans hml.symm) (argsL := As) (rest := rest) (fun sig h => hn.trans (hlen sig h)) hstack hW (by rw [hb]; exact hdg)
    (fun vm₁ hW₁ => ⟨hf.1, hf.2, hPc (T.setVm vm₁) hT hW₁⟩) with ⟨v, vm₁, ⟨U', l2, c2, s2⟩, hW₁, X', ⟨g', mk, t, L, e1, e2, hq, h1, hL, h2, h3⟩, st⟩ | ⟨q, vm₁, ⟨U', l2, c2, s2⟩, hW₁, X', ⟨g', mk, t, L, E, ce, e1, e2, hq, hce, hcv, hcl, h1, hL, h2, h3⟩, st⟩
  · dsimp only [Pt.U, Pt.locs, Pt.cells, Pt.slots] at X' e1 e2 h1 h2 h3 st
    subst h1; subst h2; subst h3
    exact Or.inl ⟨v, (T.setVm vm₁).calling g' mk (Value.ref b :: As).toArray, t, U', L, hT, X', hL, e1, e2, hq, st⟩
  · dsimp only [Pt.U, Pt.locs, Pt.cells, Pt.slots] at X' e1 e2 h1 h2 h3 st hcl
    subst h1; subst h2; subst h3
    exact Or.inr ⟨q, (T.setVm vm₁).calling g' mk (Value.ref b :: As).toArray, t, U', L, E, ce, hT, X', hL, e1, e2, hq, hce, hcv, vx_cls hW₁ hcl, st⟩
theorem vx_runSX {hh : List (Nat × Nat × Nat × Nat)} (S : CallFix p m c cc nL s args Ts own) (hM : vx_Met l y ws rm Pc Qc XC mc ms free) (cw : vx_CSW R s args own index y bytes maxL ret hh ws rm mc ms n) (hp : PreS s H Pc As)
    (hg : g.method = m) (hn : As.length = n) (hsize : g.locals.size = nL) (hstack : g.stack = As.reverse ++ rest) (hW : 2 * g.monitorRoom + (rest.map fun v => v.category).sum ≤ 8) (hdg : decode cc g.pc = .ok (.invokestatic index, 3)) (hf : cells + mc ≤ R.cells ∧ slots + ms ≤ R.slots) :
    vx_Run p l e R s m args below meth c H locs cells slots mc ms g rest (Qc As.toArray) XC free := by
  obtain ⟨⟨hrc, hrs, hfr, hlo, hws, hcw⟩, hcode, hini, hy, hlen, hl, hstt⟩ := cw
  have hK : vx_Back l R p e below s args y 3 8 (PreOf R mc ms Pc) (PostOf Qc mc ms free) (vx_Post XC mc ms free) := vx_backW (hh := hh) (bytes := bytes) (maxL := maxL) (ret := ret) hM hp.1 hrc hrs hfr hlo hws hcw (fun a' U hW => word_at hW (Or.inl (by first | rfl | simp [Cond.onTables, Cond.keeps, Cond.steady])) hini)
  obtain ⟨hx, hb, hml, ho, -⟩ := S
  intro T hT X
  rcases vx_callSX X hx (hh := hh) (bytes := bytes) (maxL := maxL) (ret := ret) ho hl hstt hini hcode hy hK hg (hsize.trans hml.symm) (argsL := As) (rest := rest) (fun sig h => hn.trans (hlen sig h)) hstack hW (by rw [hb]; exact hdg)
    (fun vm₁ hW₁ => ⟨hf.1, hf.2, hp.2 (T.setVm vm₁) hT hW₁⟩) with ⟨v, vm₁, ⟨U', l2, c2, s2⟩, hW₁, X', ⟨g', mk, t, L, e1, e2, hq, h1, hL, h2, h3⟩, st⟩ | ⟨q, vm₁, ⟨U', l2, c2, s2⟩, hW₁, X', ⟨g', mk, t, L, E, ce, e1, e2, hq, hce, hcv, hcl, h1, hL, h2, h3⟩, st⟩
  · dsimp only [Pt.U, Pt.locs, Pt.cells, Pt.slots] at X' e1 e2 h1 h2 h3 st
    subst h1; subst h2; subst h3
    exact Or.inl ⟨v, (T.setVm vm₁).calling g' mk As.toArray, t, U', L, hT, X', hL, e1, e2, hq, st⟩
  · dsimp only [Pt.U, Pt.locs, Pt.cells, Pt.slots] at X' e1 e2 h1 h2 h3 st hcl
    subst h1; subst h2; subst h3
    exact Or.inr ⟨q, (T.setVm vm₁).calling g' mk As.toArray, t, U', L, E, ce, hT, X', hL, e1, e2, hq, hce, hcv, vx_cls hW₁ hcl, st⟩
end
end VXH
theorem vx_ofWH {l : Launch} {y : MethodName} {ws ws' : List Cond} {rm : Room} {Pc : Array Value → State → Prop} {Qc : Array Value → State → Outcome → State → Prop} {XC : String → State → State → Prop} {mc ms : Nat} {free : Addr → Prop} {cc : ByteArray} {maxL : Nat} {ret : Option FieldType} {hh : List (Nat × Nat × Nat × Nat)}
    (hy : plainName y.cls = true) (hw : ws = Cond.codeWith y cc maxL ret hh :: ws')
    (body : ∀ p e s m args below meth c s₁, BodyLoose p l y (headSpec ws rm) cc maxL ret e s m args below meth c s₁ → c.maxLocals = maxL → Pc args s →
      W p l e (headSpec ws rm).room s m args below meth c s.heap [] 0 0 (vx_MQ below Qc XC args s mc ms free) (entryFrame m args maxL)) : vx_Met l y ws rm Pc Qc XC mc ms free := by
  refine MetFree.of_bodyS (code := cc) (maxLocals := maxL) (ret := ret) hy ?_ ?_
  · intro args s m h hn
    obtain ⟨m9, meth, c, hn9, h1, h2, h3, h4, -, h5, h6, -⟩ := Cond.codeWith_spec (atoms_spec (ws := ws) h _ (by rw [hw]; exact List.mem_cons_self))
    cases hn.symm.trans hn9
    exact ⟨meth, c, h1, h2, h3, h4, h5, h6⟩
  · intro p e s m args below meth c s₁ B hml hP _
    have hh0 : s₁.heap = s.heap := by rw [B.state]; rfl
    obtain ⟨t, a1, o, b1, b2, b3⟩ := body p e s m args below meth c s₁ B hml hP s₁ hh0 (Stand.of_body B)
    exact ⟨t, o, a1, b1, b2, b3⟩
/-! ===== END ===== -/
end
section
def RX0 : String := "BlastPlanner$Blast"
def TX0 : u_T := fun k => match k with
  | 0 => ("BlastPlanner$Blast", "sizes", "[I", true)
  | 1 => ("BlastPlanner$Blast", "delays", "[I", true)
  | 2 => ("BlastPlanner$Blast", "squaredDistances", "[I", true)
  | 3 => ("BlastPlanner$Blast", "dusty", "[I", true)
  | 4 => ("BlastPlanner$Blast", "x", "I", false)
  | 5 => ("BlastPlanner$Blast", "y", "I", false)
  | 6 => ("BlastPlanner$Blast", "radius", "I", false)
  | 7 => ("BlastPlanner$Blast", "charges", "I", false)
  | 8 => ("BlastPlanner$Blast", "windowSum", "I", false)
  | 9 => ("BlastPlanner$Blast", "windowFirst", "I", false)
  | 10 => ("BlastPlanner$Blast", "tooStrong", "I", false)
  | 11 => ("BlastPlanner$Blast", "closedRoads", "I", false)
  | 12 => ("BlastPlanner$Blast", "heardBy", "I", false)
  | _ => ("BlastPlanner$Blast", "fired", "Z", false)
def tyX0 : Nat → FieldType := fun k => match k with
  | 0 => .array .int
  | 1 => .array .int
  | 2 => .array .int
  | 3 => .array .int
  | 4 => .int
  | 5 => .int
  | 6 => .int
  | 7 => .int
  | 8 => .int
  | 9 => .int
  | 10 => .int
  | 11 => .int
  | 12 => .int
  | _ => .boolean
abbrev wsX00 : List Cond := u_ws RX0 TX0 14
theorem nmX0 : ∀ a, a < 14 → ∀ b, b < 14 → a ≠ b → (TX0 a).2.1 ≠ (TX0 b).2.1 := by decide +kernel
theorem tyX0_ok : ∀ k, k < 14 → parseFieldDescriptor (TX0 k).2.2.1 = some (tyX0 k) := by decide +kernel
abbrev cX0_init : ByteArray := prog_2_method_1_code
def yX0_init : MethodName := ⟨RX0, "<init>", "()V"⟩
abbrev cX0_addCharge : ByteArray := prog_2_method_2_code
def yX0_addCharge : MethodName := ⟨RX0, "addCharge", "(II)V"⟩
abbrev cX0_spreadDelays : ByteArray := prog_2_method_3_code
def yX0_spreadDelays : MethodName := ⟨RX0, "spreadDelays", "(I)V"⟩
abbrev cX0_sumFromDelay : ByteArray := prog_2_method_6_code
def yX0_sumFromDelay : MethodName := ⟨RX0, "sumFromDelay", "(I)I"⟩
abbrev cX0_measureWindow : ByteArray := prog_2_method_7_code
def yX0_measureWindow : MethodName := ⟨RX0, "measureWindow", "()V"⟩
abbrev cX0_windowIfGap : ByteArray := prog_2_method_8_code
def yX0_windowIfGap : MethodName := ⟨RX0, "windowIfGap", "(I)I"⟩
abbrev cX0_shakes : ByteArray := prog_2_method_9_code
def yX0_shakes : MethodName := ⟨RX0, "shakes", "(II)I"⟩
abbrev cX0_closesRoad : ByteArray := prog_2_method_10_code
def yX0_closesRoad : MethodName := ⟨RX0, "closesRoad", "(I)Z"⟩
def RX1 : String := "BlastPlanner$FormattedText"
def TX1 : u_T := fun k => match k with
  | 0 => ("BlastPlanner$FormattedText", "bytes", "[B", true)
  | _ => ("BlastPlanner$FormattedText", "length", "I", false)
def tyX1 : Nat → FieldType := fun k => match k with
  | 0 => .array .byte
  | _ => .int
abbrev wsX10 : List Cond := u_ws RX1 TX1 2
theorem nmX1 : ∀ a, a < 2 → ∀ b, b < 2 → a ≠ b → (TX1 a).2.1 ≠ (TX1 b).2.1 := by decide +kernel
theorem tyX1_ok : ∀ k, k < 2 → parseFieldDescriptor (TX1 k).2.2.1 = some (tyX1 k) := by decide +kernel
abbrev cX1_init : ByteArray := prog_3_method_1_code
def yX1_init : MethodName := ⟨RX1, "<init>", "()V"⟩
def RX2 : String := "BlastPlanner$History"
def TX2 : u_T := fun k => match k with
  | 0 => ("BlastPlanner$History", "rows", "[[I", true)
  | 1 => ("BlastPlanner$History", "next", "I", false)
  | _ => ("BlastPlanner$History", "depth", "I", false)
def tyX2 : Nat → FieldType := fun k => match k with
  | 0 => .array (.array .int)
  | 1 => .int
  | _ => .int
abbrev wsX20 : List Cond := u_ws RX2 TX2 3
theorem nmX2 : ∀ a, a < 3 → ∀ b, b < 3 → a ≠ b → (TX2 a).2.1 ≠ (TX2 b).2.1 := by decide +kernel
theorem tyX2_ok : ∀ k, k < 3 → parseFieldDescriptor (TX2 k).2.2.1 = some (tyX2 k) := by decide +kernel
abbrev cX2_init : ByteArray := prog_4_method_1_code
def yX2_init : MethodName := ⟨RX2, "<init>", "()V"⟩
abbrev cX2_clear : ByteArray := prog_4_method_2_code
def yX2_clear : MethodName := ⟨RX2, "clear", "()V"⟩
abbrev cX2_record : ByteArray := prog_4_method_3_code
def yX2_record : MethodName := ⟨RX2, "record", "(LBlastPlanner$Site;)V"⟩
def RX3 : String := "BlastPlanner$MinuteSet"
def TX3 : u_T := fun k => match k with
  | 0 => ("BlastPlanner$MinuteSet", "firsts", "[I", true)
  | 1 => ("BlastPlanner$MinuteSet", "ends", "[I", true)
  | _ => ("BlastPlanner$MinuteSet", "runs", "I", false)
def tyX3 : Nat → FieldType := fun k => match k with
  | 0 => .array .int
  | 1 => .array .int
  | _ => .int
abbrev wsX30 : List Cond := u_ws RX3 TX3 3
theorem nmX3 : ∀ a, a < 3 → ∀ b, b < 3 → a ≠ b → (TX3 a).2.1 ≠ (TX3 b).2.1 := by decide +kernel
theorem tyX3_ok : ∀ k, k < 3 → parseFieldDescriptor (TX3 k).2.2.1 = some (tyX3 k) := by decide +kernel
abbrev cX3_init : ByteArray := prog_5_method_1_code
def yX3_init : MethodName := ⟨RX3, "<init>", "()V"⟩
abbrev cX3_clear : ByteArray := prog_5_method_2_code
def yX3_clear : MethodName := ⟨RX3, "clear", "()V"⟩
abbrev cX3_add : ByteArray := prog_5_method_3_code
def yX3_add : MethodName := ⟨RX3, "add", "(II)V"⟩
abbrev cX3_insert : ByteArray := prog_5_method_4_code
def yX3_insert : MethodName := ⟨RX3, "insert", "(II)V"⟩
abbrev cX3_contains : ByteArray := prog_5_method_5_code
def yX3_contains : MethodName := ⟨RX3, "contains", "(I)Z"⟩
abbrev cX3_size : ByteArray := prog_5_method_6_code
def yX3_size : MethodName := ⟨RX3, "size", "()I"⟩
abbrev cX3_sizeWithin : ByteArray := prog_5_method_7_code
def yX3_sizeWithin : MethodName := ⟨RX3, "sizeWithin", "(II)I"⟩
def RX4 : String := "BlastPlanner$Neighbour"
def TX4 : u_T := fun k => match k with
  | 0 => ("BlastPlanner$Neighbour", "quietFirst", "[I", true)
  | 1 => ("BlastPlanner$Neighbour", "quietEnd", "[I", true)
  | 2 => ("BlastPlanner$Neighbour", "x", "I", false)
  | 3 => ("BlastPlanner$Neighbour", "y", "I", false)
  | 4 => ("BlastPlanner$Neighbour", "limit", "I", false)
  | _ => ("BlastPlanner$Neighbour", "windows", "I", false)
def tyX4 : Nat → FieldType := fun k => match k with
  | 0 => .array .int
  | 1 => .array .int
  | 2 => .int
  | 3 => .int
  | 4 => .int
  | _ => .int
abbrev wsX40 : List Cond := u_ws RX4 TX4 6
theorem nmX4 : ∀ a, a < 6 → ∀ b, b < 6 → a ≠ b → (TX4 a).2.1 ≠ (TX4 b).2.1 := by decide +kernel
theorem tyX4_ok : ∀ k, k < 6 → parseFieldDescriptor (TX4 k).2.2.1 = some (tyX4 k) := by decide +kernel
abbrev cX4_init : ByteArray := prog_6_method_1_code
def yX4_init : MethodName := ⟨RX4, "<init>", "()V"⟩
abbrev cX4_addWindow : ByteArray := prog_6_method_2_code
def yX4_addWindow : MethodName := ⟨RX4, "addWindow", "(II)V"⟩
abbrev cX4_quietAt : ByteArray := prog_6_method_3_code
def yX4_quietAt : MethodName := ⟨RX4, "quietAt", "(I)Z"⟩
def RX5 : String := "BlastPlanner$Parser"
def TX5 : u_T := fun k => match k with
  | _ => ("BlastPlanner$Parser", "tokens", "LBlastPlanner$Tokens;", true)
def tyX5 : Nat → FieldType := fun k => match k with
  | _ => .object "BlastPlanner$Tokens"
abbrev wsX50 : List Cond := u_ws RX5 TX5 1
theorem nmX5 : ∀ a, a < 1 → ∀ b, b < 1 → a ≠ b → (TX5 a).2.1 ≠ (TX5 b).2.1 := by decide +kernel
theorem tyX5_ok : ∀ k, k < 1 → parseFieldDescriptor (TX5 k).2.2.1 = some (tyX5 k) := by decide +kernel
abbrev cX5_init : ByteArray := prog_7_method_1_code
def yX5_init : MethodName := ⟨RX5, "<init>", "()V"⟩
abbrev cX5_parse : ByteArray := prog_7_method_2_code
def yX5_parse : MethodName := ⟨RX5, "parse", "(LBlastPlanner$Site;)Z"⟩
abbrev cX5_parseLine : ByteArray := prog_7_method_3_code
def yX5_parseLine : MethodName := ⟨RX5, "parseLine", "(LBlastPlanner$Site;)V"⟩
abbrev cX5_parseSetting : ByteArray := prog_7_method_4_code
def yX5_parseSetting : MethodName := ⟨RX5, "parseSetting", "(LBlastPlanner$Site;)V"⟩
abbrev cX5_parseWind : ByteArray := prog_7_method_5_code
def yX5_parseWind : MethodName := ⟨RX5, "parseWind", "(LBlastPlanner$Site;)V"⟩
abbrev cX5_parseNeighbour : ByteArray := prog_7_method_6_code
def yX5_parseNeighbour : MethodName := ⟨RX5, "parseNeighbour", "(LBlastPlanner$Site;I)V"⟩
abbrev cX5_parseWindow : ByteArray := prog_7_method_7_code
def yX5_parseWindow : MethodName := ⟨RX5, "parseWindow", "(LBlastPlanner$Neighbour;)V"⟩
abbrev cX5_parseRoad : ByteArray := prog_7_method_8_code
def yX5_parseRoad : MethodName := ⟨RX5, "parseRoad", "(LBlastPlanner$Site;I)V"⟩
abbrev cX5_parseBlast : ByteArray := prog_7_method_9_code
def yX5_parseBlast : MethodName := ⟨RX5, "parseBlast", "(LBlastPlanner$Site;I)V"⟩
abbrev cX5_parseCharge : ByteArray := prog_7_method_10_code
def yX5_parseCharge : MethodName := ⟨RX5, "parseCharge", "(LBlastPlanner$Blast;)V"⟩
def RX6 : String := "BlastPlanner$PlanSearch"
def TX6 : u_T := fun k => match k with
  | 0 => ("BlastPlanner$PlanSearch", "open", "[I", true)
  | 1 => ("BlastPlanner$PlanSearch", "trial", "[I", true)
  | 2 => ("BlastPlanner$PlanSearch", "bestTimes", "[I", true)
  | 3 => ("BlastPlanner$PlanSearch", "openTotal", "I", false)
  | 4 => ("BlastPlanner$PlanSearch", "bestLength", "I", false)
  | _ => ("BlastPlanner$PlanSearch", "known", "Z", false)
def tyX6 : Nat → FieldType := fun k => match k with
  | 0 => .array .int
  | 1 => .array .int
  | 2 => .array .int
  | 3 => .int
  | 4 => .int
  | _ => .boolean
abbrev wsX60 : List Cond := u_ws RX6 TX6 6
theorem nmX6 : ∀ a, a < 6 → ∀ b, b < 6 → a ≠ b → (TX6 a).2.1 ≠ (TX6 b).2.1 := by decide +kernel
theorem tyX6_ok : ∀ k, k < 6 → parseFieldDescriptor (TX6 k).2.2.1 = some (tyX6 k) := by decide +kernel
abbrev cX6_init : ByteArray := prog_8_method_1_code
def yX6_init : MethodName := ⟨RX6, "<init>", "()V"⟩
abbrev cX6_forget : ByteArray := prog_8_method_2_code
def yX6_forget : MethodName := ⟨RX6, "forget", "()V"⟩
abbrev cX6_search : ByteArray := prog_8_method_3_code
def yX6_search : MethodName := ⟨RX6, "search", "(LBlastPlanner$Site;I)V"⟩
abbrev cX6_place : ByteArray := prog_8_method_4_code
def yX6_place : MethodName := ⟨RX6, "place", "(LBlastPlanner$PlanSearch;LBlastPlanner$Site;II)V"⟩
abbrev cX6_keep : ByteArray := prog_8_method_5_code
def yX6_keep : MethodName := ⟨RX6, "keep", "(LBlastPlanner$Site;I)V"⟩
abbrev cX6_newlyClosed : ByteArray := prog_8_method_6_code
def yX6_newlyClosed : MethodName := ⟨RX6, "newlyClosed", "(LBlastPlanner$Site;II)I"⟩
abbrev cX6_newlyClosedOf : ByteArray := prog_8_method_7_code
def yX6_newlyClosedOf : MethodName := ⟨RX6, "newlyClosedOf", "(LBlastPlanner$Site;II)I"⟩
def RX7 : String := "BlastPlanner$Road"
def TX7 : u_T := fun k => match k with
  | 0 => ("BlastPlanner$Road", "x1", "I", false)
  | 1 => ("BlastPlanner$Road", "y1", "I", false)
  | 2 => ("BlastPlanner$Road", "x2", "I", false)
  | _ => ("BlastPlanner$Road", "y2", "I", false)
def tyX7 : Nat → FieldType := fun k => match k with
  | 0 => .int
  | 1 => .int
  | 2 => .int
  | _ => .int
abbrev wsX70 : List Cond := u_ws RX7 TX7 4
theorem nmX7 : ∀ a, a < 4 → ∀ b, b < 4 → a ≠ b → (TX7 a).2.1 ≠ (TX7 b).2.1 := by decide +kernel
theorem tyX7_ok : ∀ k, k < 4 → parseFieldDescriptor (TX7 k).2.2.1 = some (tyX7 k) := by decide +kernel
abbrev cX7_init : ByteArray := prog_9_method_1_code
def yX7_init : MethodName := ⟨RX7, "<init>", "()V"⟩
abbrev cX7_comesWithin : ByteArray := prog_9_method_2_code
def yX7_comesWithin : MethodName := ⟨RX7, "comesWithin", "(III)Z"⟩
def RX8 : String := "BlastPlanner$SirenList"
def TX8 : u_T := fun k => match k with
  | 0 => ("BlastPlanner$SirenList", "keys", "[I", true)
  | _ => ("BlastPlanner$SirenList", "total", "I", false)
def tyX8 : Nat → FieldType := fun k => match k with
  | 0 => .array .int
  | _ => .int
abbrev wsX80 : List Cond := u_ws RX8 TX8 2
theorem nmX8 : ∀ a, a < 2 → ∀ b, b < 2 → a ≠ b → (TX8 a).2.1 ≠ (TX8 b).2.1 := by decide +kernel
theorem tyX8_ok : ∀ k, k < 2 → parseFieldDescriptor (TX8 k).2.2.1 = some (tyX8 k) := by decide +kernel
abbrev cX8_init : ByteArray := prog_10_method_1_code
def yX8_init : MethodName := ⟨RX8, "<init>", "()V"⟩
abbrev cX8_gather : ByteArray := prog_10_method_2_code
def yX8_gather : MethodName := ⟨RX8, "gather", "(LBlastPlanner$Site;)V"⟩
abbrev cX8_insert : ByteArray := prog_10_method_3_code
def yX8_insert : MethodName := ⟨RX8, "insert", "(III)V"⟩
abbrev cX8_minuteOf : ByteArray := prog_10_method_4_code
def yX8_minuteOf : MethodName := ⟨RX8, "minuteOf", "(I)I"⟩
abbrev cX8_kindOf : ByteArray := prog_10_method_5_code
def yX8_kindOf : MethodName := ⟨RX8, "kindOf", "(I)I"⟩
abbrev cX8_blastOf : ByteArray := prog_10_method_6_code
def yX8_blastOf : MethodName := ⟨RX8, "blastOf", "(I)I"⟩
def RX9 : String := "BlastPlanner$Site"
def TX9 : u_T := fun k => match k with
  | 0 => ("BlastPlanner$Site", "neighbours", "[LBlastPlanner$Neighbour;", true)
  | 1 => ("BlastPlanner$Site", "roads", "[LBlastPlanner$Road;", true)
  | 2 => ("BlastPlanner$Site", "blasts", "[LBlastPlanner$Blast;", true)
  | 3 => ("BlastPlanner$Site", "neighbourNames", "[I", true)
  | 4 => ("BlastPlanner$Site", "roadNames", "[I", true)
  | 5 => ("BlastPlanner$Site", "blastNames", "[I", true)
  | 6 => ("BlastPlanner$Site", "times", "[I", true)
  | 7 => ("BlastPlanner$Site", "windDirections", "[I", true)
  | 8 => ("BlastPlanner$Site", "windSpeeds", "[I", true)
  | 9 => ("BlastPlanner$Site", "neighbourTotal", "I", false)
  | 10 => ("BlastPlanner$Site", "roadTotal", "I", false)
  | 11 => ("BlastPlanner$Site", "blastTotal", "I", false)
  | 12 => ("BlastPlanner$Site", "dayFirst", "I", false)
  | 13 => ("BlastPlanner$Site", "dayLast", "I", false)
  | 14 => ("BlastPlanner$Site", "step", "I", false)
  | 15 => ("BlastPlanner$Site", "before", "I", false)
  | 16 => ("BlastPlanner$Site", "after", "I", false)
  | _ => ("BlastPlanner$Site", "spacing", "I", false)
def tyX9 : Nat → FieldType := fun k => match k with
  | 0 => .array (.object "BlastPlanner$Neighbour")
  | 1 => .array (.object "BlastPlanner$Road")
  | 2 => .array (.object "BlastPlanner$Blast")
  | 3 => .array .int
  | 4 => .array .int
  | 5 => .array .int
  | 6 => .array .int
  | 7 => .array .int
  | 8 => .array .int
  | 9 => .int
  | 10 => .int
  | 11 => .int
  | 12 => .int
  | 13 => .int
  | 14 => .int
  | 15 => .int
  | 16 => .int
  | _ => .int
abbrev wsX90 : List Cond := u_ws RX9 TX9 18
theorem nmX9 : ∀ a, a < 18 → ∀ b, b < 18 → a ≠ b → (TX9 a).2.1 ≠ (TX9 b).2.1 := by decide +kernel
theorem tyX9_ok : ∀ k, k < 18 → parseFieldDescriptor (TX9 k).2.2.1 = some (tyX9 k) := by decide +kernel
abbrev cX9_init : ByteArray := prog_11_method_1_code
def yX9_init : MethodName := ⟨RX9, "<init>", "()V"⟩
abbrev cX9_reset : ByteArray := prog_11_method_2_code
def yX9_reset : MethodName := ⟨RX9, "reset", "()V"⟩
abbrev cX9_survey : ByteArray := prog_11_method_3_code
def yX9_survey : MethodName := ⟨RX9, "survey", "()V"⟩
abbrev cX9_measureNeighbours : ByteArray := prog_11_method_4_code
def yX9_measureNeighbours : MethodName := ⟨RX9, "measureNeighbours", "(LBlastPlanner$Blast;)V"⟩
abbrev cX9_measureRoads : ByteArray := prog_11_method_5_code
def yX9_measureRoads : MethodName := ⟨RX9, "measureRoads", "(LBlastPlanner$Blast;)V"⟩
abbrev cX9_neighboursInDust : ByteArray := prog_11_method_6_code
def yX9_neighboursInDust : MethodName := ⟨RX9, "neighboursInDust", "(LBlastPlanner$Blast;I)I"⟩
abbrev cX9_weigh : ByteArray := prog_11_method_7_code
def yX9_weigh : MethodName := ⟨RX9, "weigh", "(LBlastPlanner$Blast;)V"⟩
abbrev cX9_startTotal : ByteArray := prog_11_method_8_code
def yX9_startTotal : MethodName := ⟨RX9, "startTotal", "()I"⟩
abbrev cX9_startAt : ByteArray := prog_11_method_9_code
def yX9_startAt : MethodName := ⟨RX9, "startAt", "(I)I"⟩
abbrev cX9_openTotal : ByteArray := prog_11_method_10_code
def yX9_openTotal : MethodName := ⟨RX9, "openTotal", "()I"⟩
abbrev cX9_reasonAgainst : ByteArray := prog_11_method_11_code
def yX9_reasonAgainst : MethodName := ⟨RX9, "reasonAgainst", "(II[I)I"⟩
abbrev cX9_quietFor : ByteArray := prog_11_method_12_code
def yX9_quietFor : MethodName := ⟨RX9, "quietFor", "(LBlastPlanner$Blast;I)Z"⟩
abbrev cX9_crowded : ByteArray := prog_11_method_13_code
def yX9_crowded : MethodName := ⟨RX9, "crowded", "(II[I)Z"⟩
abbrev cX9_firstScheduled : ByteArray := prog_11_method_14_code
def yX9_firstScheduled : MethodName := ⟨RX9, "firstScheduled", "(I)I"⟩
abbrev cX9_closingFirst : ByteArray := prog_11_method_15_code
def yX9_closingFirst : MethodName := ⟨RX9, "closingFirst", "(I)I"⟩
abbrev cX9_closingEnd : ByteArray := prog_11_method_16_code
def yX9_closingEnd : MethodName := ⟨RX9, "closingEnd", "(I)I"⟩
abbrev cX9_collectClosed : ByteArray := prog_11_method_17_code
def yX9_collectClosed : MethodName := ⟨RX9, "collectClosed", "(ILBlastPlanner$MinuteSet;)V"⟩
abbrev cX9_closedTotal : ByteArray := prog_11_method_18_code
def yX9_closedTotal : MethodName := ⟨RX9, "closedTotal", "(LBlastPlanner$MinuteSet;)I"⟩
def RX10 : String := "BlastPlanner$Tokens"
def TX10 : u_T := fun k => match k with
  | 0 => ("BlastPlanner$Tokens", "bytes", "[B", true)
  | 1 => ("BlastPlanner$Tokens", "length", "I", false)
  | 2 => ("BlastPlanner$Tokens", "position", "I", false)
  | 3 => ("BlastPlanner$Tokens", "wrongOffset", "I", false)
  | _ => ("BlastPlanner$Tokens", "wrongKind", "I", false)
def tyX10 : Nat → FieldType := fun k => match k with
  | 0 => .array .byte
  | 1 => .int
  | 2 => .int
  | 3 => .int
  | _ => .int
abbrev wsX100 : List Cond := u_ws RX10 TX10 5
theorem nmX10 : ∀ a, a < 5 → ∀ b, b < 5 → a ≠ b → (TX10 a).2.1 ≠ (TX10 b).2.1 := by decide +kernel
theorem tyX10_ok : ∀ k, k < 5 → parseFieldDescriptor (TX10 k).2.2.1 = some (tyX10 k) := by decide +kernel
abbrev cX10_init : ByteArray := prog_12_method_1_code
def yX10_init : MethodName := ⟨RX10, "<init>", "()V"⟩
abbrev cX10_hasRoom : ByteArray := prog_12_method_2_code
def yX10_hasRoom : MethodName := ⟨RX10, "hasRoom", "(I)Z"⟩
abbrev cX10_addWord : ByteArray := prog_12_method_3_code
def yX10_addWord : MethodName := ⟨RX10, "addWord", "(I)V"⟩
abbrev cX10_begin : ByteArray := prog_12_method_4_code
def yX10_begin : MethodName := ⟨RX10, "begin", "()V"⟩
abbrev cX10_failed : ByteArray := prog_12_method_5_code
def yX10_failed : MethodName := ⟨RX10, "failed", "()Z"⟩
abbrev cX10_fail : ByteArray := prog_12_method_6_code
def yX10_fail : MethodName := ⟨RX10, "fail", "(II)V"⟩
abbrev cX10_skipSpaces : ByteArray := prog_12_method_7_code
def yX10_skipSpaces : MethodName := ⟨RX10, "skipSpaces", "()V"⟩
abbrev cX10_endOfRun : ByteArray := prog_12_method_8_code
def yX10_endOfRun : MethodName := ⟨RX10, "endOfRun", "(CC)I"⟩
abbrev cX10_atEnd : ByteArray := prog_12_method_9_code
def yX10_atEnd : MethodName := ⟨RX10, "atEnd", "()Z"⟩
abbrev cX10_numberFollows : ByteArray := prog_12_method_10_code
def yX10_numberFollows : MethodName := ⟨RX10, "numberFollows", "()Z"⟩
abbrev cX10_need : ByteArray := prog_12_method_11_code
def yX10_need : MethodName := ⟨RX10, "need", "(Z)V"⟩
abbrev cX10_tookSemicolon : ByteArray := prog_12_method_12_code
def yX10_tookSemicolon : MethodName := ⟨RX10, "tookSemicolon", "()Z"⟩
abbrev cX10_tookWord : ByteArray := prog_12_method_13_code
def yX10_tookWord : MethodName := ⟨RX10, "tookWord", "(Ljava/lang/String;)Z"⟩
abbrev cX10_takeName : ByteArray := prog_12_method_14_code
def yX10_takeName : MethodName := ⟨RX10, "takeName", "([II)I"⟩
abbrev cX10_nameUpTo : ByteArray := prog_12_method_15_code
def yX10_nameUpTo : MethodName := ⟨RX10, "nameUpTo", "(I)I"⟩
abbrev cX10_takeNumber : ByteArray := prog_12_method_16_code
def yX10_takeNumber : MethodName := ⟨RX10, "takeNumber", "(II)I"⟩
abbrev cX10_valueUpTo : ByteArray := prog_12_method_17_code
def yX10_valueUpTo : MethodName := ⟨RX10, "valueUpTo", "(I)I"⟩
def RX11 : String := "BlastPlanner"
def TX11 : u_T := fun k => match k with
  | 0 => ("BlastPlanner", "parser", "LBlastPlanner$Parser;", true)
  | 1 => ("BlastPlanner", "history", "LBlastPlanner$History;", true)
  | 2 => ("BlastPlanner", "plan", "LBlastPlanner$PlanSearch;", true)
  | 3 => ("BlastPlanner", "sirens", "LBlastPlanner$SirenList;", true)
  | 4 => ("BlastPlanner", "formatted", "LBlastPlanner$FormattedText;", true)
  | 5 => ("BlastPlanner", "minutes", "LBlastPlanner$MinuteSet;", true)
  | 6 => ("BlastPlanner", "otherMinutes", "LBlastPlanner$MinuteSet;", true)
  | 7 => ("BlastPlanner", "hourSums", "[I", true)
  | 8 => ("BlastPlanner", "site", "LBlastPlanner$Site;", false)
  | _ => ("BlastPlanner", "draft", "LBlastPlanner$Site;", false)
def tyX11 : Nat → FieldType := fun k => match k with
  | 0 => .object "BlastPlanner$Parser"
  | 1 => .object "BlastPlanner$History"
  | 2 => .object "BlastPlanner$PlanSearch"
  | 3 => .object "BlastPlanner$SirenList"
  | 4 => .object "BlastPlanner$FormattedText"
  | 5 => .object "BlastPlanner$MinuteSet"
  | 6 => .object "BlastPlanner$MinuteSet"
  | 7 => .array .int
  | 8 => .object "BlastPlanner$Site"
  | _ => .object "BlastPlanner$Site"
abbrev wsX110 : List Cond := u_ws RX11 TX11 10
theorem nmX11 : ∀ a, a < 10 → ∀ b, b < 10 → a ≠ b → (TX11 a).2.1 ≠ (TX11 b).2.1 := by decide +kernel
theorem tyX11_ok : ∀ k, k < 10 → parseFieldDescriptor (TX11 k).2.2.1 = some (tyX11 k) := by decide +kernel
abbrev cX11_init : ByteArray := prog_1_method_1_code
def yX11_init : MethodName := ⟨RX11, "<init>", "()V"⟩
abbrev cX11_append : ByteArray := prog_1_method_2_code
def yX11_append : MethodName := ⟨RX11, "append", "(IIIII)I"⟩
abbrev cX11_truncate : ByteArray := prog_1_method_3_code
def yX11_truncate : MethodName := ⟨RX11, "truncate", "(I)Z"⟩
abbrev cX11_load : ByteArray := prog_1_method_4_code
def yX11_load : MethodName := ⟨RX11, "load", "()I"⟩
abbrev cX11_errorKind : ByteArray := prog_1_method_6_code
def yX11_errorKind : MethodName := ⟨RX11, "errorKind", "()I"⟩
abbrev cX11_windowSize : ByteArray := prog_1_method_16_code
def yX11_windowSize : MethodName := ⟨RX11, "windowSize", "(I)I"⟩
abbrev cX11_windowStart : ByteArray := prog_1_method_17_code
def yX11_windowStart : MethodName := ⟨RX11, "windowStart", "(I)I"⟩
abbrev cX11_vibration : ByteArray := prog_1_method_18_code
def yX11_vibration : MethodName := ⟨RX11, "vibration", "(II)I"⟩
abbrev cX11_neededGap : ByteArray := prog_1_method_21_code
def yX11_neededGap : MethodName := ⟨RX11, "neededGap", "(II)I"⟩
abbrev cX11_vibrationIfGap : ByteArray := prog_1_method_22_code
def yX11_vibrationIfGap : MethodName := ⟨RX11, "vibrationIfGap", "(III)I"⟩
abbrev cX11_closes : ByteArray := prog_1_method_23_code
def yX11_closes : MethodName := ⟨RX11, "closes", "(II)Z"⟩
abbrev cX11_isQuiet : ByteArray := prog_1_method_25_code
def yX11_isQuiet : MethodName := ⟨RX11, "isQuiet", "(II)Z"⟩
abbrev cX11_dustAt : ByteArray := prog_1_method_26_code
def yX11_dustAt : MethodName := ⟨RX11, "dustAt", "(II)I"⟩
abbrev cX11_neededRadius : ByteArray := prog_1_method_27_code
def yX11_neededRadius : MethodName := ⟨RX11, "neededRadius", "(II)I"⟩
abbrev cX11_timeOf : ByteArray := prog_1_method_30_code
def yX11_timeOf : MethodName := ⟨RX11, "timeOf", "(I)I"⟩
abbrev cX11_isFired : ByteArray := prog_1_method_31_code
def yX11_isFired : MethodName := ⟨RX11, "isFired", "(I)Z"⟩
abbrev cX11_reason : ByteArray := prog_1_method_32_code
def yX11_reason : MethodName := ⟨RX11, "reason", "(II)I"⟩
abbrev cX11_earliest : ByteArray := prog_1_method_33_code
def yX11_earliest : MethodName := ⟨RX11, "earliest", "(II)I"⟩
abbrev cX11_latest : ByteArray := prog_1_method_34_code
def yX11_latest : MethodName := ⟨RX11, "latest", "(II)I"⟩
abbrev cX11_allowedCount : ByteArray := prog_1_method_37_code
def yX11_allowedCount : MethodName := ⟨RX11, "allowedCount", "(I)I"⟩
abbrev cX11_schedule : ByteArray := prog_1_method_39_code
def yX11_schedule : MethodName := ⟨RX11, "schedule", "(II)I"⟩
abbrev cX11_cancel : ByteArray := prog_1_method_40_code
def yX11_cancel : MethodName := ⟨RX11, "cancel", "(I)I"⟩
abbrev cX11_fire : ByteArray := prog_1_method_41_code
def yX11_fire : MethodName := ⟨RX11, "fire", "(I)I"⟩
abbrev cX11_retime : ByteArray := prog_1_method_42_code
def yX11_retime : MethodName := ⟨RX11, "retime", "(II)I"⟩
abbrev cX11_closedMinutes : ByteArray := prog_1_method_43_code
def yX11_closedMinutes : MethodName := ⟨RX11, "closedMinutes", "(I)I"⟩
abbrev cX11_isClosed : ByteArray := prog_1_method_45_code
def yX11_isClosed : MethodName := ⟨RX11, "isClosed", "(II)Z"⟩
abbrev cX11_closures : ByteArray := prog_1_method_46_code
def yX11_closures : MethodName := ⟨RX11, "closures", "(I)I"⟩
abbrev cX11_closureStart : ByteArray := prog_1_method_47_code
def yX11_closureStart : MethodName := ⟨RX11, "closureStart", "(II)I"⟩
abbrev cX11_closureLength : ByteArray := prog_1_method_48_code
def yX11_closureLength : MethodName := ⟨RX11, "closureLength", "(II)I"⟩
abbrev cX11_openMinutes : ByteArray := prog_1_method_49_code
def yX11_openMinutes : MethodName := ⟨RX11, "openMinutes", "(III)I"⟩
abbrev cX11_sirenMinute : ByteArray := prog_1_method_53_code
def yX11_sirenMinute : MethodName := ⟨RX11, "sirenMinute", "(I)I"⟩
abbrev cX11_sirenKind : ByteArray := prog_1_method_54_code
def yX11_sirenKind : MethodName := ⟨RX11, "sirenKind", "(I)I"⟩
abbrev cX11_sirenBlast : ByteArray := prog_1_method_55_code
def yX11_sirenBlast : MethodName := ⟨RX11, "sirenBlast", "(I)I"⟩
abbrev cX11_planLength : ByteArray := prog_1_method_56_code
def yX11_planLength : MethodName := ⟨RX11, "planLength", "()I"⟩
abbrev cX11_planTime : ByteArray := prog_1_method_57_code
def yX11_planTime : MethodName := ⟨RX11, "planTime", "(I)I"⟩
abbrev cX11_applyPlan : ByteArray := prog_1_method_58_code
def yX11_applyPlan : MethodName := ⟨RX11, "applyPlan", "()I"⟩
abbrev cX11_needBlast : ByteArray := prog_1_method_63_code
def yX11_needBlast : MethodName := ⟨RX11, "needBlast", "(I)V"⟩
abbrev cX11_blastAt : ByteArray := prog_1_method_64_code
def yX11_blastAt : MethodName := ⟨RX11, "blastAt", "(I)LBlastPlanner$Blast;"⟩
abbrev cX11_neighbourAt : ByteArray := prog_1_method_65_code
def yX11_neighbourAt : MethodName := ⟨RX11, "neighbourAt", "(I)LBlastPlanner$Neighbour;"⟩
abbrev cX11_roadAt : ByteArray := prog_1_method_66_code
def yX11_roadAt : MethodName := ⟨RX11, "roadAt", "(I)LBlastPlanner$Road;"⟩
abbrev cX11_needRange : ByteArray := prog_1_method_68_code
def yX11_needRange : MethodName := ⟨RX11, "needRange", "(III)V"⟩
abbrev cX11_needScheduled : ByteArray := prog_1_method_69_code
def yX11_needScheduled : MethodName := ⟨RX11, "needScheduled", "(I)V"⟩
abbrev cX11_sirenAt : ByteArray := prog_1_method_70_code
def yX11_sirenAt : MethodName := ⟨RX11, "sirenAt", "(I)I"⟩
abbrev cX11_isAllowed : ByteArray := prog_1_method_71_code
def yX11_isAllowed : MethodName := ⟨RX11, "isAllowed", "(II)Z"⟩
abbrev cX11_startsWithReason : ByteArray := prog_1_method_72_code
def yX11_startsWithReason : MethodName := ⟨RX11, "startsWithReason", "(II)I"⟩
abbrev cX11_recordAction : ByteArray := prog_1_method_73_code
def yX11_recordAction : MethodName := ⟨RX11, "recordAction", "()V"⟩
abbrev cX11_findPlan : ByteArray := prog_1_method_75_code
def yX11_findPlan : MethodName := ⟨RX11, "findPlan", "()V"⟩
abbrev cX11_squareSum : ByteArray := prog_1_method_76_code
def yX11_squareSum : MethodName := ⟨RX11, "squareSum", "(II)I"⟩
abbrev cX11_quotient : ByteArray := prog_1_method_77_code
def yX11_quotient : MethodName := ⟨RX11, "quotient", "(II)I"⟩
def RX12 : String := "BlastPlannerLaw$Drawn"
def TX12 : u_T := fun k => match k with
  | 0 => ("BlastPlannerLaw$Drawn", "near", "I", true)
  | 1 => ("BlastPlannerLaw$Drawn", "roads", "I", true)
  | 2 => ("BlastPlannerLaw$Drawn", "blasts", "I", true)
  | 3 => ("BlastPlannerLaw$Drawn", "first", "I", true)
  | 4 => ("BlastPlannerLaw$Drawn", "last", "I", true)
  | 5 => ("BlastPlannerLaw$Drawn", "step", "I", true)
  | 6 => ("BlastPlannerLaw$Drawn", "before", "I", true)
  | 7 => ("BlastPlannerLaw$Drawn", "after", "I", true)
  | 8 => ("BlastPlannerLaw$Drawn", "spacing", "I", true)
  | 9 => ("BlastPlannerLaw$Drawn", "nearX", "[I", true)
  | 10 => ("BlastPlannerLaw$Drawn", "nearY", "[I", true)
  | 11 => ("BlastPlannerLaw$Drawn", "limit", "[I", true)
  | 12 => ("BlastPlannerLaw$Drawn", "quietFrom", "[I", true)
  | 13 => ("BlastPlannerLaw$Drawn", "quietTo", "[I", true)
  | 14 => ("BlastPlannerLaw$Drawn", "roadX", "[I", true)
  | 15 => ("BlastPlannerLaw$Drawn", "roadY", "[I", true)
  | 16 => ("BlastPlannerLaw$Drawn", "roadX2", "[I", true)
  | 17 => ("BlastPlannerLaw$Drawn", "roadY2", "[I", true)
  | 18 => ("BlastPlannerLaw$Drawn", "x", "[I", true)
  | 19 => ("BlastPlannerLaw$Drawn", "y", "[I", true)
  | 20 => ("BlastPlannerLaw$Drawn", "radius", "[I", true)
  | 21 => ("BlastPlannerLaw$Drawn", "charges", "[I", true)
  | 22 => ("BlastPlannerLaw$Drawn", "wind", "[I", true)
  | 23 => ("BlastPlannerLaw$Drawn", "speed", "[I", true)
  | 24 => ("BlastPlannerLaw$Drawn", "size", "[[I", true)
  | 25 => ("BlastPlannerLaw$Drawn", "delay", "[[I", true)
  | _ => ("BlastPlannerLaw$Drawn", "text", "Ljava/lang/String;", false)
def tyX12 : Nat → FieldType := fun k => match k with
  | 0 => .int
  | 1 => .int
  | 2 => .int
  | 3 => .int
  | 4 => .int
  | 5 => .int
  | 6 => .int
  | 7 => .int
  | 8 => .int
  | 9 => .array .int
  | 10 => .array .int
  | 11 => .array .int
  | 12 => .array .int
  | 13 => .array .int
  | 14 => .array .int
  | 15 => .array .int
  | 16 => .array .int
  | 17 => .array .int
  | 18 => .array .int
  | 19 => .array .int
  | 20 => .array .int
  | 21 => .array .int
  | 22 => .array .int
  | 23 => .array .int
  | 24 => .array (.array .int)
  | 25 => .array (.array .int)
  | _ => .object "java/lang/String"
abbrev wsX120 : List Cond := u_ws RX12 TX12 27
theorem nmX12 : ∀ a, a < 27 → ∀ b, b < 27 → a ≠ b → (TX12 a).2.1 ≠ (TX12 b).2.1 := by decide +kernel
theorem tyX12_ok : ∀ k, k < 27 → parseFieldDescriptor (TX12 k).2.2.1 = some (tyX12 k) := by decide +kernel
abbrev cX12_init : ByteArray := prog_14_method_1_code
def yX12_init : MethodName := ⟨RX12, "<init>", "(LBlastPlannerLaw$Draws;)V"⟩
abbrev cX12_neighbour : ByteArray := prog_14_method_2_code
def yX12_neighbour : MethodName := ⟨RX12, "neighbour", "(LBlastPlannerLaw$Draws;I)V"⟩
abbrev cX12_blast : ByteArray := prog_14_method_3_code
def yX12_blast : MethodName := ⟨RX12, "blast", "(LBlastPlannerLaw$Draws;I)V"⟩
abbrev cX12_window : ByteArray := prog_14_method_4_code
def yX12_window : MethodName := ⟨RX12, "window", "(II)I"⟩
abbrev cX12_far : ByteArray := prog_14_method_5_code
def yX12_far : MethodName := ⟨RX12, "far", "(II)I"⟩
abbrev cX12_comes : ByteArray := prog_14_method_6_code
def yX12_comes : MethodName := ⟨RX12, "comes", "(III)Z"⟩
abbrev cX12_isQuiet : ByteArray := prog_14_method_7_code
def yX12_isQuiet : MethodName := ⟨RX12, "isQuiet", "(II)Z"⟩
abbrev cX12_isDusty : ByteArray := prog_14_method_8_code
def yX12_isDusty : MethodName := ⟨RX12, "isDusty", "(III)Z"⟩
abbrev cX12_reason : ByteArray := prog_14_method_9_code
def yX12_reason : MethodName := ⟨RX12, "reason", "(II)I"⟩
def RX13 : String := "BlastPlannerLaw$Draws"
def TX13 : u_T := fun k => match k with
  | _ => ("BlastPlannerLaw$Draws", "seed", "I", false)
def tyX13 : Nat → FieldType := fun k => match k with
  | _ => .int
abbrev wsX130 : List Cond := u_ws RX13 TX13 1
theorem nmX13 : ∀ a, a < 1 → ∀ b, b < 1 → a ≠ b → (TX13 a).2.1 ≠ (TX13 b).2.1 := by decide +kernel
theorem tyX13_ok : ∀ k, k < 1 → parseFieldDescriptor (TX13 k).2.2.1 = some (tyX13 k) := by decide +kernel
abbrev cX13_init : ByteArray := prog_15_method_1_code
def yX13_init : MethodName := ⟨RX13, "<init>", "(I)V"⟩
abbrev cX13_next : ByteArray := prog_15_method_2_code
def yX13_next : MethodName := ⟨RX13, "next", "(I)I"⟩
def RX14 : String := "BlastPlannerModel"
def TX14 : u_T := fun k => match k with
  | _ => ("", "", "", false)
def tyX14 : Nat → FieldType := fun k => match k with
  | _ => .int
abbrev wsX140 : List Cond := u_ws RX14 TX14 0
theorem nmX14 : ∀ a, a < 0 → ∀ b, b < 0 → a ≠ b → (TX14 a).2.1 ≠ (TX14 b).2.1 := by decide +kernel
theorem tyX14_ok : ∀ k, k < 0 → parseFieldDescriptor (TX14 k).2.2.1 = some (tyX14 k) := by decide +kernel
def RJx145de : String := "java/io/Serializable"
def TJx145de : u_T := fun k => match k with
  | _ => ("", "", "", false)
def tyJx145de : Nat → FieldType := fun k => match k with
  | _ => .int
abbrev wsJx145de0 : List Cond := u_ws RJx145de TJx145de 0
theorem nmJx145de : ∀ a, a < 0 → ∀ b, b < 0 → a ≠ b → (TJx145de a).2.1 ≠ (TJx145de b).2.1 := by decide +kernel
theorem tyJx145de_ok : ∀ k, k < 0 → parseFieldDescriptor (TJx145de k).2.2.1 = some (tyJx145de k) := by decide +kernel
def RJ5 : String := "java/lang/AbstractStringBuilder"
def TJ5 : u_T := fun k => match k with
  | _ => ("", "", "", false)
def tyJ5 : Nat → FieldType := fun k => match k with
  | _ => .int
abbrev wsJ50 : List Cond := u_ws RJ5 TJ5 0
theorem nmJ5 : ∀ a, a < 0 → ∀ b, b < 0 → a ≠ b → (TJ5 a).2.1 ≠ (TJ5 b).2.1 := by decide +kernel
theorem tyJ5_ok : ∀ k, k < 0 → parseFieldDescriptor (TJ5 k).2.2.1 = some (tyJ5 k) := by decide +kernel
abbrev cJ5_init_d00df : ByteArray := prog_17_method_2_code
def yJ5_init_d00df : MethodName := ⟨RJ5, "<init>", "(I)V"⟩
abbrev cJ5_length_8abf5 : ByteArray := prog_17_method_6_code
def yJ5_length_8abf5 : MethodName := ⟨RJ5, "length", "()I"⟩
abbrev cJ5_ensureCapacityInternal_d00df : ByteArray := prog_17_method_9_code
def yJ5_ensureCapacityInternal_d00df : MethodName := ⟨RJ5, "ensureCapacityInternal", "(I)V"⟩
abbrev cJ5_newCapacity_0f7a4 : ByteArray := prog_17_method_10_code
def yJ5_newCapacity_0f7a4 : MethodName := ⟨RJ5, "newCapacity", "(I)I"⟩
abbrev cJ5_inflate_da8c8 : ByteArray := prog_17_method_11_code
def yJ5_inflate_da8c8 : MethodName := ⟨RJ5, "inflate", "()V"⟩
abbrev cJ5_append_cf1ce : ByteArray := prog_17_method_22_code
def yJ5_append_cf1ce : MethodName := ⟨RJ5, "append", "(Ljava/lang/String;)Ljava/lang/AbstractStringBuilder;"⟩
abbrev cJ5_appendNull_278bc : ByteArray := prog_17_method_26_code
def yJ5_appendNull_278bc : MethodName := ⟨RJ5, "appendNull", "()Ljava/lang/AbstractStringBuilder;"⟩
abbrev cJ5_append_3fe6f : ByteArray := prog_17_method_31_code
def yJ5_append_3fe6f : MethodName := ⟨RJ5, "append", "(C)Ljava/lang/AbstractStringBuilder;"⟩
abbrev cJ5_append_c97b9 : ByteArray := prog_17_method_32_code
def yJ5_append_c97b9 : MethodName := ⟨RJ5, "append", "(I)Ljava/lang/AbstractStringBuilder;"⟩
abbrev cJ5_getValue_6d5f1 : ByteArray := prog_17_method_64_code
def yJ5_getValue_6d5f1 : MethodName := ⟨RJ5, "getValue", "()[B"⟩
abbrev cJ5_isLatin1_aae02 : ByteArray := prog_17_method_68_code
def yJ5_isLatin1_aae02 : MethodName := ⟨RJ5, "isLatin1", "()Z"⟩
abbrev cJ5_inflateIfNeededFor_a7421 : ByteArray := prog_17_method_71_code
def yJ5_inflateIfNeededFor_a7421 : MethodName := ⟨RJ5, "inflateIfNeededFor", "(Ljava/lang/String;)V"⟩
abbrev cJ5_putStringAt_47b60 : ByteArray := prog_17_method_73_code
def yJ5_putStringAt_47b60 : MethodName := ⟨RJ5, "putStringAt", "(ILjava/lang/String;)V"⟩
def RJx2cfe8 : String := "java/lang/Appendable"
def TJx2cfe8 : u_T := fun k => match k with
  | _ => ("", "", "", false)
def tyJx2cfe8 : Nat → FieldType := fun k => match k with
  | _ => .int
abbrev wsJx2cfe80 : List Cond := u_ws RJx2cfe8 TJx2cfe8 0
theorem nmJx2cfe8 : ∀ a, a < 0 → ∀ b, b < 0 → a ≠ b → (TJx2cfe8 a).2.1 ≠ (TJx2cfe8 b).2.1 := by decide +kernel
theorem tyJx2cfe8_ok : ∀ k, k < 0 → parseFieldDescriptor (TJx2cfe8 k).2.2.1 = some (tyJx2cfe8 k) := by decide +kernel
def RJx9f9b0 : String := "java/lang/CharSequence"
def TJx9f9b0 : u_T := fun k => match k with
  | _ => ("", "", "", false)
def tyJx9f9b0 : Nat → FieldType := fun k => match k with
  | _ => .int
abbrev wsJx9f9b00 : List Cond := u_ws RJx9f9b0 TJx9f9b0 0
theorem nmJx9f9b0 : ∀ a, a < 0 → ∀ b, b < 0 → a ≠ b → (TJx9f9b0 a).2.1 ≠ (TJx9f9b0 b).2.1 := by decide +kernel
theorem tyJx9f9b0_ok : ∀ k, k < 0 → parseFieldDescriptor (TJx9f9b0 k).2.2.1 = some (tyJx9f9b0 k) := by decide +kernel
def RJx8e188 : String := "java/lang/Cloneable"
def TJx8e188 : u_T := fun k => match k with
  | _ => ("", "", "", false)
def tyJx8e188 : Nat → FieldType := fun k => match k with
  | _ => .int
abbrev wsJx8e1880 : List Cond := u_ws RJx8e188 TJx8e188 0
theorem nmJx8e188 : ∀ a, a < 0 → ∀ b, b < 0 → a ≠ b → (TJx8e188 a).2.1 ≠ (TJx8e188 b).2.1 := by decide +kernel
theorem tyJx8e188_ok : ∀ k, k < 0 → parseFieldDescriptor (TJx8e188 k).2.2.1 = some (tyJx8e188 k) := by decide +kernel
def RJxb160c : String := "java/lang/Comparable"
def TJxb160c : u_T := fun k => match k with
  | _ => ("", "", "", false)
def tyJxb160c : Nat → FieldType := fun k => match k with
  | _ => .int
abbrev wsJxb160c0 : List Cond := u_ws RJxb160c TJxb160c 0
theorem nmJxb160c : ∀ a, a < 0 → ∀ b, b < 0 → a ≠ b → (TJxb160c a).2.1 ≠ (TJxb160c b).2.1 := by decide +kernel
theorem tyJxb160c_ok : ∀ k, k < 0 → parseFieldDescriptor (TJxb160c k).2.2.1 = some (tyJxb160c k) := by decide +kernel
def RJ6 : String := "java/lang/Integer"
def TJ6 : u_T := fun k => match k with
  | _ => ("", "", "", false)
def tyJ6 : Nat → FieldType := fun k => match k with
  | _ => .int
abbrev wsJ60 : List Cond := u_ws RJ6 TJ6 0
theorem nmJ6 : ∀ a, a < 0 → ∀ b, b < 0 → a ≠ b → (TJ6 a).2.1 ≠ (TJ6 b).2.1 := by decide +kernel
theorem tyJ6_ok : ∀ k, k < 0 → parseFieldDescriptor (TJ6 k).2.2.1 = some (tyJ6 k) := by decide +kernel
abbrev cJ6_getChars_ba4f3 : ByteArray := prog_23_method_12_code
def yJ6_getChars_ba4f3 : MethodName := ⟨RJ6, "getChars", "(II[B)I"⟩
abbrev cJ6_stringSize_0f7a4 : ByteArray := prog_23_method_13_code
def yJ6_stringSize_0f7a4 : MethodName := ⟨RJ6, "stringSize", "(I)I"⟩
def RJ9 : String := "java/lang/Math"
def TJ9 : u_T := fun k => match k with
  | _ => ("", "", "", false)
def tyJ9 : Nat → FieldType := fun k => match k with
  | _ => .int
abbrev wsJ90 : List Cond := u_ws RJ9 TJ9 0
theorem nmJ9 : ∀ a, a < 0 → ∀ b, b < 0 → a ≠ b → (TJ9 a).2.1 ≠ (TJ9 b).2.1 := by decide +kernel
theorem tyJ9_ok : ∀ k, k < 0 → parseFieldDescriptor (TJ9 k).2.2.1 = some (tyJ9 k) := by decide +kernel
abbrev cJ9_abs_0f7a4 : ByteArray := prog_24_method_59_code
def yJ9_abs_0f7a4 : MethodName := ⟨RJ9, "abs", "(I)I"⟩
abbrev cJ9_max_7cf53 : ByteArray := prog_24_method_65_code
def yJ9_max_7cf53 : MethodName := ⟨RJ9, "max", "(II)I"⟩
abbrev cJ9_max_f86c9 : ByteArray := prog_24_method_66_code
def yJ9_max_f86c9 : MethodName := ⟨RJ9, "max", "(JJ)J"⟩
abbrev cJ9_min_7cf53 : ByteArray := prog_24_method_69_code
def yJ9_min_7cf53 : MethodName := ⟨RJ9, "min", "(II)I"⟩
abbrev cJ9_min_f86c9 : ByteArray := prog_24_method_70_code
def yJ9_min_f86c9 : MethodName := ⟨RJ9, "min", "(JJ)J"⟩
def RJxd2413 : String := "java/lang/Number"
def TJxd2413 : u_T := fun k => match k with
  | _ => ("", "", "", false)
def tyJxd2413 : Nat → FieldType := fun k => match k with
  | _ => .int
abbrev wsJxd24130 : List Cond := u_ws RJxd2413 TJxd2413 0
theorem nmJxd2413 : ∀ a, a < 0 → ∀ b, b < 0 → a ≠ b → (TJxd2413 a).2.1 ≠ (TJxd2413 b).2.1 := by decide +kernel
theorem tyJxd2413_ok : ∀ k, k < 0 → parseFieldDescriptor (TJxd2413 k).2.2.1 = some (tyJxd2413 k) := by decide +kernel
def RJ0 : String := "java/lang/String"
def TJ0 : u_T := fun k => match k with
  | 0 => ("java/lang/String", "value", "[B", true)
  | 1 => ("java/lang/String", "coder", "B", true)
  | 2 => ("java/lang/String", "hash", "I", false)
  | _ => ("java/lang/String", "hashIsZero", "Z", false)
def tyJ0 : Nat → FieldType := fun k => match k with
  | 0 => .array .byte
  | 1 => .byte
  | 2 => .int
  | _ => .boolean
abbrev wsJ00 : List Cond := u_ws RJ0 TJ0 4
theorem nmJ0 : ∀ a, a < 4 → ∀ b, b < 4 → a ≠ b → (TJ0 a).2.1 ≠ (TJ0 b).2.1 := by decide +kernel
theorem tyJ0_ok : ∀ k, k < 4 → parseFieldDescriptor (TJ0 k).2.2.1 = some (tyJ0 k) := by decide +kernel
abbrev cJ0_init_81219 : ByteArray := prog_27_method_53_code
def yJ0_init_81219 : MethodName := ⟨RJ0, "<init>", "(Ljava/lang/StringBuilder;)V"⟩
abbrev cJ0_length_8abf5 : ByteArray := prog_27_method_54_code
def yJ0_length_8abf5 : MethodName := ⟨RJ0, "length", "()I"⟩
abbrev cJ0_charAt_5068e : ByteArray := prog_27_method_56_code
def yJ0_charAt_5068e : MethodName := ⟨RJ0, "charAt", "(I)C"⟩
abbrev cJ0_getBytes_840e7 : ByteArray := prog_27_method_147_code
def yJ0_getBytes_840e7 : MethodName := ⟨RJ0, "getBytes", "([BIB)V"⟩
abbrev cJ0_init_db425 : ByteArray := prog_27_method_150_code
def yJ0_init_db425 : MethodName := ⟨RJ0, "<init>", "(Ljava/lang/AbstractStringBuilder;Ljava/lang/Void;)V"⟩
abbrev cJ0_coder_7d493 : ByteArray := prog_27_method_152_code
def yJ0_coder_7d493 : MethodName := ⟨RJ0, "coder", "()B"⟩
abbrev cJ0_isLatin1_aae02 : ByteArray := prog_27_method_154_code
def yJ0_isLatin1_aae02 : MethodName := ⟨RJ0, "isLatin1", "()Z"⟩
abbrev cJ0_checkIndex_df160 : ByteArray := prog_27_method_155_code
def yJ0_checkIndex_df160 : MethodName := ⟨RJ0, "checkIndex", "(II)V"⟩
abbrev cJ0_checkBoundsOffCount_cabcc : ByteArray := prog_27_method_157_code
def yJ0_checkBoundsOffCount_cabcc : MethodName := ⟨RJ0, "checkBoundsOffCount", "(III)I"⟩
abbrev cJ0_checkBoundsBeginEnd_23922 : ByteArray := prog_27_method_158_code
def yJ0_checkBoundsBeginEnd_23922 : MethodName := ⟨RJ0, "checkBoundsBeginEnd", "(III)V"⟩
def RJ4 : String := "java/lang/StringBuilder"
def TJ4 : u_T := fun k => match k with
  | 0 => ("java/lang/AbstractStringBuilder", "value", "[B", false)
  | 1 => ("java/lang/AbstractStringBuilder", "coder", "B", false)
  | 2 => ("java/lang/AbstractStringBuilder", "maybeLatin1", "Z", false)
  | _ => ("java/lang/AbstractStringBuilder", "count", "I", false)
def tyJ4 : Nat → FieldType := fun k => match k with
  | 0 => .array .byte
  | 1 => .byte
  | 2 => .boolean
  | _ => .int
abbrev wsJ40 : List Cond := u_ws RJ4 TJ4 4
theorem nmJ4 : ∀ a, a < 4 → ∀ b, b < 4 → a ≠ b → (TJ4 a).2.1 ≠ (TJ4 b).2.1 := by decide +kernel
theorem tyJ4_ok : ∀ k, k < 4 → parseFieldDescriptor (TJ4 k).2.2.1 = some (tyJ4 k) := by decide +kernel
abbrev cJ4_init_da8c8 : ByteArray := prog_28_method_1_code
def yJ4_init_da8c8 : MethodName := ⟨RJ4, "<init>", "()V"⟩
abbrev cJ4_append_15ec4 : ByteArray := prog_28_method_7_code
def yJ4_append_15ec4 : MethodName := ⟨RJ4, "append", "(Ljava/lang/String;)Ljava/lang/StringBuilder;"⟩
abbrev cJ4_append_cf468 : ByteArray := prog_28_method_14_code
def yJ4_append_cf468 : MethodName := ⟨RJ4, "append", "(C)Ljava/lang/StringBuilder;"⟩
abbrev cJ4_append_bf812 : ByteArray := prog_28_method_15_code
def yJ4_append_bf812 : MethodName := ⟨RJ4, "append", "(I)Ljava/lang/StringBuilder;"⟩
abbrev cJ4_toString_0e30d : ByteArray := prog_28_method_42_code
def yJ4_toString_0e30d : MethodName := ⟨RJ4, "toString", "()Ljava/lang/String;"⟩
abbrev cJ4_length_8abf5 : ByteArray := prog_28_method_93_code
def yJ4_length_8abf5 : MethodName := ⟨RJ4, "length", "()I"⟩
def RJ1 : String := "java/lang/StringLatin1"
def TJ1 : u_T := fun k => match k with
  | _ => ("", "", "", false)
def tyJ1 : Nat → FieldType := fun k => match k with
  | _ => .int
abbrev wsJ10 : List Cond := u_ws RJ1 TJ1 0
theorem nmJ1 : ∀ a, a < 0 → ∀ b, b < 0 → a ≠ b → (TJ1 a).2.1 ≠ (TJ1 b).2.1 := by decide +kernel
theorem tyJ1_ok : ∀ k, k < 0 → parseFieldDescriptor (TJ1 k).2.2.1 = some (tyJ1 k) := by decide +kernel
abbrev cJ1_charAt_3b067 : ByteArray := prog_29_method_2_code
def yJ1_charAt_3b067 : MethodName := ⟨RJ1, "charAt", "([BI)C"⟩
abbrev cJ1_canEncode_fc78d : ByteArray := prog_29_method_3_code
def yJ1_canEncode_fc78d : MethodName := ⟨RJ1, "canEncode", "(C)Z"⟩
abbrev cJ1_inflate_0e8fd : ByteArray := prog_29_method_50_code
def yJ1_inflate_0e8fd : MethodName := ⟨RJ1, "inflate", "([BI[BII)V"⟩
def RJ2 : String := "java/lang/StringUTF16"
def TJ2 : u_T := fun k => match k with
  | _ => ("", "", "", false)
def tyJ2 : Nat → FieldType := fun k => match k with
  | _ => .int
abbrev wsJ20 : List Cond := u_ws RJ2 TJ2 0
theorem nmJ2 : ∀ a, a < 0 → ∀ b, b < 0 → a ≠ b → (TJ2 a).2.1 ≠ (TJ2 b).2.1 := by decide +kernel
theorem tyJ2_ok : ∀ k, k < 0 → parseFieldDescriptor (TJ2 k).2.2.1 = some (tyJ2 k) := by decide +kernel
abbrev cJ2_newBytesFor_77867 : ByteArray := prog_30_method_2_code
def yJ2_newBytesFor_77867 : MethodName := ⟨RJ2, "newBytesFor", "(I)[B"⟩
abbrev cJ2_newBytesLength_0f7a4 : ByteArray := prog_30_method_3_code
def yJ2_newBytesLength_0f7a4 : MethodName := ⟨RJ2, "newBytesLength", "(I)I"⟩
abbrev cJ2_putChar_b72d1 : ByteArray := prog_30_method_4_code
def yJ2_putChar_b72d1 : MethodName := ⟨RJ2, "putChar", "([BII)V"⟩
abbrev cJ2_getChar_3b067 : ByteArray := prog_30_method_5_code
def yJ2_getChar_3b067 : MethodName := ⟨RJ2, "getChar", "([BI)C"⟩
abbrev cJ2_length_9d52b : ByteArray := prog_30_method_6_code
def yJ2_length_9d52b : MethodName := ⟨RJ2, "length", "([B)I"⟩
abbrev cJ2_coderFromArrayLen_85cad : ByteArray := prog_30_method_15_code
def yJ2_coderFromArrayLen_85cad : MethodName := ⟨RJ2, "coderFromArrayLen", "([BI)B"⟩
abbrev cJ2_compress_39247 : ByteArray := prog_30_method_17_code
def yJ2_compress_39247 : MethodName := ⟨RJ2, "compress", "([BII)[B"⟩
abbrev cJ2_compress_5af95 : ByteArray := prog_30_method_22_code
def yJ2_compress_5af95 : MethodName := ⟨RJ2, "compress", "([BI[BII)I"⟩
abbrev cJ2_putCharSB_b72d1 : ByteArray := prog_30_method_71_code
def yJ2_putCharSB_b72d1 : MethodName := ⟨RJ2, "putCharSB", "([BII)V"⟩
abbrev cJ2_getChars_46870 : ByteArray := prog_30_method_77_code
def yJ2_getChars_46870 : MethodName := ⟨RJ2, "getChars", "(III[B)I"⟩
abbrev cJ2_putCharsAt_cd4e5 : ByteArray := prog_30_method_81_code
def yJ2_putCharsAt_cd4e5 : MethodName := ⟨RJ2, "putCharsAt", "([BICCCC)I"⟩
abbrev cJ2_charAt_3b067 : ByteArray := prog_30_method_83_code
def yJ2_charAt_3b067 : MethodName := ⟨RJ2, "charAt", "([BI)C"⟩
abbrev cJ2_inflate_0e8fd : ByteArray := prog_30_method_86_code
def yJ2_inflate_0e8fd : MethodName := ⟨RJ2, "inflate", "([BI[BII)V"⟩
abbrev cJ2_getChars_ba4f3 : ByteArray := prog_30_method_89_code
def yJ2_getChars_ba4f3 : MethodName := ⟨RJ2, "getChars", "(II[B)I"⟩
abbrev cJ2_checkIndex_2214a : ByteArray := prog_30_method_91_code
def yJ2_checkIndex_2214a : MethodName := ⟨RJ2, "checkIndex", "(I[B)V"⟩
abbrev cJ2_checkBoundsBeginEnd_d044e : ByteArray := prog_30_method_93_code
def yJ2_checkBoundsBeginEnd_d044e : MethodName := ⟨RJ2, "checkBoundsBeginEnd", "(II[B)V"⟩
abbrev cJ2_checkBoundsOffCount_d044e : ByteArray := prog_30_method_94_code
def yJ2_checkBoundsOffCount_d044e : MethodName := ⟨RJ2, "checkBoundsOffCount", "(II[B)V"⟩
def RJ10 : String := "java/lang/System"
def TJ10 : u_T := fun k => match k with
  | _ => ("", "", "", false)
def tyJ10 : Nat → FieldType := fun k => match k with
  | _ => .int
abbrev wsJ100 : List Cond := u_ws RJ10 TJ10 0
theorem nmJ10 : ∀ a, a < 0 → ∀ b, b < 0 → a ≠ b → (TJ10 a).2.1 ≠ (TJ10 b).2.1 := by decide +kernel
theorem tyJ10_ok : ∀ k, k < 0 → parseFieldDescriptor (TJ10 k).2.2.1 = some (tyJ10 k) := by decide +kernel
def RJxfd54e : String := "java/lang/constant/Constable"
def TJxfd54e : u_T := fun k => match k with
  | _ => ("", "", "", false)
def tyJxfd54e : Nat → FieldType := fun k => match k with
  | _ => .int
abbrev wsJxfd54e0 : List Cond := u_ws RJxfd54e TJxfd54e 0
theorem nmJxfd54e : ∀ a, a < 0 → ∀ b, b < 0 → a ≠ b → (TJxfd54e a).2.1 ≠ (TJxfd54e b).2.1 := by decide +kernel
theorem tyJxfd54e_ok : ∀ k, k < 0 → parseFieldDescriptor (TJxfd54e k).2.2.1 = some (tyJxfd54e k) := by decide +kernel
def RJx3cf43 : String := "java/lang/constant/ConstantDesc"
def TJx3cf43 : u_T := fun k => match k with
  | _ => ("", "", "", false)
def tyJx3cf43 : Nat → FieldType := fun k => match k with
  | _ => .int
abbrev wsJx3cf430 : List Cond := u_ws RJx3cf43 TJx3cf43 0
theorem nmJx3cf43 : ∀ a, a < 0 → ∀ b, b < 0 → a ≠ b → (TJx3cf43 a).2.1 ≠ (TJx3cf43 b).2.1 := by decide +kernel
theorem tyJx3cf43_ok : ∀ k, k < 0 → parseFieldDescriptor (TJx3cf43 k).2.2.1 = some (tyJx3cf43 k) := by decide +kernel
def RJ7 : String := "java/util/Arrays"
def TJ7 : u_T := fun k => match k with
  | _ => ("", "", "", false)
def tyJ7 : Nat → FieldType := fun k => match k with
  | _ => .int
abbrev wsJ70 : List Cond := u_ws RJ7 TJ7 0
theorem nmJ7 : ∀ a, a < 0 → ∀ b, b < 0 → a ≠ b → (TJ7 a).2.1 ≠ (TJ7 b).2.1 := by decide +kernel
theorem tyJ7_ok : ∀ k, k < 0 → parseFieldDescriptor (TJ7 k).2.2.1 = some (tyJ7 k) := by decide +kernel
abbrev cJ7_copyOf_9075b : ByteArray := prog_33_method_121_code
def yJ7_copyOf_9075b : MethodName := ⟨RJ7, "copyOf", "([BI)[B"⟩
abbrev cJ7_checkLength_df160 : ByteArray := prog_33_method_131_code
def yJ7_checkLength_df160 : MethodName := ⟨RJ7, "checkLength", "(II)V"⟩
abbrev cJ7_copyOfRange_39247 : ByteArray := prog_33_method_132_code
def yJ7_copyOfRange_39247 : MethodName := ⟨RJ7, "copyOfRange", "([BII)[B"⟩
abbrev cJ7_copyOfRangeByte_39247 : ByteArray := prog_33_method_133_code
def yJ7_copyOfRangeByte_39247 : MethodName := ⟨RJ7, "copyOfRangeByte", "([BII)[B"⟩
def RJ8 : String := "jdk/internal/util/ArraysSupport"
def TJ8 : u_T := fun k => match k with
  | _ => ("", "", "", false)
def tyJ8 : Nat → FieldType := fun k => match k with
  | _ => .int
abbrev wsJ80 : List Cond := u_ws RJ8 TJ8 0
theorem nmJ8 : ∀ a, a < 0 → ∀ b, b < 0 → a ≠ b → (TJ8 a).2.1 ≠ (TJ8 b).2.1 := by decide +kernel
theorem tyJ8_ok : ∀ k, k < 0 → parseFieldDescriptor (TJ8 k).2.2.1 = some (tyJ8 k) := by decide +kernel
abbrev cJ8_newLength_cabcc : ByteArray := prog_34_method_27_code
def yJ8_newLength_cabcc : MethodName := ⟨RJ8, "newLength", "(III)I"⟩
abbrev cJ8_hugeLength_7cf53 : ByteArray := prog_34_method_28_code
def yJ8_hugeLength_7cf53 : MethodName := ⟨RJ8, "hugeLength", "(II)I"⟩
def RJ3 : String := "jdk/internal/util/Preconditions"
def TJ3 : u_T := fun k => match k with
  | _ => ("", "", "", false)
def tyJ3 : Nat → FieldType := fun k => match k with
  | _ => .int
abbrev wsJ30 : List Cond := u_ws RJ3 TJ3 0
theorem nmJ3 : ∀ a, a < 0 → ∀ b, b < 0 → a ≠ b → (TJ3 a).2.1 ≠ (TJ3 b).2.1 := by decide +kernel
theorem tyJ3_ok : ∀ k, k < 0 → parseFieldDescriptor (TJ3 k).2.2.1 = some (tyJ3 k) := by decide +kernel
abbrev cJ3_checkIndex_8e157 : ByteArray := prog_35_method_11_code
def yJ3_checkIndex_8e157 : MethodName := ⟨RJ3, "checkIndex", "(IILjava/util/function/BiFunction;)I"⟩
abbrev cJ3_checkFromToIndex_8c36e : ByteArray := prog_35_method_12_code
def yJ3_checkFromToIndex_8c36e : MethodName := ⟨RJ3, "checkFromToIndex", "(IIILjava/util/function/BiFunction;)I"⟩
abbrev cJ3_checkFromIndexSize_8c36e : ByteArray := prog_35_method_13_code
def yJ3_checkFromIndexSize_8c36e : MethodName := ⟨RJ3, "checkFromIndexSize", "(IIILjava/util/function/BiFunction;)I"⟩
def RL : String := "BlastPlannerLaw"
abbrev cL_asks : ByteArray := method_2_code
def yL_asks : MethodName := ⟨RL, "asks", "(LBlastPlanner;IIII)I"⟩
abbrev cL_text : ByteArray := method_3_code
def yL_text : MethodName := ⟨RL, "text", "(LBlastPlanner;Ljava/lang/String;)Z"⟩
abbrev cL_four : ByteArray := method_4_code
def yL_four : MethodName := ⟨RL, "four", "(Ljava/lang/String;I)I"⟩
abbrev cL_law : ByteArray := code
def yL_law : MethodName := ⟨RL, "law", "([I)Z"⟩
abbrev cL_isKnown : ByteArray := method_6_code
def yL_isKnown : MethodName := ⟨RL, "isKnown", "(LBlastPlanner;LBlastPlannerLaw$Drawn;LBlastPlannerLaw$Draws;I)Z"⟩
abbrev vwCl : List vw_C := [(RX0, TX0, 14), (RX1, TX1, 2), (RX2, TX2, 3), (RX3, TX3, 3), (RX4, TX4, 6), (RX5, TX5, 1), (RX6, TX6, 6), (RX7, TX7, 4), (RX8, TX8, 2), (RX9, TX9, 18), (RX10, TX10, 5), (RX11, TX11, 10), (RX12, TX12, 27), (RX13, TX13, 1), (RJ0, TJ0, 4), (RJ4, TJ4, 4)]
end
section
/-! ===== the abstract state of all cells, and rows over it ===== -/
/-- ints, references (0: null, else the cell's number), longs, by cell and place; how many cells there are -/
abbrev Sg : Type := (Nat → Nat → Int32) × (Nat → Nat → Nat) × (Nat → Nat → Int64) × Nat
def sI (σ : Sg) (o k : Nat) : Int32 := σ.1 o k
def sR (σ : Sg) (o k : Nat) : Nat := σ.2.1 o k
def sL (σ : Sg) (o k : Nat) : Int64 := σ.2.2.1 o k
def sn (σ : Sg) : Nat := σ.2.2.2
def uI (σ : Sg) (o k : Nat) (v : Int32) : Sg := (fun a j => if a = o ∧ j = k then v else σ.1 a j, σ.2)
def uR (σ : Sg) (o k : Nat) (v : Nat) : Sg := (σ.1, fun a j => if a = o ∧ j = k then v else σ.2.1 a j, σ.2.2)
def uL (σ : Sg) (o k : Nat) (v : Int64) : Sg := (σ.1, σ.2.1, fun a j => if a = o ∧ j = k then v else σ.2.2.1 a j, σ.2.2.2)
theorem sI_uI (σ : Sg) (o k a j : Nat) (v : Int32) : sI (uI σ o k v) a j = if a = o ∧ j = k then v else sI σ a j := rfl
theorem sR_uI (σ : Sg) (o k a j : Nat) (v : Int32) : sR (uI σ o k v) a j = sR σ a j := rfl
theorem sL_uI (σ : Sg) (o k a j : Nat) (v : Int32) : sL (uI σ o k v) a j = sL σ a j := rfl
theorem sn_uI (σ : Sg) (o k : Nat) (v : Int32) : sn (uI σ o k v) = sn σ := rfl
theorem sI_uR (σ : Sg) (o k a j : Nat) (v : Nat) : sI (uR σ o k v) a j = sI σ a j := rfl
theorem sR_uR (σ : Sg) (o k a j : Nat) (v : Nat) : sR (uR σ o k v) a j = if a = o ∧ j = k then v else sR σ a j := rfl
theorem sL_uR (σ : Sg) (o k a j : Nat) (v : Nat) : sL (uR σ o k v) a j = sL σ a j := rfl
theorem sn_uR (σ : Sg) (o k : Nat) (v : Nat) : sn (uR σ o k v) = sn σ := rfl
theorem sI_uL (σ : Sg) (o k a j : Nat) (v : Int64) : sI (uL σ o k v) a j = sI σ a j := rfl
theorem sR_uL (σ : Sg) (o k a j : Nat) (v : Int64) : sR (uL σ o k v) a j = sR σ a j := rfl
theorem sL_uL (σ : Sg) (o k a j : Nat) (v : Int64) : sL (uL σ o k v) a j = if a = o ∧ j = k then v else sL σ a j := rfl
theorem sn_uL (σ : Sg) (o k : Nat) (v : Int64) : sn (uL σ o k v) = sn σ := rfl
/-- what is fixed for a run: the cells' first address, the heap at the start, classes and their slots, array classes, addresses of texts -/
abbrev GL : Type := Nat × Heap × (Nat → ClassId) × (Nat → Nat → Nat) × (Nat → ClassId) × (Nat → Nat) × (Nat → Nat) × Nat
def gb (g : GL) : Nat := g.1
def gH (g : GL) : Heap := g.2.1
def gC (g : GL) : Nat → ClassId := g.2.2.1
def gN (g : GL) : Nat → Nat → Nat := g.2.2.2.1
def gT (g : GL) : Nat → ClassId := g.2.2.2.2.1
def gS (g : GL) : Nat → Nat := g.2.2.2.2.2.1
def gV (g : GL) : Nat → Nat := g.2.2.2.2.2.2.1
/-- how far below the others the cell 202 lies (the law's Draws) -/
def gO (g : GL) : Nat := g.2.2.2.2.2.2.2
/-- a cell's address -/
def ga (g : GL) (id : Nat) : Nat := if id = 202 then gb g - gO g else gb g + id
theorem ga_lt {g : GL} {id : Nat} (h : id ≠ 202) : ga g id = gb g + id := if_neg h
theorem ga_202 {g : GL} : ga g 202 = gb g - gO g := if_pos rfl
theorem ga_inj {g : GL} {a b : Nat} (ha : 0 < a) (hb : 0 < b) (h : ga g a = ga g b) : a = b := by
  unfold ga at h
  split at h <;> split at h <;> omega
def gA (g : GL) : Nat → Prop := fun q => (gb g < q ∧ q ≤ gb g + 201) ∨ q = gb g - gO g
def gD (g : GL) : va_G := (gC g, gN g)
def ro (g : GL) (r : Nat) : Option Nat := if r = 0 then none else some (ga g r)
theorem ro_pos {g : GL} {r : Nat} (h : 0 < r) : ro g r = some (ga g r) := if_neg (Nat.pos_iff_ne_zero.mp h)
/-- fields of an object of class kc: are they references? -/
def flK : Nat → List Bool := fun k => match k with
  | 0 => [true, true, true, true, false, false, false, false, false, false, false, false, false, false]
  | 1 => [true, false]
  | 2 => [true, false, false]
  | 3 => [true, true, false]
  | 4 => [true, true, false, false, false, false]
  | 5 => [true]
  | 6 => [true, true, true, false, false, false]
  | 7 => [false, false, false, false]
  | 8 => [true, false]
  | 9 => [true, true, true, true, true, true, true, true, true, false, false, false, false, false, false, false, false, false]
  | 10 => [true, false, false, false, false]
  | 11 => [true, true, true, true, true, true, true, true, true, true]
  | 12 => [false, false, false, false, false, false, false, false, false, true, true, true, true, true, true, true, true, true, true, true, true, true, true, true, true, true, true]
  | 13 => [false]
  | _ => []
def fw (g : GL) (σ : Sg) (id k : Nat) (b : Bool) : Value := if b then va_rf (ro g (sR σ id k)) else .int (sI σ id k)
def fl (g : GL) (kc : Nat) (σ : Sg) (id : Nat) : List Value := (flK kc).mapIdx (fun k b => fw g σ id k b)
/-- arrays: kind 10000 * (t + 1) + length -/
def elk (g : GL) (kc : Nat) (σ : Sg) (id : Nat) : va_E :=
  if kc < 10000 then .inr (kc, fl g kc σ id)
  else .inl (gT g (kc / 10000 - 1), kc % 10000, if kc / 10000 = 4 then .inr (.inl (sL σ id)) else if kc / 10000 ≤ 3 then .inl (sI σ id) else .inr (.inr (.inr (.inr (fun j => ro g (sR σ id j))))))
/-- the kind of a cell by its number -/
def kdL : List Nat := [11, 5, 10, 20800, 2, 80016, 10084, 10084, 10084, 10084, 10084, 10084, 10084, 10084, 10084, 10084, 10084, 10084, 10084, 10084, 10084, 10084, 6, 10004, 10006, 10006, 8, 10018, 1, 20040, 3, 10008, 10008, 3, 10008, 10008, 10024, 9, 60008, 70006, 50006, 10008, 10006, 10006, 10006, 10024, 10024, 4, 10004, 10004, 4, 10004, 10004, 4, 10004, 10004, 4, 10004, 10004, 4, 10004, 10004, 4, 10004, 10004, 4, 10004, 10004, 4, 10004, 10004, 7, 7, 7, 7, 7, 7, 0, 10012, 10012, 10008, 10024, 0, 10012, 10012, 10008, 10024, 0, 10012, 10012, 10008, 10024, 0, 10012, 10012, 10008, 10024, 0, 10012, 10012, 10008, 10024, 0, 10012, 10012, 10008, 10024, 9, 60008, 70006, 50006, 10008, 10006, 10006, 10006, 10024, 10024, 4, 10004, 10004, 4, 10004, 10004, 4, 10004, 10004, 4, 10004, 10004, 4, 10004, 10004, 4, 10004, 10004, 4, 10004, 10004, 4, 10004, 10004, 7, 7, 7, 7, 7, 7, 0, 10012, 10012, 10008, 10024, 0, 10012, 10012, 10008, 10024, 0, 10012, 10012, 10008, 10024, 0, 10012, 10012, 10008, 10024, 0, 10012, 10012, 10008, 10024, 0, 10012, 10012, 10008, 10024, 12, 10002, 10002, 10002, 10002, 10002, 10002, 10002, 10002, 10002, 10003, 10003, 10003, 10003, 10024, 10024, 80003, 10004, 10004, 10004, 80003, 10004, 10004, 10004, 13]
def kd (id : Nat) : Nat := if id = 0 then 999999 else kdL.getD (id - 1) 999999
/-- the cells are as the state says -/
def Rp (g : GL) (σ : Sg) (H : Heap) : Prop := ∀ id, 0 < id → id ≤ sn σ → va_at (gD g) vwCl (ga g id, elk g (kd id) σ id) H
def St (g : GL) (s : State) (σ : Sg) (H : Heap) (locs : List Loc) : Prop := Rp g σ H ∧ va_S (gA g) s.heap H locs
def tysL (g : GL) : List (ClassId × FieldType) := [(gT g 0, .int), (gT g 1, .byte), (gT g 2, .boolean), (gT g 3, .int), (gT g 4, .object RX0), (gT g 5, .object RX4), (gT g 6, .object RX7), (gT g 7, .array .int)]
/-- words that stay when the tables warm -/
def wok : Cond → Bool
  | .arrayClass _ => true
  | .arrayOver (.object _) => true
  | .arrayOver (.array _) => true
  | .castable _ _ => true
  | .declares _ => true
  | .fieldLinkNest _ _ _ _ _ _ => true
  | .methodLinkNest _ _ _ _ => true
  | w => w.onTables && w.keeps
def BW : List Cond := lw_tbl.filter wok
theorem bw_in {w : Cond} (h : w ∈ lw_tbl) (h2 : wok w = true) : w ∈ BW := List.mem_filter.mpr ⟨h, h2⟩
theorem wok_use {w : Cond} (h : wok w = true) {s : State} {args : Array Value} (hw : va_Nw w s) : w.before args s = true := by
  cases w
  case arrayClass ty => exact word_at (State.WarmedH.refl s) (Or.inr ⟨_, rfl⟩) hw
  case arrayOver ty => exact hw
  case castable a b => exact va_Nw.use rfl hw
  case declares x => exact va_Nw.use rfl hw
  case fieldLinkNest => exact va_Nw.use rfl hw
  case methodLinkNest => exact va_Nw.use rfl hw
  all_goals exact word_at (State.WarmedH.refl s) (Or.inl h) hw
theorem wok_warm {w : Cond} (h : wok w = true) {s U : State} (hW : s.WarmedH U.vm) (hw : va_Nw w s) : va_Nw w U := by
  cases w
  case arrayClass ty => exact word_at hW (Or.inr ⟨_, rfl⟩) hw
  case arrayOver ty =>
    cases ty with
    | object n => exact Cond.arrayOver_alike hW.alike hw
    | array t => exact over_moved hW.alike hw
    | _ => first | cases h | exact word_at hW (Or.inl h) hw
  case castable a b => exact va_Nw.warmC hW hw
  case declares x => exact va_Nw.warmD hW hw
  case fieldLinkNest => exact va_Nw.warmF hW hw
  case methodLinkNest => exact va_Nw.warmM hW hw
  all_goals exact word_at hW (Or.inl h) hw
/-- the kind of what a reference place holds, once all is made -/
def fk : Nat → Nat → Option Nat := fun c k => match c with
  | 0 => ([some 10012, some 10012, some 10008, some 10024] : List (Option Nat)).getD k none
  | 1 => ([some 20040] : List (Option Nat)).getD k none
  | 2 => ([some 80016] : List (Option Nat)).getD k none
  | 3 => ([some 10008, some 10008] : List (Option Nat)).getD k none
  | 4 => ([some 10004, some 10004] : List (Option Nat)).getD k none
  | 5 => ([some 10] : List (Option Nat)).getD k none
  | 6 => ([some 10004, some 10006, some 10006] : List (Option Nat)).getD k none
  | 8 => ([some 10018] : List (Option Nat)).getD k none
  | 9 => ([some 60008, some 70006, some 50006, some 10008, some 10006, some 10006, some 10006, some 10024, some 10024] : List (Option Nat)).getD k none
  | 10 => ([some 20800] : List (Option Nat)).getD k none
  | 11 => ([some 5, some 2, some 6, some 8, some 1, some 3, some 3, some 10024, some 9, some 9] : List (Option Nat)).getD k none
  | 12 => ([none, none, none, none, none, none, none, none, none, some 10002, some 10002, some 10002, some 10002, some 10002, some 10002, some 10002, some 10002, some 10002, some 10003, some 10003, some 10003, some 10003, some 10024, some 10024, some 80003, some 80003] : List (Option Nat)).getD k none
  | 50006 => if k < 6 then some 0 else none
  | 60008 => if k < 8 then some 4 else none
  | 70006 => if k < 6 then some 7 else none
  | 80003 => if k < 3 then some 10004 else none
  | 80016 => if k < 16 then some 10084 else none
  | _ => none
/-- cell id is made, and is of kind c -/
def Ok (n id c : Nat) : Prop := kd id = c ∧ 0 < id ∧ id ≤ n
theorem kd_le {id : Nat} (h : kd id < 999999) : 0 < id ∧ id ≤ 202 := by
  unfold kd at h
  refine ⟨Nat.pos_of_ne_zero fun q => ?_, Nat.le_of_not_lt fun q => ?_⟩
  · rw [if_pos q] at h
    exact absurd h (by decide)
  · rw [if_neg (by omega), List.getD_eq_getElem?_getD, List.getElem?_eq_none (by show 202 ≤ id - 1; omega)] at h
    exact absurd h (by decide)
theorem Ok.le {n id c : Nat} (h : Ok n id c) (hc : c < 999999) : id ≤ 202 := (kd_le (by rw [h.1]; exact hc)).2
theorem ga_in {g : GL} {id : Nat} (h0 : 0 < id) (h : id ≤ 202) : gA g (ga g id) := by
  unfold gA ga
  split
  · exact Or.inr rfl
  · exact Or.inl ⟨by omega, by omega⟩
theorem Ok.zone {g : GL} {n id c : Nat} (h : Ok n id c) (hc : c < 999999) : gA g (ga g id) := ga_in h.2.1 (h.le hc)
def Sh (n : Nat) (σ : Sg) : Prop := ∀ o c k d, kd o = c → fk c k = some d → Ok n (sR σ o k) d
def strTab : List (String × Nat × String × Nat) := [(RX12, 100, "day ", 10), (RX12, 109, " ", 11), (RX12, 111, ";step ", 12), (RX12, 113, ";close ", 13), (RX12, 115, ";space ", 14), (RX12, 117, ";", 15), (RX12, 127, "wind ", 16), (RX12, 141, "near ", 18), (RX12, 143, " to ", 19), (RX12, 133, "road ", 17), (RX12, 145, "blast ", 20), (RX12, 147, " at ", 21), (RX5, 48, "near", 0), (RX5, 152, "to", 1), (RX5, 58, "road", 2), (RX5, 63, "blast", 3), (RX5, 209, "at", 4), (RX5, 71, "day", 5), (RX5, 83, "step", 6), (RX5, 87, "close", 7), (RX5, 95, "space", 8), (RX5, 100, "wind", 9), (RX11, 92, "the text does not match", 22), (RX11, 358, "no such blast", 23), (RX11, 365, "no such neighbour", 24), (RX11, 371, "no such road", 25), (RX11, 379, "out of range", 26), (RX11, 259, "fired, or the minute is not allowed", 27), (RX11, 381, "the blast is open or fired", 28), (RX11, 268, "another blast is fired before", 29), (RX11, 270, "the blast is fired", 30), (RX11, 383, "no such siren", 31), (RX11, 391, "too many open blasts or start minutes", 32), (RX11, 333, "there is no plan", 33)]
def strLen : List Nat := [4, 2, 4, 5, 2, 3, 4, 5, 5, 4, 4, 1, 6, 7, 7, 1, 5, 5, 5, 4, 6, 4]
def strByt : List (List Int32) := [[110, 101, 97, 114], [116, 111], [114, 111, 97, 100], [98, 108, 97, 115, 116], [97, 116], [100, 97, 121], [115, 116, 101, 112], [99, 108, 111, 115, 101], [115, 112, 97, 99, 101], [119, 105, 110, 100], [100, 97, 121, 32], [32], [59, 115, 116, 101, 112, 32], [59, 99, 108, 111, 115, 101, 32], [59, 115, 112, 97, 99, 101, 32], [59], [119, 105, 110, 100, 32], [114, 111, 97, 100, 32], [110, 101, 97, 114, 32], [32, 116, 111, 32], [98, 108, 97, 115, 116, 32], [32, 97, 116, 32]]
def wxL : List Int32 := [0, 1, 1, 1, 0, -1, -1, -1]
def wyL : List Int32 := [-1, -1, 0, 1, 1, 1, 0, -1]
def ncTab : List (String × String) := [("java/lang/IllegalArgumentException", "java/lang/IndexOutOfBoundsException"), ("java/lang/IllegalStateException", "java/lang/IndexOutOfBoundsException"), ("java/lang/IllegalStateException", "java/lang/IllegalArgumentException")]
/-- texts, static rows, and what a throw reads -/
def EnvX (g : GL) (U : State) (H : Heap) : Prop :=
  (∀ q ∈ strTab, vk_R q.1 q.2.1 q.2.2.1 (gS g q.2.2.2) U) ∧ vk_S 22 strLen strByt (gS g) (gV g) (gA g) U H ∧
  va_Z RX9 "WIND_X" "[I" (.ref (gV g 900)) (gA g) U H ∧ va_Z RX9 "WIND_Y" "[I" (.ref (gV g 901)) (gA g) U H ∧
  va_T .int (gV g 900) 8 (fun j => .int (wxL.getD j 0)) (gA g) U H ∧ va_T .int (gV g 901) 8 (fun j => .int (wyL.getD j 0)) (gA g) U H ∧
  va_Z "java/lang/String" "COMPACT_STRINGS" "Z" (.int 1) (gA g) U H ∧
  va_Zq "jdk/internal/util/Preconditions" "SIOOBE_FORMATTER" "Ljava/util/function/BiFunction;" (gA g) U H ∧
  vx_Zq Bundle.tN "UNASSIGNED_STACK" Bundle.steD (gA g) U H ∧ vx_Zq Bundle.tN "SUPPRESSED_SENTINEL" Bundle.listD (gA g) U H ∧
  (∀ q ∈ ncTab, va_Nc q.1 q.2 U) ∧
  va_Z "java/lang/Integer" "DigitOnes" "[B" (.ref (gV g 902)) (gA g) U H ∧ va_Z "java/lang/Integer" "DigitTens" "[B" (.ref (gV g 903)) (gA g) U H ∧
  va_T .byte (gV g 902) 100 (fun j => .int (nI (48 + j % 10))) (gA g) U H ∧ va_T .byte (gV g 903) 100 (fun j => .int (nI (48 + j / 10))) (gA g) U H
theorem EnvX.mv {g : GL} {s U : State} {H H1 : Heap} (h : EnvX g s H) (hW : s.WarmedH U.vm) (hq : ∀ a : Nat, a < H.size → ¬ gA g a → H1[a]? = H[a]?) : EnvX g U H1 := by
  obtain ⟨h1, h2, h3, h4, h5, h6, h7, h8, h9, h10, h11, h12, h13, h14, h15⟩ := h
  have A := hW.alike
  exact ⟨fun q hq => (h1 q hq).warm hW, (h2.moved A).kept hq, (h3.moved A).kept hq, (h4.moved A).kept hq, (h5.moved A).kept hq, (h6.moved A).kept hq, (h7.moved A).kept hq, (h8.moved A).kept hq, (h9.moved A).kept hq, (h10.moved A).kept hq, fun q hq => (h11 q hq).moved A, (h12.moved A).kept hq, (h13.moved A).kept hq, (h14.moved A).kept hq, (h15.moved A).kept hq⟩
def Low (g : GL) (H : Heap) : Prop := (gH g).size = gb g + 1 ∧ (gH g).size ≤ H.size ∧ ∀ a : Nat, a < (gH g).size → a ≠ gb g - gO g → H[a]? = (gH g)[a]?
def Env (l : Launch) (g : GL) (U : State) : Prop := (∀ w ∈ BW, va_Nw w U) ∧ va_K (gD g) vwCl (tysL g) U ∧ EnvX g U (gH g) ∧ l.stackTraces = false
theorem Env.warm {l : Launch} {g : GL} {s U : State} (h : Env l g s) (hW : s.WarmedH U.vm) : Env l g U :=
  ⟨fun w hw => wok_warm (List.mem_filter.mp hw).2 hW (h.1 w hw), h.2.1.moved hW.alike, h.2.2.1.mv hW (fun _ _ _ => rfl), h.2.2.2⟩
theorem Env.fr {l : Launch} {g : GL} {s U : State} (h : Env l g s) (hv : U.vm = s.vm) : Env l g U :=
  h.warm (by rw [hv]; exact State.WarmedH.refl s)
theorem Env.w {l : Launch} {g : GL} {s : State} {args : Array Value} {w : Cond} (h : Env l g s) (hw : w ∈ BW) : w.before args s = true := wok_use (List.mem_filter.mp hw).2 (h.1 w hw)
theorem Env.x {l : Launch} {g : GL} {s : State} (h : Env l g s) {H : Heap} (hL : Low g H) : EnvX g s H := by
  obtain ⟨h1, h2, h3, h4, h5, h6, h7, h8, h9, h10, h11, h12, h13, h14, h15⟩ := h.2.2.1
  have hq : ∀ a : Nat, a < (gH g).size → ¬ gA g a → H[a]? = (gH g)[a]? := fun a ha hn => hL.2.2 a ha (fun q => hn (Or.inr q))
  exact ⟨h1, h2.kept hq, h3.kept hq, h4.kept hq, h5.kept hq, h6.kept hq, h7.kept hq, h8.kept hq, h9.kept hq, h10.kept hq, h11, h12.kept hq, h13.kept hq, h14.kept hq, h15.kept hq⟩
/-- a world: n cells made, in the state σ -/
def Wd (g : GL) (n : Nat) (σ : Sg) (H : Heap) : Prop := Rp g σ H ∧ sn σ = n ∧ (n < 201 → H.size = gb g + n + 1)
def Pcc (l : Launch) (g : GL) (n : Nat) (As : List Value) (σ : Sg) : Array Value → State → Prop := fun v U => v = As.toArray ∧ Env l g U ∧ Low g U.heap ∧ Wd g n σ U.heap
theorem Pcc.blind {l : Launch} {g : GL} {n : Nat} {As : List Value} {σ : Sg} : FrameBlind (Pcc l g n As σ) := fun a U G mk h => ⟨h.1, Env.fr (U := U.calling G mk a) h.2.1 rfl, h.2.2.1, h.2.2.2⟩
def Qg (g : GL) (n : Nat) (post : Option Value → Sg → Prop) : Array Value → State → Outcome → State → Prop := fun _ st o t => (∃ v σ, o = .returned v ∧ post v σ ∧ Wd g n σ t.heap) ∧ va_F (gA g) st t
def Xg (g : GL) (n : Nat) (post : String → Sg → Prop) : String → State → State → Prop := fun E st t => (∃ σ, post E σ ∧ Wd g n σ t.heap) ∧ va_F (gA g) st t
/-- room of a call that nests d deep -/
def rmd (d mc ms : Nat) : Room := { frames := d, cells := mc, slots := ms, locals := 64 * d }
/-- a method's contract: from σ with arguments As it returns v and σ' with post v σ' -/
def Ct (l : Launch) (g : GL) (d : Nat) (y : MethodName) (b : ByteArray) (nL : Nat) (ret : Option FieldType) (n n' mc ms : Nat) (As : List Value) (σ : Sg) (post : Option Value → Sg → Prop) : Prop :=
  Met l y [Cond.code y b nL ret] (rmd d mc ms) (Pcc l g n As σ) (Qg g n' post) mc ms (gA g)
def Cx (l : Launch) (g : GL) (p : Program) (s : State) (m : MethodId) (meth : Method) (c : Code) (cc : ByteArray) (nL : Nat) (own : String) : Prop :=
  p.tables.exec = Jvm.exec ∧ c.code = cc ∧ c.maxLocals = nL ∧ s.vm.findClass own = some m.cls ∧ Env l g s ∧ Low g s.heap ∧ meth.locks = false
def StL (g : GL) (n : Nat) (s : State) (σ : Sg) (H : Heap) (locs : List Loc) : Prop := Wd g n σ H ∧ va_S (gA g) s.heap H locs
section VROW
variable {l : Launch} {g : GL} {p : Program} {e : Jvm.Env} {R : Room} {s : State} {m : MethodId} {args : Array Value} {below : List Frame} {meth : Method} {c : Code} {H : Heap} {locs : List Loc} {cells slots : Nat} {Q : State → Prop}
variable {cc : ByteArray} {nL : Nat} {own : String} {pc n : Nat} {ls : Array Slot} {rest : List Value} {σ : Sg} {id kc index : Nat} {Cn : String} {T : u_T} {N : Nat}
theorem v_cell (S : StL g n s σ H locs) (hid : Ok n id kc) : va_P (gD g) vwCl [(ga g id, elk g kc σ id)] H := by
  intro k q hk
  have hz : k = 0 := by
    have := (List.getElem?_eq_some_iff.mp hk).1
    simp at this
    exact this
  subst hz
  cases hk
  have h := S.1.1 id hid.2.1 (by rw [S.1.2.1]; exact hid.2.2)
  rw [hid.1] at h
  exact h
theorem v_fl (kc k : Nat) (σ : Sg) (id : Nat) {b : Bool} (hb : (flK kc)[k]? = some b) : (fl g kc σ id)[k]? = some (fw g σ id k b) := by
  unfold fl
  rw [List.getElem?_mapIdx, hb]
  rfl
theorem v_elk (h : kc < 10000) (σ : Sg) (id : Nat) : elk g kc σ id = .inr (kc, fl g kc σ id) := if_pos h
theorem v_get (C : Cx l g p s m meth c cc nL own) (S : StL g n s σ H locs) (hid : Ok n id kc) (hc : vwCl[kc]? = some (Cn, T, N)) (hin : ∀ w ∈ u_ws Cn T N, w ∈ BW) (hlt : kc < 10000) (k : Nat) (hk : k < N) {b : Bool} (hb' : (flK kc)[k]? = some b) (hT : (T k).1 = Cn)
    (hw : Cond.fieldLink own index Cn (T k).2.1 (T k).2.2.1 ∈ BW) (hdg : decode cc pc = .ok (.getfield index, 3))
    (kk : W p l e R s m args below meth c H locs cells slots Q (F0 m (pc + 3) ls (fw g σ id k b :: rest))) : W p l e R s m args below meth c H locs cells slots Q (F0 m pc ls (.ref (ga g id) :: rest)) := by
  have hP := v_cell S hid
  rw [v_elk hlt] at hP
  exact va_get C.1 C.2.1 (fun w hw => C.2.2.2.2.1.w (hin w hw)) (fun w h => h) C.2.2.2.1 C.2.2.2.2.1.2.1 hP 0 rfl hc k hk (C.2.2.2.2.1.w hw) (fun x h => by rw [hT] at h; exact h) (v_fl kc k σ id hb') hdg kk
theorem v_getI (C : Cx l g p s m meth c cc nL own) (S : StL g n s σ H locs) (hid : Ok n id kc) (hc : vwCl[kc]? = some (Cn, T, N)) (hin : ∀ w ∈ u_ws Cn T N, w ∈ BW) (hlt : kc < 10000) (k : Nat) (hk : k < N) (hb' : (flK kc)[k]? = some false) (hT : (T k).1 = Cn)
    (hw : Cond.fieldLink own index Cn (T k).2.1 (T k).2.2.1 ∈ BW) (hdg : decode cc pc = .ok (.getfield index, 3))
    (kk : W p l e R s m args below meth c H locs cells slots Q (F0 m (pc + 3) ls (.int (sI σ id k) :: rest))) : W p l e R s m args below meth c H locs cells slots Q (F0 m pc ls (.ref (ga g id) :: rest)) :=
  v_get C S hid hc hin hlt k hk hb' hT hw hdg kk
theorem v_getR (C : Cx l g p s m meth c cc nL own) (S : StL g n s σ H locs) (hid : Ok n id kc) (hc : vwCl[kc]? = some (Cn, T, N)) (hin : ∀ w ∈ u_ws Cn T N, w ∈ BW) (hlt : kc < 10000) (k : Nat) (hk : k < N) (hb' : (flK kc)[k]? = some true) (hT : (T k).1 = Cn)
    (hw : Cond.fieldLink own index Cn (T k).2.1 (T k).2.2.1 ∈ BW) {d : Nat} (hr : Ok n (sR σ id k) d) (hdg : decode cc pc = .ok (.getfield index, 3))
    (kk : W p l e R s m args below meth c H locs cells slots Q (F0 m (pc + 3) ls (.ref (ga g (sR σ id k)) :: rest))) : W p l e R s m args below meth c H locs cells slots Q (F0 m pc ls (.ref (ga g id) :: rest)) := by
  refine v_get C S hid hc hin hlt k hk hb' hT hw hdg ?_
  show W p l e R s m args below meth c H locs cells slots Q (F0 m (pc + 3) ls (va_rf (ro g (sR σ id k)) :: rest))
  rw [ro_pos hr.2.1]
  exact kk
end VROW
end
section
/-! ===== rows that write: fields, arrays ===== -/
theorem uI_sI {σ : Sg} {o k i : Nat} {v : Int32} (h : i ≠ o) : sI (uI σ o k v) i = sI σ i := funext fun j => by
  rw [sI_uI, if_neg (fun q => h q.1)]
theorem uR_sR {σ : Sg} {o k i : Nat} {v : Nat} (h : i ≠ o) : sR (uR σ o k v) i = sR σ i := funext fun j => by
  rw [sR_uR, if_neg (fun q => h q.1)]
theorem uL_sL {σ : Sg} {o k i : Nat} {v : Int64} (h : i ≠ o) : sL (uL σ o k v) i = sL σ i := funext fun j => by
  rw [sL_uL, if_neg (fun q => h q.1)]
theorem elk_ext {g : GL} {σ σ' : Sg} {i : Nat} (kc : Nat) (h1 : sI σ' i = sI σ i) (h2 : sR σ' i = sR σ i) (h3 : sL σ' i = sL σ i) : elk g kc σ' i = elk g kc σ i := by
  unfold elk fl fw
  rw [h1, h2, h3]
theorem elk_uI {g : GL} {σ : Sg} {o k i : Nat} {v : Int32} (kc : Nat) (h : i ≠ o) : elk g kc (uI σ o k v) i = elk g kc σ i := elk_ext kc (uI_sI h) rfl rfl
theorem elk_uR {g : GL} {σ : Sg} {o k i : Nat} {v : Nat} (kc : Nat) (h : i ≠ o) : elk g kc (uR σ o k v) i = elk g kc σ i := elk_ext kc rfl (uR_sR h) rfl
theorem elk_uL {g : GL} {σ : Sg} {o k i : Nat} {v : Int64} (kc : Nat) (h : i ≠ o) : elk g kc (uL σ o k v) i = elk g kc σ i := elk_ext kc rfl rfl (uL_sL h)
theorem fl_set {g : GL} {σ σ' : Sg} {id k kc : Nat} {b : Bool} {v : Value} (hb : (flK kc)[k]? = some b) (hv : v = fw g σ' id k b) (ho : ∀ j c, j ≠ k → fw g σ' id j c = fw g σ id j c) : (fl g kc σ id).set k v = fl g kc σ' id := by
  apply List.ext_getElem?
  intro j
  unfold fl
  rw [List.getElem?_set, List.getElem?_mapIdx]
  by_cases h : k = j
  · subst h
    have hk := (List.getElem?_eq_some_iff.mp hb).1
    rw [if_pos rfl, if_pos (by rw [List.length_mapIdx]; exact hk), hv, List.getElem?_mapIdx, hb]
    rfl
  · rw [if_neg h, List.getElem?_mapIdx]
    cases hj : (flK kc)[j]? with
    | none => rfl
    | some c =>
      show some (fw g σ id j c) = some (fw g σ' id j c)
      rw [ho j c (fun q => h q.symm)]
theorem fl_uI {g : GL} {σ : Sg} {id k kc : Nat} {x : Int32} (hb : (flK kc)[k]? = some false) : (fl g kc σ id).set k (.int x) = fl g kc (uI σ id k x) id := by
  refine fl_set hb ?_ ?_
  · show Value.int x = Value.int (sI (uI σ id k x) id k)
    rw [sI_uI, if_pos ⟨rfl, rfl⟩]
  · intro j c h
    cases c with
    | true => rfl
    | false =>
      show Value.int (sI (uI σ id k x) id j) = Value.int (sI σ id j)
      rw [sI_uI, if_neg (fun q => h q.2)]
theorem fl_uR {g : GL} {σ : Sg} {id k kc r : Nat} (hb : (flK kc)[k]? = some true) : (fl g kc σ id).set k (va_rf (ro g r)) = fl g kc (uR σ id k r) id := by
  refine fl_set hb ?_ ?_
  · show va_rf (ro g r) = va_rf (ro g (sR (uR σ id k r) id k))
    rw [sR_uR, if_pos ⟨rfl, rfl⟩]
  · intro j c h
    cases c with
    | false => rfl
    | true =>
      show va_rf (ro g (sR (uR σ id k r) id j)) = va_rf (ro g (sR σ id j))
      rw [sR_uR, if_neg (fun q => h q.2)]
/-- one cell changed -/
theorem StL.one {g : GL} {n : Nat} {s : State} {σ σ' : Sg} {H H1 : Heap} {locs locs1 : List Loc} {id kc : Nat} (S : StL g n s σ H locs) (hid : Ok n id kc) (hsz : H1.size = H.size) (oq : ∀ q : Nat, q ≠ ga g id → H1[q]? = H[q]?) (hcell : va_at (gD g) vwCl (ga g id, elk g kc σ' id) H1)
    (ho : ∀ i c, i ≠ id → elk g c σ' i = elk g c σ i) (hn : sn σ' = sn σ) (hl : va_S (gA g) s.heap H1 locs1) : StL g n s σ' H1 locs1 := by
  refine ⟨⟨fun i h0 h1 => ?_, hn.trans S.1.2.1, fun h => hsz.trans (S.1.2.2 h)⟩, hl⟩
  by_cases hi : i = id
  · subst hi
    rw [hid.1]
    exact hcell
  · rw [ho i _ hi]
    exact (S.1.1 i h0 (by rw [← hn]; exact h1)).kept (oq _ (fun q => hi (ga_inj h0 hid.2.1 q)))
section VPUT
variable {l : Launch} {g : GL} {p : Program} {e : Jvm.Env} {R : Room} {s : State} {m : MethodId} {args : Array Value} {below : List Frame} {meth : Method} {c : Code} {H : Heap} {locs : List Loc} {cells slots : Nat} {Q : State → Prop}
variable {cc : ByteArray} {nL : Nat} {own : String} {pc n : Nat} {ls : Array Slot} {rest : List Value} {σ : Sg} {id kc index : Nat} {Cn : String} {T : u_T} {N : Nat}
theorem v_put (C : Cx l g p s m meth c cc nL own) (S : StL g n s σ H locs) (hid : Ok n id kc) (hc : vwCl[kc]? = some (Cn, T, N)) (hin : ∀ w ∈ u_ws Cn T N, w ∈ BW) (ty0 : Nat → FieldType) (hty : ∀ k, k < N → parseFieldDescriptor (T k).2.2.1 = some (ty0 k)) (hnm : ∀ a, a < N → ∀ b, b < N → a ≠ b → (T a).2.1 ≠ (T b).2.1)
    (hlt : kc < 10000) (k : Nat) (hk : k < N) (hT : (T k).1 = Cn) (hfin : (T k).2.2.2 = false) {v : Value} (hn : narrow (ty0 k) v = v) (hfit : fits (ty0 k) v = true) (hl : k < (flK kc).length)
    (hw : Cond.fieldLink own index Cn (T k).2.1 (T k).2.2.1 ∈ BW) (hdg : decode cc pc = .ok (.putfield index, 3)) (σ' : Sg) (hset : (fl g kc σ id).set k v = fl g kc σ' id) (ho : ∀ i c, i ≠ id → elk g c σ' i = elk g c σ i) (hsn : sn σ' = sn σ)
    (kk : ∀ (H1 : Heap) (locs1 : List Loc), StL g n s σ' H1 locs1 → W p l e R s m args below meth c H1 locs1 cells slots Q (F0 m (pc + 3) ls rest)) : W p l e R s m args below meth c H locs cells slots Q (F0 m pc ls (v :: .ref (ga g id) :: rest)) := by
  have hts : ∀ w ∈ u_ws Cn T N, w.before args s = true := fun w hw => C.2.2.2.2.1.w (hin w hw)
  have hK := C.2.2.2.2.1.2.1
  have hap := va_apart (own := own) hts (fun w h => h) ty0 hty hnm hK hc
  have hP := v_cell S hid
  rw [v_elk hlt] at hP
  obtain ⟨r, h1, cell, q1, q2, q3, q4⟩ := hP 0 _ rfl
  have hr : r = (Cn, T, N) := Option.some.inj (h1.symm.trans hc)
  subst hr
  obtain ⟨hSk, hfc, kC, hkC, hkind⟩ := hK.1 kc _ hc
  obtain ⟨cf, kf, fi, f, hi, hsl⟩ := hSk k hk
  have hlay := hts _ (u_in_lay hk)
  unfold u_lay at hlay
  rw [if_neg (by rw [hfin]; decide)] at hlay
  have hst := (u_facts hfc hkC (u_lays hts (fun w h => h) hk) hi).1
  have h6 := u_store hfc hkC hkind hlay hi (hty k hk) hn hfit
  have hlen : k < (fl g kc σ id).length := by unfold fl; rw [List.length_mapIdx]; exact hl
  refine W.putK C.1 C.2.1 (f := f) ⟨C.2.2.2.1, C.2.2.2.2.1.w hw, ⟨_, _, _, by rw [hT] at hi; exact hi⟩, hst⟩ (by rw [q2]; exact h6) q1 q3 (by rw [hsl]; exact k2_hasslot (q4 k hk)) rfl rfl hdg fun H' e1 e2 e3 => ?_
  rw [hsl] at e1 ⊢
  refine kk H' _ (S.one hid e2 e3 ?_ ho hsn (S.2.put e2 e3 (hid.zone (by omega))))
  rw [v_elk hlt, ← hset]
  exact ⟨_, hc, t_OB.to (V := updV (vp_V (fl g kc σ id)) k v) ⟨_, e1, q2, q3, t_set q4 hap hk v⟩ (fun j _ => vp_updV_set hlen v j)⟩
theorem v_putI (C : Cx l g p s m meth c cc nL own) (S : StL g n s σ H locs) (hid : Ok n id kc) (hc : vwCl[kc]? = some (Cn, T, N)) (hin : ∀ w ∈ u_ws Cn T N, w ∈ BW) (ty0 : Nat → FieldType) (hty : ∀ k, k < N → parseFieldDescriptor (T k).2.2.1 = some (ty0 k)) (hnm : ∀ a, a < N → ∀ b, b < N → a ≠ b → (T a).2.1 ≠ (T b).2.1)
    (hlt : kc < 10000) (k : Nat) (hk : k < N) (hT : (T k).1 = Cn) (hfin : (T k).2.2.2 = false) {x : Int32} (hn : narrow (ty0 k) (.int x) = .int x) (hfit : fits (ty0 k) (.int x) = true) (hb : (flK kc)[k]? = some false)
    (hw : Cond.fieldLink own index Cn (T k).2.1 (T k).2.2.1 ∈ BW) (hdg : decode cc pc = .ok (.putfield index, 3))
    (kk : ∀ (H1 : Heap) (locs1 : List Loc), StL g n s (uI σ id k x) H1 locs1 → W p l e R s m args below meth c H1 locs1 cells slots Q (F0 m (pc + 3) ls rest)) : W p l e R s m args below meth c H locs cells slots Q (F0 m pc ls (.int x :: .ref (ga g id) :: rest)) :=
  v_put C S hid hc hin ty0 hty hnm hlt k hk hT hfin hn hfit (List.getElem?_eq_some_iff.mp hb).1 hw hdg _ (fl_uI hb) (fun i c h => elk_uI c h) rfl kk
theorem v_putR (C : Cx l g p s m meth c cc nL own) (S : StL g n s σ H locs) (hid : Ok n id kc) (hc : vwCl[kc]? = some (Cn, T, N)) (hin : ∀ w ∈ u_ws Cn T N, w ∈ BW) (ty0 : Nat → FieldType) (hty : ∀ k, k < N → parseFieldDescriptor (T k).2.2.1 = some (ty0 k)) (hnm : ∀ a, a < N → ∀ b, b < N → a ≠ b → (T a).2.1 ≠ (T b).2.1)
    (hlt : kc < 10000) (k : Nat) (hk : k < N) (hT : (T k).1 = Cn) (hfin : (T k).2.2.2 = false) {r d : Nat} (hr : Ok n r d) (hn : ∀ a : Nat, narrow (ty0 k) (.ref a) = .ref a) (hfit : ∀ a : Nat, fits (ty0 k) (.ref a) = true) (hb : (flK kc)[k]? = some true)
    (hw : Cond.fieldLink own index Cn (T k).2.1 (T k).2.2.1 ∈ BW) (hdg : decode cc pc = .ok (.putfield index, 3))
    (kk : ∀ (H1 : Heap) (locs1 : List Loc), StL g n s (uR σ id k r) H1 locs1 → W p l e R s m args below meth c H1 locs1 cells slots Q (F0 m (pc + 3) ls rest)) : W p l e R s m args below meth c H locs cells slots Q (F0 m pc ls (.ref (ga g r) :: .ref (ga g id) :: rest)) :=
  v_put C S hid hc hin ty0 hty hnm hlt k hk hT hfin (hn _) (hfit _) (List.getElem?_eq_some_iff.mp hb).1 hw hdg _ (by have h := fl_uR (g := g) (σ := σ) (id := id) (r := r) hb; rw [ro_pos hr.2.1] at h; exact h) (fun i c h => elk_uR c h) rfl kk
end VPUT
section VARR
variable {l : Launch} {g : GL} {p : Program} {e : Jvm.Env} {R : Room} {s : State} {m : MethodId} {args : Array Value} {below : List Frame} {meth : Method} {c : Code} {H : Heap} {locs : List Loc} {cells slots : Nat} {Q : State → Prop}
variable {cc : ByteArray} {nL : Nat} {own : String} {pc n : Nat} {ls : Array Slot} {rest : List Value} {σ : Sg} {id len : Nat}
theorem elk_i (σ : Sg) (id len : Nat) (h : len < 10000) : elk g (10000 + len) σ id = .inl (gT g 0, len, .inl (sI σ id)) := by
  unfold elk
  rw [if_neg (by omega), if_neg (by omega), if_pos (by omega), show (10000 + len) / 10000 - 1 = 0 by omega, show (10000 + len) % 10000 = len by omega]
theorem elk_b (σ : Sg) (id len : Nat) (h : len < 10000) : elk g (20000 + len) σ id = .inl (gT g 1, len, .inl (sI σ id)) := by
  unfold elk
  rw [if_neg (by omega), if_neg (by omega), if_pos (by omega), show (20000 + len) / 10000 - 1 = 1 by omega, show (20000 + len) % 10000 = len by omega]
theorem elk_z (σ : Sg) (id len : Nat) (h : len < 10000) : elk g (30000 + len) σ id = .inl (gT g 2, len, .inl (sI σ id)) := by
  unfold elk
  rw [if_neg (by omega), if_neg (by omega), if_pos (by omega), show (30000 + len) / 10000 - 1 = 2 by omega, show (30000 + len) % 10000 = len by omega]
theorem elk_l (σ : Sg) (id len : Nat) (h : len < 10000) : elk g (40000 + len) σ id = .inl (gT g 3, len, .inr (.inl (sL σ id))) := by
  unfold elk
  rw [if_neg (by omega), if_pos (by omega), show (40000 + len) / 10000 - 1 = 3 by omega, show (40000 + len) % 10000 = len by omega]
theorem elk_q (t : Nat) (ht : 4 ≤ t) (σ : Sg) (id len : Nat) (h : len < 10000) : elk g (10000 * t + 10000 + len) σ id = .inl (gT g t, len, .inr (.inr (.inr (.inr (fun j => ro g (sR σ id j)))))) := by
  unfold elk
  rw [if_neg (by omega), if_neg (by omega), if_neg (by omega), show (10000 * t + 10000 + len) / 10000 - 1 = t by omega, show (10000 * t + 10000 + len) % 10000 = len by omega]
theorem v_iald (C : Cx l g p s m meth c cc nL own) (S : StL g n s σ H locs) (hlen : len < 10000) (hid : Ok n id (10000 + len)) {i : Int32} (hin : vp_in i len) (hdg : decode cc pc = .ok (.iaload, 1))
    (kk : W p l e R s m args below meth c H locs cells slots Q (F0 m (pc + 1) ls (.int (sI σ id i.toNatClampNeg) :: rest))) : W p l e R s m args below meth c H locs cells slots Q (F0 m pc ls (.int i :: .ref (ga g id) :: rest)) := by
  have hP := v_cell S hid
  rw [elk_i _ _ _ hlen] at hP
  exact va_iald C.1 C.2.1 C.2.2.2.2.1.2.1 hP 0 0 rfl rfl hin hdg kk
theorem v_bald (C : Cx l g p s m meth c cc nL own) (S : StL g n s σ H locs) (hlen : len < 10000) (hid : Ok n id (20000 + len)) {i : Int32} (hin : vp_in i len) (hdg : decode cc pc = .ok (.baload, 1))
    (kk : W p l e R s m args below meth c H locs cells slots Q (F0 m (pc + 1) ls (.int (sI σ id i.toNatClampNeg) :: rest))) : W p l e R s m args below meth c H locs cells slots Q (F0 m pc ls (.int i :: .ref (ga g id) :: rest)) := by
  have hP := v_cell S hid
  rw [elk_b _ _ _ hlen] at hP
  exact va_bald C.1 C.2.1 C.2.2.2.2.1.2.1 hP 0 1 rfl rfl hin hdg kk
theorem v_zald (C : Cx l g p s m meth c cc nL own) (S : StL g n s σ H locs) (hlen : len < 10000) (hid : Ok n id (30000 + len)) {i : Int32} (hin : vp_in i len) (hdg : decode cc pc = .ok (.baload, 1))
    (kk : W p l e R s m args below meth c H locs cells slots Q (F0 m (pc + 1) ls (.int (sI σ id i.toNatClampNeg) :: rest))) : W p l e R s m args below meth c H locs cells slots Q (F0 m pc ls (.int i :: .ref (ga g id) :: rest)) := by
  have hP := v_cell S hid
  rw [elk_z _ _ _ hlen] at hP
  exact va_zald C.1 C.2.1 C.2.2.2.2.1.2.1 hP 0 2 rfl rfl hin hdg kk
theorem v_aald (C : Cx l g p s m meth c cc nL own) (S : StL g n s σ H locs) (hlen : len < 10000) (t : Nat) (ht : 4 ≤ t) {Cm : String} (hty : (tysL g)[t]? = some (gT g t, .object Cm)) (hid : Ok n id (10000 * t + 10000 + len)) {i : Int32} (hin : vp_in i len) {d : Nat} (hr : Ok n (sR σ id i.toNatClampNeg) d) (hdg : decode cc pc = .ok (.aaload, 1))
    (kk : W p l e R s m args below meth c H locs cells slots Q (F0 m (pc + 1) ls (.ref (ga g (sR σ id i.toNatClampNeg)) :: rest))) : W p l e R s m args below meth c H locs cells slots Q (F0 m pc ls (.int i :: .ref (ga g id) :: rest)) := by
  have hP := v_cell S hid
  rw [elk_q t ht _ _ _ hlen] at hP
  refine va_aldq C.1 C.2.1 C.2.2.2.2.1.2.1 hP 0 t rfl hty hin hdg ?_
  rw [ro_pos hr.2.1]
  exact kk
/-- an array's cell after a store -/
theorem sI_upd (σ : Sg) (id k : Nat) (x : Int32) : sI (uI σ id k x) id = upd (sI σ id) k x := by
  funext j
  rw [sI_uI]
  unfold upd
  by_cases h : j = k
  · rw [if_pos ⟨rfl, h⟩, if_pos h]
  · rw [if_neg (fun q => h q.2), if_neg h]
theorem v_iast (C : Cx l g p s m meth c cc nL own) (S : StL g n s σ H locs) (hlen : len < 10000) (hid : Ok n id (10000 + len)) {i x : Int32} (hin : vp_in i len) (hdg : decode cc pc = .ok (.iastore, 1))
    (kk : ∀ (H1 : Heap) (locs1 : List Loc), StL g n s (uI σ id i.toNatClampNeg x) H1 locs1 → W p l e R s m args below meth c H1 locs1 cells slots Q (F0 m (pc + 1) ls rest)) : W p l e R s m args below meth c H locs cells slots Q (F0 m pc ls (.int x :: .int i :: .ref (ga g id) :: rest)) := by
  have hP := v_cell S hid
  rw [elk_i _ _ _ hlen] at hP
  refine W.iast C.1 C.2.1 (hP 0 _ rfl) ((C.2.2.2.2.1.2.1.2 0 _ rfl).1 len (fun j => .int (sI σ id j))) (fun q => by cases q) (by show ¬ (i < 0 ∨ (arrV _ _ _).slots.size ≤ _); rw [arrV_size]; exact hin) rfl rfl hdg fun H1 e z oq => ?_
  refine kk H1 _ (S.one hid z oq ?_ (fun i c h => elk_uI c h) rfl (S.2.put z oq (hid.zone (by omega))))
  rw [elk_i _ _ _ hlen]
  show H1[ga g id]? = some (vp_cell _ _)
  rw [e, vp_cell_i, vp_cell_i, arrV_store, sI_upd]
  congr 2
  funext q
  by_cases hq : q = i.toNatClampNeg
  · subst hq
    simp [updV, upd]
  · simp [updV, upd, hq]
theorem v_bast (C : Cx l g p s m meth c cc nL own) (S : StL g n s σ H locs) (hlen : len < 10000) (hid : Ok n id (20000 + len)) {i x : Int32} (hin : vp_in i len) (hdg : decode cc pc = .ok (.bastore, 1))
    (kk : ∀ (H1 : Heap) (locs1 : List Loc), StL g n s (uI σ id i.toNatClampNeg (vp_nar .byte x)) H1 locs1 → W p l e R s m args below meth c H1 locs1 cells slots Q (F0 m (pc + 1) ls rest)) : W p l e R s m args below meth c H locs cells slots Q (F0 m pc ls (.int x :: .int i :: .ref (ga g id) :: rest)) := by
  have hP := v_cell S hid
  rw [elk_b _ _ _ hlen] at hP
  refine W.bast C.1 C.2.1 (hP 0 _ rfl) ((C.2.2.2.2.1.2.1.2 1 _ rfl).1 len (fun j => .int (sI σ id j))) (fun q => by cases q) (by show ¬ (i < 0 ∨ (arrV _ _ _).slots.size ≤ _); rw [arrV_size]; exact hin) rfl rfl hdg fun H1 e z oq => ?_
  refine kk H1 _ (S.one hid z oq ?_ (fun i c h => elk_uI c h) rfl (S.2.put z oq (hid.zone (by omega))))
  rw [elk_b _ _ _ hlen]
  show H1[ga g id]? = some (vp_cell _ _)
  rw [e, vp_cell_i, vp_cell_i, arrV_store, sI_upd]
  congr 2
  funext q
  by_cases hq : q = i.toNatClampNeg
  · subst hq
    simp [updV, upd, vp_nar, narrow]
  · simp [updV, upd, hq]
theorem v_zast (C : Cx l g p s m meth c cc nL own) (S : StL g n s σ H locs) (hlen : len < 10000) (hid : Ok n id (30000 + len)) {i x : Int32} (hin : vp_in i len) (hdg : decode cc pc = .ok (.bastore, 1))
    (kk : ∀ (H1 : Heap) (locs1 : List Loc), StL g n s (uI σ id i.toNatClampNeg (vp_nar .boolean x)) H1 locs1 → W p l e R s m args below meth c H1 locs1 cells slots Q (F0 m (pc + 1) ls rest)) : W p l e R s m args below meth c H locs cells slots Q (F0 m pc ls (.int x :: .int i :: .ref (ga g id) :: rest)) := by
  have hP := v_cell S hid
  rw [elk_z _ _ _ hlen] at hP
  refine W.zast C.1 C.2.1 (hP 0 _ rfl) ((C.2.2.2.2.1.2.1.2 2 _ rfl).1 len (fun j => .int (sI σ id j))) (fun q => by cases q) (by show ¬ (i < 0 ∨ (arrV _ _ _).slots.size ≤ _); rw [arrV_size]; exact hin) rfl rfl hdg fun H1 e z oq => ?_
  refine kk H1 _ (S.one hid z oq ?_ (fun i c h => elk_uI c h) rfl (S.2.put z oq (hid.zone (by omega))))
  rw [elk_z _ _ _ hlen]
  show H1[ga g id]? = some (vp_cell _ _)
  rw [e, vp_cell_i, vp_cell_i, arrV_store, sI_upd]
  congr 2
  funext q
  by_cases hq : q = i.toNatClampNeg
  · subst hq
    simp [updV, upd, vp_nar, narrow]
  · simp [updV, upd, hq]
theorem v_alen (C : Cx l g p s m meth c cc nL own) (S : StL g n s σ H locs) {kc : Nat} (hid : Ok n id kc) {x : vp_A} {t0 : Nat} {ty : FieldType} (hx : elk g kc σ id = .inl (gT g t0, x)) (hty : (tysL g)[t0]? = some (gT g t0, ty)) {v : Int32} (hv : Int32.ofNat x.1 = v) (hdg : decode cc pc = .ok (.arraylength, 1))
    (kk : W p l e R s m args below meth c H locs cells slots Q (F0 m (pc + 1) ls (.int v :: rest))) : W p l e R s m args below meth c H locs cells slots Q (F0 m pc ls (.ref (ga g id) :: rest)) := by
  have hP := v_cell S hid
  rw [hx] at hP
  exact va_alen C.1 C.2.1 C.2.2.2.2.1.2.1 hP 0 t0 rfl hty hv hdg kk
theorem v_alenI (C : Cx l g p s m meth c cc nL own) (S : StL g n s σ H locs) (hlen : len < 10000) (hid : Ok n id (10000 + len)) (hdg : decode cc pc = .ok (.arraylength, 1))
    (kk : W p l e R s m args below meth c H locs cells slots Q (F0 m (pc + 1) ls (.int (Int32.ofNat len) :: rest))) : W p l e R s m args below meth c H locs cells slots Q (F0 m pc ls (.ref (ga g id) :: rest)) := v_alen C S hid (t0 := 0) (elk_i _ _ _ hlen) rfl rfl hdg kk
theorem v_alenB (C : Cx l g p s m meth c cc nL own) (S : StL g n s σ H locs) (hlen : len < 10000) (hid : Ok n id (20000 + len)) (hdg : decode cc pc = .ok (.arraylength, 1))
    (kk : W p l e R s m args below meth c H locs cells slots Q (F0 m (pc + 1) ls (.int (Int32.ofNat len) :: rest))) : W p l e R s m args below meth c H locs cells slots Q (F0 m pc ls (.ref (ga g id) :: rest)) := v_alen C S hid (t0 := 1) (elk_b _ _ _ hlen) rfl rfl hdg kk
end VARR
end
section
/-! ===== calls and ends over the abstract state ===== -/
def CtX (l : Launch) (g : GL) (d : Nat) (y : MethodName) (b : ByteArray) (nL : Nat) (ret : Option FieldType) (n n' mc ms : Nat) (As : List Value) (σ : Sg) (post : Option Value → Sg → Prop) (px : String → Sg → Prop) : Prop :=
  vx_Met l y [Cond.code y b nL ret] (rmd d mc ms) (Pcc l g n As σ) (Qg g n' post) (Xg g n' px) mc ms (gA g)
theorem StL.low {g : GL} {n : Nat} {s : State} {σ : Sg} {H : Heap} {locs : List Loc} (hL : Low g s.heap) (S : StL g n s σ H locs) : Low g H :=
  ⟨hL.1, Nat.le_trans hL.2.1 S.2.1, fun a ha hd => by rw [S.2.2.1 a (Nat.lt_of_lt_of_le ha hL.2.1) (by have := hL.1; unfold gA; omega)]; exact hL.2.2 a ha hd⟩
theorem StL.lift {g : GL} {n n' : Nat} {s st t : State} {σ σ' : Sg} {H H1 : Heap} {locs L : List Loc} (S : StL g n s σ H locs) (h0 : st.heap = H) (e1 : H1 = t.heap) (hw : Wd g n' σ' t.heap) (hF : va_F (gA g) st t) (hL : ∀ q ∈ L, gA g q.base) : StL g n' s σ' H1 (locs ++ L) := by
  subst e1
  obtain ⟨hz, hk⟩ := hF
  rw [h0] at hz hk
  refine ⟨hw, Nat.le_trans S.2.1 hz, fun q h1 h2 => ?_, fun q hq => ?_⟩
  · rw [hk q (Nat.lt_of_lt_of_le h1 S.2.1) h2]
    exact S.2.2.1 q h1 h2
  · rcases List.mem_append.mp hq with h | h
    · exact S.2.2.2 q h
    · exact hL q h
section VCALL
variable {l : Launch} {g : GL} {p : Program} {e : Jvm.Env} {R : Room} {s : State} {m : MethodId} {args : Array Value} {below : List Frame} {meth : Method} {c : Code} {H : Heap} {locs : List Loc} {cells slots : Nat} {Q : State → Prop}
variable {cc : ByteArray} {nL : Nat} {own : String} {pc n n' d mc ms mL : Nat} {ls : Array Slot} {rest st : List Value} {σ : Sg} {id kc index : Nat} {Cn : String} {T : u_T} {N : Nat} {y : MethodName} {b : ByteArray} {ret : Option FieldType} {As : List Value} {post : Option Value → Sg → Prop} {px : String → Sg → Prop}
theorem v_go {a : Array Value} {g0 : JFrame} {g1 : Nat} (hg : g0.pc = g1 ∧ g0 = F0 m pc ls st) (hr : va_Run p l e R s m args below meth c H locs cells slots mc ms (F0 m pc ls st) rest (Qg g n' post a) (gA g)) (S : StL g n s σ H locs)
    (kk : ∀ (v : Option Value) (σ' : Sg) (H1 : Heap) (locs1 : List Loc), post v σ' → StL g n' s σ' H1 locs1 → W p l e R s m args below meth c H1 locs1 (cells + mc) (slots + ms) Q (F0 m (pc + 3) ls (v.toList ++ rest))) : W p l e R s m args below meth c H locs cells slots Q (F0 m pc ls st) := by
  intro T hT X
  obtain ⟨v, st₀, t, T', L, h0, X', hL, e1, e2, ⟨⟨v', σ', hv, hp, hw⟩, hF⟩, step⟩ := hr T hT X
  cases hv
  obtain ⟨t2, a1, b1⟩ := kk v σ' T'.heap (locs ++ L) hp (S.lift h0 e1 hw hF hL) T' rfl X'
  exact ⟨t2, step t2 a1, b1⟩
theorem v_recv (C : Cx l g p s m meth c cc nL own) (S : StL g n s σ H locs) (hid : Ok n id kc) (hc : vwCl[kc]? = some (Cn, T, N)) (hlt : kc < 10000) : ∃ cell : Cell, H[ga g id]? = some cell ∧ cell.vm.isStatics = false ∧ s.vm.findClass Cn = some cell.cls := by
  have hP := v_cell S hid
  rw [v_elk hlt] at hP
  exact va_recv C.2.2.2.2.1.2.1 hP hc (q0 := 0) rfl
theorem v_pcc (C : Cx l g p s m meth c cc nL own) (S : StL g n s σ H locs) (av : List Value) : ∀ U : State, U.heap = H → s.WarmedH U.vm → Pcc l g n av σ av.toArray U :=
  fun U hU hW => ⟨rfl, C.2.2.2.2.1.warm hW, by rw [hU]; exact S.low C.2.2.2.2.2.1, by rw [hU]; exact S.1⟩
theorem v_code (hcode : Cond.code y b mL ret ∈ BW) : ∀ w ∈ [Cond.code y b mL ret], ∀ (a' : Array Value) (U : State), s.WarmedH U.vm → (∀ w ∈ BW, va_Nw w s) → w.before a' U = true := by
  intro w hw a' U hW hE
  rw [List.mem_singleton.mp hw]
  exact wok_use (List.mem_filter.mp hcode).2 (wok_warm (List.mem_filter.mp hcode).2 hW (hE _ hcode))
/-- what a call's words come to -/
theorem v_cb (C : Cx l g p s m meth c cc nL own) (hcode : Cond.code y b mL ret ∈ BW) (hini : Cond.initialized y.cls ∈ BW) (hlink : Cond.methodLink own index y ∈ BW) (hy : y.cls ≠ "java/lang/invoke/MethodHandle" ∧ y.cls ≠ "java/lang/invoke/VarHandle") {k : Nat} (hlen : (parseMethodDescriptor y.desc).map (fun d => d.parameters.length) = some k) (hroom : d + 1 ≤ R.frames ∧ 8 + (mL + 11) + 64 * d ≤ R.locals) :
    CallB R s args own index y b mL ret [Cond.code y b mL ret] (rmd d mc ms) mc ms k :=
  ⟨rfl, rfl, hroom.1, hroom.2, fun w hw a' U hW => v_code (s := s) hcode w hw a' U hW C.2.2.2.2.1.1, List.mem_singleton.mpr rfl, C.2.2.2.2.1.w hcode, C.2.2.2.2.1.w hini, hy, fun sig h => by rw [h] at hlen; exact (Option.some.inj hlen).symm, C.2.2.2.2.1.w hlink⟩
theorem v_callV (C : Cx l g p s m meth c cc nL own) (S : StL g n s σ H locs) (hid : Ok n id kc) (hc : vwCl[kc]? = some (Cn, T, N)) (hlt : kc < 10000) (hM : Ct l g d y b mL ret n n' mc ms (.ref (ga g id) :: As) σ post)
    (hw : Cond.code y b mL ret ∈ BW ∧ Cond.initialized y.cls ∈ BW ∧ Cond.methodLink own index y ∈ BW ∧ Cond.instanceMethod y ∈ BW ∧ Cond.selects Cn y y ∈ BW) (hy : y.cls ≠ "java/lang/invoke/MethodHandle" ∧ y.cls ≠ "java/lang/invoke/VarHandle") (hlen : (parseMethodDescriptor y.desc).map (fun d => d.parameters.length) = some As.length)
    (hroom : d + 1 ≤ R.frames ∧ 8 + (mL + 11) + 64 * d ≤ R.locals) (hsize : ls.size = nL) (hst : st = As.reverse ++ .ref (ga g id) :: rest) (hW : (rest.map fun v => v.category).sum ≤ 8) (hf : cells + mc ≤ R.cells ∧ slots + ms ≤ R.slots) (hdg : decode cc pc = .ok (.invokevirtual index, 3))
    (kk : ∀ (v : Option Value) (σ' : Sg) (H1 : Heap) (locs1 : List Loc), post v σ' → StL g n' s σ' H1 locs1 → W p l e R s m args below meth c H1 locs1 (cells + mc) (slots + ms) Q (F0 m (pc + 3) ls (v.toList ++ rest))) : W p l e R s m args below meth c H locs cells slots Q (F0 m pc ls st) :=
  v_go (g0 := F0 m pc ls st) ⟨rfl, rfl⟩ (va_runV (Ts := []) ⟨C.1, C.2.1, C.2.2.1, C.2.2.2.1, fun w h => by cases h⟩ hM ⟨v_cb C hw.1 hw.2.1 hw.2.2.1 hy hlen hroom, C.2.2.2.2.1.w hw.2.2.2.1, C.2.2.2.2.1.w hw.2.2.2.2⟩ ⟨Pcc.blind, v_recv C S hid hc hlt, v_pcc C S _⟩ rfl rfl hsize hst (lv_room hW) hdg hf) S kk
theorem v_callS (C : Cx l g p s m meth c cc nL own) (S : StL g n s σ H locs) (hM : Ct l g d y b mL ret n n' mc ms As σ post)
    (hw : Cond.code y b mL ret ∈ BW ∧ Cond.initialized y.cls ∈ BW ∧ Cond.methodLink own index y ∈ BW ∧ Cond.static y ∈ BW) (hy : y.cls ≠ "java/lang/invoke/MethodHandle" ∧ y.cls ≠ "java/lang/invoke/VarHandle") (hlen : (parseMethodDescriptor y.desc).map (fun d => d.parameters.length) = some As.length)
    (hroom : d + 1 ≤ R.frames ∧ 8 + (mL + 11) + 64 * d ≤ R.locals) (hsize : ls.size = nL) (hst : st = As.reverse ++ rest) (hW : (rest.map fun v => v.category).sum ≤ 8) (hf : cells + mc ≤ R.cells ∧ slots + ms ≤ R.slots) (hdg : decode cc pc = .ok (.invokestatic index, 3))
    (kk : ∀ (v : Option Value) (σ' : Sg) (H1 : Heap) (locs1 : List Loc), post v σ' → StL g n' s σ' H1 locs1 → W p l e R s m args below meth c H1 locs1 (cells + mc) (slots + ms) Q (F0 m (pc + 3) ls (v.toList ++ rest))) : W p l e R s m args below meth c H locs cells slots Q (F0 m pc ls st) :=
  v_go (g0 := F0 m pc ls st) ⟨rfl, rfl⟩ (va_runS (Ts := []) ⟨C.1, C.2.1, C.2.2.1, C.2.2.2.1, fun w h => by cases h⟩ hM ⟨v_cb C hw.1 hw.2.1 hw.2.2.1 hy hlen hroom, C.2.2.2.2.1.w hw.2.2.2⟩ ⟨Pcc.blind, v_pcc C S _⟩ rfl rfl hsize hst (lv_room hW) hdg hf) S kk
theorem v_callSN {host : String} (C : Cx l g p s m meth c cc nL own) (S : StL g n s σ H locs) (hM : Ct l g d y b mL ret n n' mc ms As σ post)
    (hw : Cond.code y b mL ret ∈ BW ∧ Cond.initialized y.cls ∈ BW ∧ Cond.methodLinkNest own index y host ∈ BW ∧ Cond.static y ∈ BW) (hy : y.cls ≠ "java/lang/invoke/MethodHandle" ∧ y.cls ≠ "java/lang/invoke/VarHandle") (hlen : (parseMethodDescriptor y.desc).map (fun d => d.parameters.length) = some As.length)
    (hroom : d + 1 ≤ R.frames ∧ 8 + (mL + 11) + 64 * d ≤ R.locals) (hsize : ls.size = nL) (hst : st = As.reverse ++ rest) (hW : (rest.map fun v => v.category).sum ≤ 8) (hf : cells + mc ≤ R.cells ∧ slots + ms ≤ R.slots) (hdg : decode cc pc = .ok (.invokestatic index, 3))
    (kk : ∀ (v : Option Value) (σ' : Sg) (H1 : Heap) (locs1 : List Loc), post v σ' → StL g n' s σ' H1 locs1 → W p l e R s m args below meth c H1 locs1 (cells + mc) (slots + ms) Q (F0 m (pc + 3) ls (v.toList ++ rest))) : W p l e R s m args below meth c H locs cells slots Q (F0 m pc ls st) :=
  v_go (g0 := F0 m pc ls st) ⟨rfl, rfl⟩ (va_runSN (Ts := []) ⟨C.1, C.2.1, C.2.2.1, C.2.2.2.1, fun w h => by cases h⟩ hM ⟨⟨⟨rfl, rfl, hroom.1, hroom.2, fun w hw' a' U hW => v_code (s := s) hw.1 w hw' a' U hW C.2.2.2.2.1.1, List.mem_singleton.mpr rfl⟩, C.2.2.2.2.1.w hw.1, C.2.2.2.2.1.w hw.2.1, hy, fun sig h => by rw [h] at hlen; exact (Option.some.inj hlen).symm, C.2.2.2.2.1.w hw.2.2.1⟩, C.2.2.2.2.1.w hw.2.2.2, trivial⟩ ⟨Pcc.blind, v_pcc C S _⟩ rfl rfl hsize hst (lv_room hW) hdg hf) S kk
-- ends of a method that doesn't throw
theorem v_iret (C : Cx l g p s m meth c cc nL own) (S : StL g n s σ H locs) (hr : meth.sig.returnType = some .int) {v : Int32} (hp : post (some (.int v)) σ) (hdg : decode cc pc = .ok (.ireturn, 1)) : W p l e R s m args below meth c H locs cells slots (MQ below (Qg g n post) args s cells slots (gA g)) (F0 m pc ls [.int v]) :=
  W.iret C.1 C.2.1 hr (fun t ht _ => ⟨⟨_, σ, rfl, hp, by rw [ht]; exact S.1⟩, S.2.F ht⟩) S.2.2.2 hdg C.2.2.2.2.2.2
theorem v_zret (C : Cx l g p s m meth c cc nL own) (S : StL g n s σ H locs) (hr : meth.sig.returnType = some .boolean) {v : Int32} (hv : v = 0 ∨ v = 1) (hp : post (some (.int v)) σ) (hdg : decode cc pc = .ok (.ireturn, 1)) : W p l e R s m args below meth c H locs cells slots (MQ below (Qg g n post) args s cells slots (gA g)) (F0 m pc ls [.int v]) :=
  W.zret C.1 C.2.1 hr (by rcases hv with rfl | rfl <;> rfl) (fun t ht _ => ⟨⟨_, σ, rfl, hp, by rw [ht]; exact S.1⟩, S.2.F ht⟩) S.2.2.2 hdg C.2.2.2.2.2.2
theorem v_vret (C : Cx l g p s m meth c cc nL own) (S : StL g n s σ H locs) (hr : meth.sig.returnType = none) (hp : post none σ) (hdg : decode cc pc = .ok (.return_, 1)) : W p l e R s m args below meth c H locs cells slots (MQ below (Qg g n post) args s cells slots (gA g)) (F0 m pc ls []) :=
  W.vret C.1 C.2.1 hr (fun t ht _ => ⟨⟨_, σ, rfl, hp, by rw [ht]; exact S.1⟩, S.2.F ht⟩) S.2.2.2 hdg C.2.2.2.2.2.2
theorem v_aret (C : Cx l g p s m meth c cc nL own) (S : StL g n s σ H locs) {C9 : String} (hr : meth.sig.returnType = some (.object C9)) {a : Nat} (hp : post (some (.ref a)) σ) (hdg : decode cc pc = .ok (.areturn, 1)) : W p l e R s m args below meth c H locs cells slots (MQ below (Qg g n post) args s cells slots (gA g)) (F0 m pc ls [.ref a]) :=
  W.aret C.1 C.2.1 hr (Or.inl ⟨_, rfl⟩) (Or.inr ⟨_, rfl⟩) (fun t ht _ => ⟨⟨_, σ, rfl, hp, by rw [ht]; exact S.1⟩, S.2.F ht⟩) S.2.2.2 hdg C.2.2.2.2.2.2
-- calls of methods that may throw, out of methods that don't catch
theorem v_goX {post0 : Option Value → Sg → Prop} {px0 : String → Sg → Prop} {mc0 ms0 : Nat} {a : Array Value} (hr : vx_Run p l e R s m args below meth c H locs cells slots mc ms (F0 m pc ls st) rest (Qg g n' post a) (Xg g n' px) (gA g)) (C : Cx l g p s m meth c cc nL own) (S : StL g n s σ H locs)
    (hout : ∀ x ∈ c.exceptionTable.toList, covers x pc = false) (hx : ∀ E σ', px E σ' → px0 E σ') (hc0 : cells + mc ≤ mc0) (hs0 : slots + ms ≤ ms0)
    (kk : ∀ (v : Option Value) (σ' : Sg) (H1 : Heap) (locs1 : List Loc), post v σ' → StL g n' s σ' H1 locs1 → W p l e R s m args below meth c H1 locs1 (cells + mc) (slots + ms) (vx_MQ below (Qg g n' post0) (Xg g n' px0) args s mc0 ms0 (gA g)) (F0 m (pc + 3) ls (v.toList ++ rest))) : W p l e R s m args below meth c H locs cells slots (vx_MQ below (Qg g n' post0) (Xg g n' px0) args s mc0 ms0 (gA g)) (F0 m pc ls st) := by
  intro T hT X
  rcases hr T hT X with ⟨v, st₀, t, T', L, h0, X', hL, e1, e2, ⟨⟨v', σ', hv, hp, hw⟩, hF⟩, step⟩ | ⟨q, st₀, t, T', L, E, ce, h0, X', hL, e1, e2, ⟨⟨σ', hp, hw⟩, hF⟩, hce, hcv, hcl, step⟩
  · cases hv
    obtain ⟨t2, a1, b1⟩ := kk v σ' T'.heap (locs ++ L) hp (S.lift h0 e1 hw hF hL) T' rfl X'
    exact ⟨t2, step t2 a1, b1⟩
  · have S' := S.lift h0 e1 hw hF hL
    have hcell : T'.heap[q]? = some ce := by rw [e1]; exact hce
    obtain ⟨t2, a1, b1⟩ := vx_out (Qc := Qg g n' post0) (XC := Xg g n' px0) (args := args) (rest := rest) (ls := ls) hout C.2.2.2.2.2.2 hcell hcv hcl (fun u hu hv => ⟨⟨σ', hx E σ' hp, by rw [hu]; exact S'.1⟩, S'.2.F hu⟩) S'.2.2.2 hc0 hs0 T' rfl X'
    exact ⟨t2, step.trans a1, b1⟩
theorem v_callVX {post0 : Option Value → Sg → Prop} {px0 : String → Sg → Prop} {mc0 ms0 : Nat} (C : Cx l g p s m meth c cc nL own) (S : StL g n s σ H locs) (hid : Ok n id kc) (hc : vwCl[kc]? = some (Cn, T, N)) (hlt : kc < 10000) (hM : CtX l g d y b mL ret n n' mc ms (.ref (ga g id) :: As) σ post px)
    (hw : Cond.code y b mL ret ∈ BW ∧ Cond.initialized y.cls ∈ BW ∧ Cond.methodLink own index y ∈ BW ∧ Cond.instanceMethod y ∈ BW ∧ Cond.selects Cn y y ∈ BW) (hy : y.cls ≠ "java/lang/invoke/MethodHandle" ∧ y.cls ≠ "java/lang/invoke/VarHandle") (hlen : (parseMethodDescriptor y.desc).map (fun d => d.parameters.length) = some As.length)
    (hroom : d + 1 ≤ R.frames ∧ 8 + (mL + 11) + 64 * d ≤ R.locals) (hsize : ls.size = nL) (hst : st = As.reverse ++ .ref (ga g id) :: rest) (hW : (rest.map fun v => v.category).sum ≤ 8) (hf : cells + mc ≤ R.cells ∧ slots + ms ≤ R.slots) (hdg : decode cc pc = .ok (.invokevirtual index, 3))
    (hout : ∀ x ∈ c.exceptionTable.toList, covers x pc = false) (hx : ∀ E σ', px E σ' → px0 E σ') (hc0 : cells + mc ≤ mc0) (hs0 : slots + ms ≤ ms0)
    (kk : ∀ (v : Option Value) (σ' : Sg) (H1 : Heap) (locs1 : List Loc), post v σ' → StL g n' s σ' H1 locs1 → W p l e R s m args below meth c H1 locs1 (cells + mc) (slots + ms) (vx_MQ below (Qg g n' post0) (Xg g n' px0) args s mc0 ms0 (gA g)) (F0 m (pc + 3) ls (v.toList ++ rest))) : W p l e R s m args below meth c H locs cells slots (vx_MQ below (Qg g n' post0) (Xg g n' px0) args s mc0 ms0 (gA g)) (F0 m pc ls st) :=
  v_goX (vx_runV (Ts := []) ⟨C.1, C.2.1, C.2.2.1, C.2.2.2.1, fun w h => by cases h⟩ hM ⟨v_cb C hw.1 hw.2.1 hw.2.2.1 hy hlen hroom, C.2.2.2.2.1.w hw.2.2.2.1, C.2.2.2.2.1.w hw.2.2.2.2⟩ ⟨Pcc.blind, v_recv C S hid hc hlt, v_pcc C S _⟩ rfl rfl hsize hst (lv_room hW) hdg hf) C S hout hx hc0 hs0 kk
/-- throw new X("text"): ldc_w -/
theorem v_throwW {post0 : Option Value → Sg → Prop} {px0 : String → Sg → Prop} {mc0 ms0 : Nat} (C : Cx l g p s m meth c cc nL own) (S : StL g 202 s σ H locs) {cls text : String} {names : List String} {ik is ic ia : Nat} (hcls : Bundle.fit cls = true) (hnames : ∀ n ∈ names, Bundle.fit n = true)
    (hk : Cond.classLink own ik cls ∈ BW) (hini : Cond.initialized cls ∈ BW) (hstr : (own, is, text, ia) ∈ strTab) (hat : ∀ w ∈ vx_atS own ic cls names, w ∈ BW) (hgood : ∀ w ∈ Cond.classLink own ik cls :: Cond.initialized cls :: vx_atS own ic cls names, vx_ot w = true) (hsize : ls.size = nL)
    (d0 : decode cc pc = .ok (.new ik, 3)) (d3 : decode cc (pc + 3) = .ok (.dup, 1)) (d4 : decode cc (pc + 4) = .ok (.ldc_w is, 3)) (d7 : decode cc (pc + 7) = .ok (.invokespecial ic, 3)) (d10 : decode cc (pc + 10) = .ok (.athrow, 1))
    (hout : ∀ x ∈ c.exceptionTable.toList, covers x (pc + 10) = false)
    (hRf : names.length + 3 < R.frames) (hRl : (rest.map fun v => v.category).sum + (13 * (names.length + 1) + 43) ≤ R.locals) (hRc : cells + 1 ≤ R.cells) (hRs : slots + 6 ≤ R.slots) (hc0 : cells + 1 ≤ mc0) (hs0 : slots + 6 ≤ ms0) (hpx : px0 cls σ) :
    W p l e R s m args below meth c H locs cells slots (vx_MQ below (Qg g 202 post0) (Xg g 202 px0) args s mc0 ms0 (gA g)) (F0 m pc ls rest) := by
  have E := C.2.2.2.2.1
  have EX := E.x C.2.2.2.2.2.1
  refine vx_throwSW C.1 C.2.1 E.2.2.2 C.2.2.2.1 hcls hnames (E.w hk) (E.w hini) (EX.1 _ hstr) (fun w hw => E.w (hat w hw)) hgood EX.2.2.2.2.2.2.2.2.1 EX.2.2.2.2.2.2.2.2.2.1 S.2 (hsize.trans C.2.2.1.symm) d0 d3 d4 d7 d10 hout hRf hRl hRc hRs C.2.2.2.2.2.2 (fun t hv hz hq => ?_) S.2.2.2 hc0 hs0
  refine ⟨⟨σ, hpx, fun id h0 h1 => ?_, S.1.2.1, fun h => absurd h (by decide)⟩, Nat.le_trans S.2.1 hz, fun q h1 h2 => ?_⟩
  · have hh := S.1.1 id h0 h1
    exact hh.kept (hq _ hh.lt)
  · rw [hq q (Nat.lt_of_lt_of_le h1 S.2.1)]
    exact S.2.2.1 q h1 h2
end VCALL
end
section
/-! ===== once all is made: ints by cell and place; the rows that the printed walks use ===== -/
abbrev SI : Type := Nat → Nat → Int32
def up (σ : SI) (o k : Nat) (v : Int32) : SI := fun a j => if a = o ∧ j = k then v else σ a j
def mkS (σ : SI) (R : Nat → Nat → Nat) (L : Nat → Nat → Int64) : Sg := (σ, R, L, 202)
def ShR (R : Nat → Nat → Nat) : Prop := ∀ o c k d, kd o = c → fk c k = some d → Ok 202 (R o k) d
def S2 (g : GL) (s : State) (σ : SI) (R : Nat → Nat → Nat) (L : Nat → Nat → Int64) (H : Heap) (locs : List Loc) : Prop := StL g 202 s (mkS σ R L) H locs
def ck {α : Type} (i : Int32) (len : Nat) (x : Option α) : Option α := if 0 ≤ i.toInt ∧ i.toInt < len then x else none
def cd {α : Type} (y : Int32) (x : Option α) : Option α := if y = 0 then none else x
def cb {α : Type} (v : Int32) (x : Option α) : Option α := if v = 0 ∨ v = 1 then x else none
def sq {α : Type} (x : SI) (k : SI → Option α) : Option α := k x
def bd {α β : Type} (x : Option (β × SI)) (k : β → SI → Option α) : Option α := match x with
  | none => none
  | some r => k r.1 r.2
def bdX {α β : Type} (x : Option ((β ⊕ Nat) × SI)) (k : β → SI → Option ((α ⊕ Nat) × SI)) : Option ((α ⊕ Nat) × SI) := match x with
  | none => none
  | some (.inl a, σ) => k a σ
  | some (.inr e, σ) => some (.inr e, σ)
theorem ck_el {α : Type} {i : Int32} {len : Nat} {x : Option α} {r : α} (h : ck i len x = some r) : vp_in i len ∧ x = some r := by
  unfold ck at h
  by_cases c : 0 ≤ i.toInt ∧ i.toInt < len
  · rw [if_pos c] at h
    exact ⟨vp_in_iff.mpr c, h⟩
  · rw [if_neg c] at h
    cases h
theorem cd_el {α : Type} {y : Int32} {x : Option α} {r : α} (h : cd y x = some r) : ¬ y = 0 ∧ x = some r := by
  unfold cd at h
  by_cases c : y = 0
  · rw [if_pos c] at h
    cases h
  · rw [if_neg c] at h
    exact ⟨c, h⟩
theorem cb_el {α : Type} {v : Int32} {x : Option α} {r : α} (h : cb v x = some r) : (v = 0 ∨ v = 1) ∧ x = some r := by
  unfold cb at h
  by_cases c : v = 0 ∨ v = 1
  · rw [if_pos c] at h
    exact ⟨c, h⟩
  · rw [if_neg c] at h
    cases h
theorem sq_el {α : Type} {x : SI} {k : SI → Option α} {r : α} (h : sq x k = some r) : ∃ y, x = y ∧ k y = some r := ⟨x, rfl, h⟩
theorem bd_el {α β : Type} {x : Option (β × SI)} {k : β → SI → Option α} {r : α} (h : bd x k = some r) : ∃ (a : β) (σ : SI), x = some (a, σ) ∧ k a σ = some r := by
  cases x with
  | none => cases h
  | some q => exact ⟨q.1, q.2, rfl, h⟩
theorem nb_ok {x : Int32} (h : x = 0 ∨ x = 1) : narrow .boolean (.int x) = .int x ∧ fits .boolean (.int x) = true := by
  rcases h with rfl | rfl <;> exact ⟨rfl, rfl⟩
theorem bdX_el {α β : Type} {x : Option ((β ⊕ Nat) × SI)} {k : β → SI → Option ((α ⊕ Nat) × SI)} {r : (α ⊕ Nat) × SI} (h : bdX x k = some r) : (∃ (a : β) (σ : SI), x = some (.inl a, σ) ∧ k a σ = some r) ∨ ∃ (e : Nat) (σ : SI), x = some (.inr e, σ) ∧ r = (.inr e, σ) := by
  cases x with
  | none => cases h
  | some q =>
    obtain ⟨q1, q2⟩ := q
    cases q1 with
    | inl a => exact Or.inl ⟨a, q2, rfl, h⟩
    | inr e => exact Or.inr ⟨e, q2, rfl, (Option.some.inj h).symm⟩
theorem it_p {α : Type} {c : Prop} [Decidable c] {x y : Option α} {r : Option α} (hc : c) (h : (if c then x else y) = r) : x = r := (if_pos hc).symm.trans h
theorem it_n {α : Type} {c : Prop} [Decidable c] {x y : Option α} {r : Option α} (hc : ¬ c) (h : (if c then x else y) = r) : y = r := (if_neg hc).symm.trans h
def exN : Nat → String := fun k => match k with
  | 0 => "java/lang/IndexOutOfBoundsException"
  | 1 => "java/lang/IllegalArgumentException"
  | _ => "java/lang/IllegalStateException"
def PI (R : Nat → Nat → Nat) (L : Nat → Nat → Int64) (r : Int32 × SI) : Option Value → Sg → Prop := fun v σ' => v = some (.int r.1) ∧ σ' = mkS r.2 R L
def PV (R : Nat → Nat → Nat) (L : Nat → Nat → Int64) (r : Unit × SI) : Option Value → Sg → Prop := fun v σ' => v = none ∧ σ' = mkS r.2 R L
def PIX (R : Nat → Nat → Nat) (L : Nat → Nat → Int64) (r : (Int32 ⊕ Nat) × SI) : Option Value → Sg → Prop := fun v σ' => ∃ a, r.1 = .inl a ∧ v = some (.int a) ∧ σ' = mkS r.2 R L
def PVX (R : Nat → Nat → Nat) (L : Nat → Nat → Int64) (r : (Unit ⊕ Nat) × SI) : Option Value → Sg → Prop := fun v σ' => ∃ a, r.1 = .inl a ∧ v = none ∧ σ' = mkS r.2 R L
def PRX (g : GL) (d : Nat) (R : Nat → Nat → Nat) (L : Nat → Nat → Int64) (r : (Nat ⊕ Nat) × SI) : Option Value → Sg → Prop := fun v σ' => ∃ a, r.1 = .inl a ∧ v = some (.ref (ga g a)) ∧ σ' = mkS r.2 R L ∧ Ok 202 a d
def PX {α : Type} (R : Nat → Nat → Nat) (L : Nat → Nat → Int64) (r : (α ⊕ Nat) × SI) : String → Sg → Prop := fun E σ' => ∃ k, r.1 = .inr k ∧ E = exN k ∧ σ' = mkS r.2 R L
theorem vp_lt {i : Int32} {n : Nat} (h : vp_in i n) : i.toNatClampNeg < n := Nat.not_le.mp fun q => h (Or.inr q)
section W2
variable {l : Launch} {g : GL} {p : Program} {e : Jvm.Env} {R0 : Room} {s : State} {m : MethodId} {args : Array Value} {below : List Frame} {meth : Method} {c : Code} {H : Heap} {locs : List Loc} {cells slots : Nat} {Q : State → Prop}
variable {cc : ByteArray} {nL : Nat} {own : String} {pc : Nat} {ls : Array Slot} {rest : List Value} {σ : SI} {R : Nat → Nat → Nat} {L : Nat → Nat → Int64} {id kc index len : Nat} {Cn : String} {T : u_T} {N : Nat}
/-- what the rows need of a class: its tables -/
def KC (kc : Nat) (Cn : String) (T : u_T) (N : Nat) (ty0 : Nat → FieldType) : Prop := vwCl[kc]? = some (Cn, T, N) ∧ (∀ w ∈ u_ws Cn T N, w ∈ BW) ∧ (∀ k, k < N → parseFieldDescriptor (T k).2.2.1 = some (ty0 k)) ∧ (∀ a, a < N → ∀ b, b < N → a ≠ b → (T a).2.1 ≠ (T b).2.1) ∧ kc < 10000
variable {ty0 : Nat → FieldType}
theorem x_getI (C : Cx l g p s m meth c cc nL own) (S : S2 g s σ R L H locs) (K : KC kc Cn T N ty0) (hid : Ok 202 id kc) (k : Nat) (hk : k < N) (hb' : (flK kc)[k]? = some false) (hT : (T k).1 = Cn)
    (hw : Cond.fieldLink own index Cn (T k).2.1 (T k).2.2.1 ∈ BW) (hdg : decode cc pc = .ok (.getfield index, 3))
    (kk : W p l e R0 s m args below meth c H locs cells slots Q (F0 m (pc + 3) ls (.int (σ id k) :: rest))) : W p l e R0 s m args below meth c H locs cells slots Q (F0 m pc ls (.ref (ga g id) :: rest)) :=
  v_getI C S hid K.1 K.2.1 K.2.2.2.2 k hk hb' hT hw hdg kk
theorem x_getR (C : Cx l g p s m meth c cc nL own) (S : S2 g s σ R L H locs) (K : KC kc Cn T N ty0) (hid : Ok 202 id kc) (k : Nat) (hk : k < N) (hb' : (flK kc)[k]? = some true) (hT : (T k).1 = Cn)
    (hw : Cond.fieldLink own index Cn (T k).2.1 (T k).2.2.1 ∈ BW) {d : Nat} (hr : Ok 202 (R id k) d) (hdg : decode cc pc = .ok (.getfield index, 3))
    (kk : W p l e R0 s m args below meth c H locs cells slots Q (F0 m (pc + 3) ls (.ref (ga g (R id k)) :: rest))) : W p l e R0 s m args below meth c H locs cells slots Q (F0 m pc ls (.ref (ga g id) :: rest)) :=
  v_getR C S hid K.1 K.2.1 K.2.2.2.2 k hk hb' hT hw hr hdg kk
theorem x_putI (C : Cx l g p s m meth c cc nL own) (S : S2 g s σ R L H locs) (K : KC kc Cn T N ty0) (hid : Ok 202 id kc) (k : Nat) (hk : k < N) (hb' : (flK kc)[k]? = some false) (hT : (T k).1 = Cn) (hfin : (T k).2.2.2 = false) {x : Int32} (hn : narrow (ty0 k) (.int x) = .int x ∧ fits (ty0 k) (.int x) = true)
    (hw : Cond.fieldLink own index Cn (T k).2.1 (T k).2.2.1 ∈ BW) (hdg : decode cc pc = .ok (.putfield index, 3)) {σ1 : SI} (h1 : up σ id k x = σ1)
    (kk : ∀ (H1 : Heap) (locs1 : List Loc), S2 g s σ1 R L H1 locs1 → W p l e R0 s m args below meth c H1 locs1 cells slots Q (F0 m (pc + 3) ls rest)) : W p l e R0 s m args below meth c H locs cells slots Q (F0 m pc ls (.int x :: .ref (ga g id) :: rest)) := by
  subst h1
  exact v_putI C S hid K.1 K.2.1 ty0 K.2.2.1 K.2.2.2.1 K.2.2.2.2 k hk hT hfin hn.1 hn.2 hb' hw hdg kk
theorem x_iald (C : Cx l g p s m meth c cc nL own) (S : S2 g s σ R L H locs) (hlen : len < 10000) (hid : Ok 202 id (10000 + len)) {i : Int32} (hin : vp_in i len) (hdg : decode cc pc = .ok (.iaload, 1))
    (kk : W p l e R0 s m args below meth c H locs cells slots Q (F0 m (pc + 1) ls (.int (σ id i.toNatClampNeg) :: rest))) : W p l e R0 s m args below meth c H locs cells slots Q (F0 m pc ls (.int i :: .ref (ga g id) :: rest)) := v_iald C S hlen hid hin hdg kk
theorem x_bald (C : Cx l g p s m meth c cc nL own) (S : S2 g s σ R L H locs) (hlen : len < 10000) (hid : Ok 202 id (20000 + len)) {i : Int32} (hin : vp_in i len) (hdg : decode cc pc = .ok (.baload, 1))
    (kk : W p l e R0 s m args below meth c H locs cells slots Q (F0 m (pc + 1) ls (.int (σ id i.toNatClampNeg) :: rest))) : W p l e R0 s m args below meth c H locs cells slots Q (F0 m pc ls (.int i :: .ref (ga g id) :: rest)) := v_bald C S hlen hid hin hdg kk
theorem x_zald (C : Cx l g p s m meth c cc nL own) (S : S2 g s σ R L H locs) (hlen : len < 10000) (hid : Ok 202 id (30000 + len)) {i : Int32} (hin : vp_in i len) (hdg : decode cc pc = .ok (.baload, 1))
    (kk : W p l e R0 s m args below meth c H locs cells slots Q (F0 m (pc + 1) ls (.int (σ id i.toNatClampNeg) :: rest))) : W p l e R0 s m args below meth c H locs cells slots Q (F0 m pc ls (.int i :: .ref (ga g id) :: rest)) := v_zald C S hlen hid hin hdg kk
theorem x_aald (C : Cx l g p s m meth c cc nL own) (S : S2 g s σ R L H locs) (hlen : len < 10000) (t : Nat) (ht : 4 ≤ t) {Cm : String} (hty : (tysL g)[t]? = some (gT g t, .object Cm)) (hid : Ok 202 id (10000 * t + 10000 + len)) {i : Int32} (hin : vp_in i len) {d : Nat} (hr : Ok 202 (R id i.toNatClampNeg) d) (hdg : decode cc pc = .ok (.aaload, 1))
    (kk : W p l e R0 s m args below meth c H locs cells slots Q (F0 m (pc + 1) ls (.ref (ga g (R id i.toNatClampNeg)) :: rest))) : W p l e R0 s m args below meth c H locs cells slots Q (F0 m pc ls (.int i :: .ref (ga g id) :: rest)) := v_aald C S hlen t ht hty hid hin hr hdg kk
/-- a row of the rows of ints -/
theorem x_aald2 (C : Cx l g p s m meth c cc nL own) (S : S2 g s σ R L H locs) (hlen : len < 10000) (hid : Ok 202 id (80000 + len)) {i : Int32} (hin : vp_in i len) {d : Nat} (hr : Ok 202 (R id i.toNatClampNeg) d) (hdg : decode cc pc = .ok (.aaload, 1))
    (kk : W p l e R0 s m args below meth c H locs cells slots Q (F0 m (pc + 1) ls (.ref (ga g (R id i.toNatClampNeg)) :: rest))) : W p l e R0 s m args below meth c H locs cells slots Q (F0 m pc ls (.int i :: .ref (ga g id) :: rest)) := by
  have hP := v_cell S hid
  rw [show (80000 + len) = 10000 * 7 + 10000 + len by omega, elk_q 7 (by omega) _ _ _ hlen] at hP
  have hlt : i.toNatClampNeg < len := Nat.not_le.mp fun q => hin (Or.inr q)
  refine W.aald (v := va_rf (ro g (R id i.toNatClampNeg))) (ty := .array .int) C.1 C.2.1 (hP 0 _ rfl) ((C.2.2.2.2.1.2.1.2 7 _ rfl).1 len (fun j => va_rf (ro g (R id j)))) rfl (fun q => by cases q) (by show ¬ (i < 0 ∨ (arrV _ _ _).slots.size ≤ _); rw [arrV_size]; exact hin) (by show (arrV _ _ _).slots[_]? = _; rw [arrV_read _ _ hlt]; rfl) rfl rfl hdg ?_
  rw [ro_pos hr.2.1]
  exact kk
theorem x_iast (C : Cx l g p s m meth c cc nL own) (S : S2 g s σ R L H locs) (hlen : len < 10000) (hid : Ok 202 id (10000 + len)) {i x : Int32} (hin : vp_in i len) (hdg : decode cc pc = .ok (.iastore, 1)) {σ1 : SI} (h1 : up σ id i.toNatClampNeg x = σ1)
    (kk : ∀ (H1 : Heap) (locs1 : List Loc), S2 g s σ1 R L H1 locs1 → W p l e R0 s m args below meth c H1 locs1 cells slots Q (F0 m (pc + 1) ls rest)) : W p l e R0 s m args below meth c H locs cells slots Q (F0 m pc ls (.int x :: .int i :: .ref (ga g id) :: rest)) := by
  subst h1
  exact v_iast C S hlen hid hin hdg kk
theorem x_bast (C : Cx l g p s m meth c cc nL own) (S : S2 g s σ R L H locs) (hlen : len < 10000) (hid : Ok 202 id (20000 + len)) {i x : Int32} (hin : vp_in i len) (hdg : decode cc pc = .ok (.bastore, 1)) {σ1 : SI} (h1 : up σ id i.toNatClampNeg (vp_nar .byte x) = σ1)
    (kk : ∀ (H1 : Heap) (locs1 : List Loc), S2 g s σ1 R L H1 locs1 → W p l e R0 s m args below meth c H1 locs1 cells slots Q (F0 m (pc + 1) ls rest)) : W p l e R0 s m args below meth c H locs cells slots Q (F0 m pc ls (.int x :: .int i :: .ref (ga g id) :: rest)) := by
  subst h1
  exact v_bast C S hlen hid hin hdg kk
theorem x_zast (C : Cx l g p s m meth c cc nL own) (S : S2 g s σ R L H locs) (hlen : len < 10000) (hid : Ok 202 id (30000 + len)) {i x : Int32} (hin : vp_in i len) (hdg : decode cc pc = .ok (.bastore, 1)) {σ1 : SI} (h1 : up σ id i.toNatClampNeg (vp_nar .boolean x) = σ1)
    (kk : ∀ (H1 : Heap) (locs1 : List Loc), S2 g s σ1 R L H1 locs1 → W p l e R0 s m args below meth c H1 locs1 cells slots Q (F0 m (pc + 1) ls rest)) : W p l e R0 s m args below meth c H locs cells slots Q (F0 m pc ls (.int x :: .int i :: .ref (ga g id) :: rest)) := by
  subst h1
  exact v_zast C S hlen hid hin hdg kk
/-- calls of a static JDK method on ints -/
theorem x_max (C : Cx l g p s m meth c cc nL own) (hsize : ls.size = nL) (hw : Cond.methodLink own index Lib.Math.max.name ∈ BW ∧ Cond.static Lib.Math.max.name ∈ BW ∧ Cond.initialized "java/lang/Math" ∈ BW ∧ Cond.code Lib.Math.max.name Lib.Math.max.code 2 (some .int) ∈ BW) (hframes : 1 ≤ R0.frames) (hlocals : (rest.map fun v => v.category).sum + 13 ≤ R0.locals) (hc : cells ≤ R0.cells) (hs : slots ≤ R0.slots) {x y : Int32} (hdg : decode cc pc = .ok (.invokestatic index, 3))
    (kk : W p l e R0 s m args below meth c H locs cells slots Q (F0 m (pc + 3) ls (.int (if x < y then y else x) :: rest))) : W p l e R0 s m args below meth c H locs cells slots Q (F0 m pc ls (.int y :: .int x :: rest)) :=
  va_mmax C.1 C.2.1 (C.2.2.1.trans hsize.symm) C.2.2.2.1 (C.2.2.2.2.1.w hw.1) (C.2.2.2.2.1.w hw.2.1) (C.2.2.2.2.1.w hw.2.2.1) (C.2.2.2.2.1.w hw.2.2.2) hframes hlocals hc hs hdg kk
theorem x_min (C : Cx l g p s m meth c cc nL own) (hsize : ls.size = nL) (hw : Cond.methodLink own index Lib.Math.min.name ∈ BW ∧ Cond.static Lib.Math.min.name ∈ BW ∧ Cond.initialized "java/lang/Math" ∈ BW ∧ Cond.code Lib.Math.min.name Lib.Math.min.code 2 (some .int) ∈ BW) (hframes : 1 ≤ R0.frames) (hlocals : (rest.map fun v => v.category).sum + 13 ≤ R0.locals) (hc : cells ≤ R0.cells) (hs : slots ≤ R0.slots) {x y : Int32} (hdg : decode cc pc = .ok (.invokestatic index, 3))
    (kk : W p l e R0 s m args below meth c H locs cells slots Q (F0 m (pc + 3) ls (.int (if y < x then y else x) :: rest))) : W p l e R0 s m args below meth c H locs cells slots Q (F0 m pc ls (.int y :: .int x :: rest)) :=
  va_mmin C.1 C.2.1 (C.2.2.1.trans hsize.symm) C.2.2.2.1 (C.2.2.2.2.1.w hw.1) (C.2.2.2.2.1.w hw.2.1) (C.2.2.2.2.1.w hw.2.2.1) (C.2.2.2.2.1.w hw.2.2.2) hframes hlocals hc hs hdg kk
theorem x_abs (C : Cx l g p s m meth c cc nL own) (hsize : ls.size = nL) (hw : Cond.methodLink own index Lib.Math.abs.name ∈ BW ∧ Cond.static Lib.Math.abs.name ∈ BW ∧ Cond.initialized "java/lang/Math" ∈ BW ∧ Cond.code Lib.Math.abs.name Lib.Math.abs.code 1 (some .int) ∈ BW) (hframes : 1 ≤ R0.frames) (hlocals : (rest.map fun v => v.category).sum + 13 ≤ R0.locals) (hc : cells ≤ R0.cells) (hs : slots ≤ R0.slots) {x : Int32} (hdg : decode cc pc = .ok (.invokestatic index, 3))
    (kk : W p l e R0 s m args below meth c H locs cells slots Q (F0 m (pc + 3) ls (.int (if 0 ≤ x then x else 0 - x) :: rest))) : W p l e R0 s m args below meth c H locs cells slots Q (F0 m pc ls (.int x :: rest)) :=
  va_mabs C.1 C.2.1 (C.2.2.1.trans hsize.symm) C.2.2.2.1 (C.2.2.2.2.1.w hw.1) (C.2.2.2.2.1.w hw.2.1) (C.2.2.2.2.1.w hw.2.2.1) (C.2.2.2.2.1.w hw.2.2.2) hframes hlocals hc hs hdg kk
variable {mL d mc ms : Nat} {y : MethodName} {b : ByteArray} {ret : Option FieldType} {As st : List Value} {σ1 : SI} {a : Int32}
theorem x_callVI (C : Cx l g p s m meth c cc nL own) (S : S2 g s σ R L H locs) (K : KC kc Cn T N ty0) (hid : Ok 202 id kc) (hM : Ct l g d y b mL ret 202 202 mc ms (.ref (ga g id) :: As) (mkS σ R L) (PI R L (a, σ1)))
    (hw : Cond.code y b mL ret ∈ BW ∧ Cond.initialized y.cls ∈ BW ∧ Cond.methodLink own index y ∈ BW ∧ Cond.instanceMethod y ∈ BW ∧ Cond.selects Cn y y ∈ BW) (hy : y.cls ≠ "java/lang/invoke/MethodHandle" ∧ y.cls ≠ "java/lang/invoke/VarHandle") (hlen : (parseMethodDescriptor y.desc).map (fun d => d.parameters.length) = some As.length)
    (hroom : d + 1 ≤ R0.frames ∧ 8 + (mL + 11) + 64 * d ≤ R0.locals) (hsize : ls.size = nL) (hst : st = As.reverse ++ .ref (ga g id) :: rest) (hW : (rest.map fun v => v.category).sum ≤ 8) (hf : cells + mc ≤ R0.cells ∧ slots + ms ≤ R0.slots) (hdg : decode cc pc = .ok (.invokevirtual index, 3))
    (kk : ∀ (H1 : Heap) (locs1 : List Loc), S2 g s σ1 R L H1 locs1 → W p l e R0 s m args below meth c H1 locs1 (cells + mc) (slots + ms) Q (F0 m (pc + 3) ls (.int a :: rest))) : W p l e R0 s m args below meth c H locs cells slots Q (F0 m pc ls st) := by
  refine v_callV C S hid K.1 K.2.2.2.2 hM hw hy hlen hroom hsize hst hW hf hdg (fun v σ' H1 locs1 hp hS => ?_)
  obtain ⟨rfl, rfl⟩ := hp
  exact kk H1 locs1 hS
theorem x_callVV (C : Cx l g p s m meth c cc nL own) (S : S2 g s σ R L H locs) (K : KC kc Cn T N ty0) (hid : Ok 202 id kc) {u : Unit} (hM : Ct l g d y b mL ret 202 202 mc ms (.ref (ga g id) :: As) (mkS σ R L) (PV R L (u, σ1)))
    (hw : Cond.code y b mL ret ∈ BW ∧ Cond.initialized y.cls ∈ BW ∧ Cond.methodLink own index y ∈ BW ∧ Cond.instanceMethod y ∈ BW ∧ Cond.selects Cn y y ∈ BW) (hy : y.cls ≠ "java/lang/invoke/MethodHandle" ∧ y.cls ≠ "java/lang/invoke/VarHandle") (hlen : (parseMethodDescriptor y.desc).map (fun d => d.parameters.length) = some As.length)
    (hroom : d + 1 ≤ R0.frames ∧ 8 + (mL + 11) + 64 * d ≤ R0.locals) (hsize : ls.size = nL) (hst : st = As.reverse ++ .ref (ga g id) :: rest) (hW : (rest.map fun v => v.category).sum ≤ 8) (hf : cells + mc ≤ R0.cells ∧ slots + ms ≤ R0.slots) (hdg : decode cc pc = .ok (.invokevirtual index, 3))
    (kk : ∀ (H1 : Heap) (locs1 : List Loc), S2 g s σ1 R L H1 locs1 → W p l e R0 s m args below meth c H1 locs1 (cells + mc) (slots + ms) Q (F0 m (pc + 3) ls rest)) : W p l e R0 s m args below meth c H locs cells slots Q (F0 m pc ls st) := by
  refine v_callV C S hid K.1 K.2.2.2.2 hM hw hy hlen hroom hsize hst hW hf hdg (fun v σ' H1 locs1 hp hS => ?_)
  obtain ⟨rfl, rfl⟩ := hp
  exact kk H1 locs1 hS
theorem x_callSI (C : Cx l g p s m meth c cc nL own) (S : S2 g s σ R L H locs) (hM : Ct l g d y b mL ret 202 202 mc ms As (mkS σ R L) (PI R L (a, σ1)))
    (hw : Cond.code y b mL ret ∈ BW ∧ Cond.initialized y.cls ∈ BW ∧ Cond.methodLink own index y ∈ BW ∧ Cond.static y ∈ BW) (hy : y.cls ≠ "java/lang/invoke/MethodHandle" ∧ y.cls ≠ "java/lang/invoke/VarHandle") (hlen : (parseMethodDescriptor y.desc).map (fun d => d.parameters.length) = some As.length)
    (hroom : d + 1 ≤ R0.frames ∧ 8 + (mL + 11) + 64 * d ≤ R0.locals) (hsize : ls.size = nL) (hst : st = As.reverse ++ rest) (hW : (rest.map fun v => v.category).sum ≤ 8) (hf : cells + mc ≤ R0.cells ∧ slots + ms ≤ R0.slots) (hdg : decode cc pc = .ok (.invokestatic index, 3))
    (kk : ∀ (H1 : Heap) (locs1 : List Loc), S2 g s σ1 R L H1 locs1 → W p l e R0 s m args below meth c H1 locs1 (cells + mc) (slots + ms) Q (F0 m (pc + 3) ls (.int a :: rest))) : W p l e R0 s m args below meth c H locs cells slots Q (F0 m pc ls st) := by
  refine v_callS C S hM hw hy hlen hroom hsize hst hW hf hdg (fun v σ' H1 locs1 hp hS => ?_)
  obtain ⟨rfl, rfl⟩ := hp
  exact kk H1 locs1 hS
theorem x_callSV (C : Cx l g p s m meth c cc nL own) (S : S2 g s σ R L H locs) {u : Unit} (hM : Ct l g d y b mL ret 202 202 mc ms As (mkS σ R L) (PV R L (u, σ1)))
    (hw : Cond.code y b mL ret ∈ BW ∧ Cond.initialized y.cls ∈ BW ∧ Cond.methodLink own index y ∈ BW ∧ Cond.static y ∈ BW) (hy : y.cls ≠ "java/lang/invoke/MethodHandle" ∧ y.cls ≠ "java/lang/invoke/VarHandle") (hlen : (parseMethodDescriptor y.desc).map (fun d => d.parameters.length) = some As.length)
    (hroom : d + 1 ≤ R0.frames ∧ 8 + (mL + 11) + 64 * d ≤ R0.locals) (hsize : ls.size = nL) (hst : st = As.reverse ++ rest) (hW : (rest.map fun v => v.category).sum ≤ 8) (hf : cells + mc ≤ R0.cells ∧ slots + ms ≤ R0.slots) (hdg : decode cc pc = .ok (.invokestatic index, 3))
    (kk : ∀ (H1 : Heap) (locs1 : List Loc), S2 g s σ1 R L H1 locs1 → W p l e R0 s m args below meth c H1 locs1 (cells + mc) (slots + ms) Q (F0 m (pc + 3) ls rest)) : W p l e R0 s m args below meth c H locs cells slots Q (F0 m pc ls st) := by
  refine v_callS C S hM hw hy hlen hroom hsize hst hW hf hdg (fun v σ' H1 locs1 hp hS => ?_)
  obtain ⟨rfl, rfl⟩ := hp
  exact kk H1 locs1 hS
theorem x_callNI {host : String} (C : Cx l g p s m meth c cc nL own) (S : S2 g s σ R L H locs) (hM : Ct l g d y b mL ret 202 202 mc ms As (mkS σ R L) (PI R L (a, σ1)))
    (hw : Cond.code y b mL ret ∈ BW ∧ Cond.initialized y.cls ∈ BW ∧ Cond.methodLinkNest own index y host ∈ BW ∧ Cond.static y ∈ BW) (hy : y.cls ≠ "java/lang/invoke/MethodHandle" ∧ y.cls ≠ "java/lang/invoke/VarHandle") (hlen : (parseMethodDescriptor y.desc).map (fun d => d.parameters.length) = some As.length)
    (hroom : d + 1 ≤ R0.frames ∧ 8 + (mL + 11) + 64 * d ≤ R0.locals) (hsize : ls.size = nL) (hst : st = As.reverse ++ rest) (hW : (rest.map fun v => v.category).sum ≤ 8) (hf : cells + mc ≤ R0.cells ∧ slots + ms ≤ R0.slots) (hdg : decode cc pc = .ok (.invokestatic index, 3))
    (kk : ∀ (H1 : Heap) (locs1 : List Loc), S2 g s σ1 R L H1 locs1 → W p l e R0 s m args below meth c H1 locs1 (cells + mc) (slots + ms) Q (F0 m (pc + 3) ls (.int a :: rest))) : W p l e R0 s m args below meth c H locs cells slots Q (F0 m pc ls st) := by
  refine v_callSN C S hM hw hy hlen hroom hsize hst hW hf hdg (fun v σ' H1 locs1 hp hS => ?_)
  obtain ⟨rfl, rfl⟩ := hp
  exact kk H1 locs1 hS
theorem x_iret {r : Int32 × SI} (C : Cx l g p s m meth c cc nL own) (S : S2 g s σ R L H locs) (hr : meth.sig.returnType = some .int) {v : Int32} (hp : some (v, σ) = some r) (hdg : decode cc pc = .ok (.ireturn, 1)) : W p l e R0 s m args below meth c H locs cells slots (MQ below (Qg g 202 (PI R L r)) args s cells slots (gA g)) (F0 m pc ls [.int v]) :=
  v_iret C S hr (by cases hp; exact ⟨rfl, rfl⟩) hdg
theorem x_zret {r : Int32 × SI} (C : Cx l g p s m meth c cc nL own) (S : S2 g s σ R L H locs) (hr : meth.sig.returnType = some .boolean) {v : Int32} (hv : v = 0 ∨ v = 1) (hp : some (v, σ) = some r) (hdg : decode cc pc = .ok (.ireturn, 1)) : W p l e R0 s m args below meth c H locs cells slots (MQ below (Qg g 202 (PI R L r)) args s cells slots (gA g)) (F0 m pc ls [.int v]) :=
  v_zret C S hr hv (by cases hp; exact ⟨rfl, rfl⟩) hdg
theorem x_vret {r : Unit × SI} (C : Cx l g p s m meth c cc nL own) (S : S2 g s σ R L H locs) (hr : meth.sig.returnType = none) (hp : some ((), σ) = some r) (hdg : decode cc pc = .ok (.return_, 1)) : W p l e R0 s m args below meth c H locs cells slots (MQ below (Qg g 202 (PV R L r)) args s cells slots (gA g)) (F0 m pc ls []) :=
  v_vret C S hr (by cases hp; exact ⟨rfl, rfl⟩) hdg
end W2
end
section
set_option maxRecDepth 100000 in
theorem ly_0_0 : u_lay RX0 TX0 0 ∈ BW := bw_in (List.mem_of_getElem? (i := 306) (by rfl)) (by rfl)
set_option maxRecDepth 100000 in
theorem ly_0_1 : u_lay RX0 TX0 1 ∈ BW := bw_in (List.mem_of_getElem? (i := 308) (by rfl)) (by rfl)
set_option maxRecDepth 100000 in
theorem ly_0_2 : u_lay RX0 TX0 2 ∈ BW := bw_in (List.mem_of_getElem? (i := 310) (by rfl)) (by rfl)
set_option maxRecDepth 100000 in
theorem ly_0_3 : u_lay RX0 TX0 3 ∈ BW := bw_in (List.mem_of_getElem? (i := 312) (by rfl)) (by rfl)
set_option maxRecDepth 100000 in
theorem ly_0_4 : u_lay RX0 TX0 4 ∈ BW := bw_in (List.mem_of_getElem? (i := 314) (by rfl)) (by rfl)
set_option maxRecDepth 100000 in
theorem ly_0_5 : u_lay RX0 TX0 5 ∈ BW := bw_in (List.mem_of_getElem? (i := 316) (by rfl)) (by rfl)
set_option maxRecDepth 100000 in
theorem ly_0_6 : u_lay RX0 TX0 6 ∈ BW := bw_in (List.mem_of_getElem? (i := 318) (by rfl)) (by rfl)
set_option maxRecDepth 100000 in
theorem ly_0_7 : u_lay RX0 TX0 7 ∈ BW := bw_in (List.mem_of_getElem? (i := 320) (by rfl)) (by rfl)
set_option maxRecDepth 100000 in
theorem ly_0_8 : u_lay RX0 TX0 8 ∈ BW := bw_in (List.mem_of_getElem? (i := 322) (by rfl)) (by rfl)
set_option maxRecDepth 100000 in
theorem ly_0_9 : u_lay RX0 TX0 9 ∈ BW := bw_in (List.mem_of_getElem? (i := 324) (by rfl)) (by rfl)
set_option maxRecDepth 100000 in
theorem ly_0_10 : u_lay RX0 TX0 10 ∈ BW := bw_in (List.mem_of_getElem? (i := 326) (by rfl)) (by rfl)
set_option maxRecDepth 100000 in
theorem ly_0_11 : u_lay RX0 TX0 11 ∈ BW := bw_in (List.mem_of_getElem? (i := 328) (by rfl)) (by rfl)
set_option maxRecDepth 100000 in
theorem ly_0_12 : u_lay RX0 TX0 12 ∈ BW := bw_in (List.mem_of_getElem? (i := 330) (by rfl)) (by rfl)
set_option maxRecDepth 100000 in
theorem ly_0_13 : u_lay RX0 TX0 13 ∈ BW := bw_in (List.mem_of_getElem? (i := 332) (by rfl)) (by rfl)
set_option maxRecDepth 100000 in
theorem inB0 : ∀ w ∈ u_ws RX0 TX0 14, w ∈ BW := (List.forall_mem_cons.mpr ⟨ly_0_0, (List.forall_mem_cons.mpr ⟨ly_0_1, (List.forall_mem_cons.mpr ⟨ly_0_2, (List.forall_mem_cons.mpr ⟨ly_0_3, (List.forall_mem_cons.mpr ⟨ly_0_4, (List.forall_mem_cons.mpr ⟨ly_0_5, (List.forall_mem_cons.mpr ⟨ly_0_6, (List.forall_mem_cons.mpr ⟨ly_0_7, (List.forall_mem_cons.mpr ⟨ly_0_8, (List.forall_mem_cons.mpr ⟨ly_0_9, (List.forall_mem_cons.mpr ⟨ly_0_10, (List.forall_mem_cons.mpr ⟨ly_0_11, (List.forall_mem_cons.mpr ⟨ly_0_12, (List.forall_mem_cons.mpr ⟨ly_0_13, (fun _ h => absurd h List.not_mem_nil)⟩)⟩)⟩)⟩)⟩)⟩)⟩)⟩)⟩)⟩)⟩)⟩)⟩)⟩)
set_option maxRecDepth 100000 in
theorem KX0 : KC 0 RX0 TX0 14 tyX0 := ⟨rfl, inB0, tyX0_ok, nmX0, by decide⟩
set_option maxRecDepth 100000 in
theorem ly_1_0 : u_lay RX1 TX1 0 ∈ BW := bw_in (List.mem_of_getElem? (i := 183) (by rfl)) (by rfl)
set_option maxRecDepth 100000 in
theorem ly_1_1 : u_lay RX1 TX1 1 ∈ BW := bw_in (List.mem_of_getElem? (i := 185) (by rfl)) (by rfl)
set_option maxRecDepth 100000 in
theorem inB1 : ∀ w ∈ u_ws RX1 TX1 2, w ∈ BW := (List.forall_mem_cons.mpr ⟨ly_1_0, (List.forall_mem_cons.mpr ⟨ly_1_1, (fun _ h => absurd h List.not_mem_nil)⟩)⟩)
set_option maxRecDepth 100000 in
theorem KX1 : KC 1 RX1 TX1 2 tyX1 := ⟨rfl, inB1, tyX1_ok, nmX1, by decide⟩
set_option maxRecDepth 100000 in
theorem ly_2_0 : u_lay RX2 TX2 0 ∈ BW := bw_in (List.mem_of_getElem? (i := 125) (by rfl)) (by rfl)
set_option maxRecDepth 100000 in
theorem ly_2_1 : u_lay RX2 TX2 1 ∈ BW := bw_in (List.mem_of_getElem? (i := 127) (by rfl)) (by rfl)
set_option maxRecDepth 100000 in
theorem ly_2_2 : u_lay RX2 TX2 2 ∈ BW := bw_in (List.mem_of_getElem? (i := 129) (by rfl)) (by rfl)
set_option maxRecDepth 100000 in
theorem inB2 : ∀ w ∈ u_ws RX2 TX2 3, w ∈ BW := (List.forall_mem_cons.mpr ⟨ly_2_0, (List.forall_mem_cons.mpr ⟨ly_2_1, (List.forall_mem_cons.mpr ⟨ly_2_2, (fun _ h => absurd h List.not_mem_nil)⟩)⟩)⟩)
set_option maxRecDepth 100000 in
theorem KX2 : KC 2 RX2 TX2 3 tyX2 := ⟨rfl, inB2, tyX2_ok, nmX2, by decide⟩
set_option maxRecDepth 100000 in
theorem ly_3_0 : u_lay RX3 TX3 0 ∈ BW := bw_in (List.mem_of_getElem? (i := 200) (by rfl)) (by rfl)
set_option maxRecDepth 100000 in
theorem ly_3_1 : u_lay RX3 TX3 1 ∈ BW := bw_in (List.mem_of_getElem? (i := 202) (by rfl)) (by rfl)
set_option maxRecDepth 100000 in
theorem ly_3_2 : u_lay RX3 TX3 2 ∈ BW := bw_in (List.mem_of_getElem? (i := 204) (by rfl)) (by rfl)
set_option maxRecDepth 100000 in
theorem inB3 : ∀ w ∈ u_ws RX3 TX3 3, w ∈ BW := (List.forall_mem_cons.mpr ⟨ly_3_0, (List.forall_mem_cons.mpr ⟨ly_3_1, (List.forall_mem_cons.mpr ⟨ly_3_2, (fun _ h => absurd h List.not_mem_nil)⟩)⟩)⟩)
set_option maxRecDepth 100000 in
theorem KX3 : KC 3 RX3 TX3 3 tyX3 := ⟨rfl, inB3, tyX3_ok, nmX3, by decide⟩
set_option maxRecDepth 100000 in
theorem ly_4_0 : u_lay RX4 TX4 0 ∈ BW := bw_in (List.mem_of_getElem? (i := 235) (by rfl)) (by rfl)
set_option maxRecDepth 100000 in
theorem ly_4_1 : u_lay RX4 TX4 1 ∈ BW := bw_in (List.mem_of_getElem? (i := 237) (by rfl)) (by rfl)
set_option maxRecDepth 100000 in
theorem ly_4_2 : u_lay RX4 TX4 2 ∈ BW := bw_in (List.mem_of_getElem? (i := 239) (by rfl)) (by rfl)
set_option maxRecDepth 100000 in
theorem ly_4_3 : u_lay RX4 TX4 3 ∈ BW := bw_in (List.mem_of_getElem? (i := 241) (by rfl)) (by rfl)
set_option maxRecDepth 100000 in
theorem ly_4_4 : u_lay RX4 TX4 4 ∈ BW := bw_in (List.mem_of_getElem? (i := 243) (by rfl)) (by rfl)
set_option maxRecDepth 100000 in
theorem ly_4_5 : u_lay RX4 TX4 5 ∈ BW := bw_in (List.mem_of_getElem? (i := 245) (by rfl)) (by rfl)
set_option maxRecDepth 100000 in
theorem inB4 : ∀ w ∈ u_ws RX4 TX4 6, w ∈ BW := (List.forall_mem_cons.mpr ⟨ly_4_0, (List.forall_mem_cons.mpr ⟨ly_4_1, (List.forall_mem_cons.mpr ⟨ly_4_2, (List.forall_mem_cons.mpr ⟨ly_4_3, (List.forall_mem_cons.mpr ⟨ly_4_4, (List.forall_mem_cons.mpr ⟨ly_4_5, (fun _ h => absurd h List.not_mem_nil)⟩)⟩)⟩)⟩)⟩)⟩)
set_option maxRecDepth 100000 in
theorem KX4 : KC 4 RX4 TX4 6 tyX4 := ⟨rfl, inB4, tyX4_ok, nmX4, by decide⟩
set_option maxRecDepth 100000 in
theorem ly_5_0 : u_lay RX5 TX5 0 ∈ BW := bw_in (List.mem_of_getElem? (i := 111) (by rfl)) (by rfl)
set_option maxRecDepth 100000 in
theorem inB5 : ∀ w ∈ u_ws RX5 TX5 1, w ∈ BW := (List.forall_mem_cons.mpr ⟨ly_5_0, (fun _ h => absurd h List.not_mem_nil)⟩)
set_option maxRecDepth 100000 in
theorem KX5 : KC 5 RX5 TX5 1 tyX5 := ⟨rfl, inB5, tyX5_ok, nmX5, by decide⟩
set_option maxRecDepth 100000 in
theorem ly_6_0 : u_lay RX6 TX6 0 ∈ BW := bw_in (List.mem_of_getElem? (i := 148) (by rfl)) (by rfl)
set_option maxRecDepth 100000 in
theorem ly_6_1 : u_lay RX6 TX6 1 ∈ BW := bw_in (List.mem_of_getElem? (i := 150) (by rfl)) (by rfl)
set_option maxRecDepth 100000 in
theorem ly_6_2 : u_lay RX6 TX6 2 ∈ BW := bw_in (List.mem_of_getElem? (i := 152) (by rfl)) (by rfl)
set_option maxRecDepth 100000 in
theorem ly_6_3 : u_lay RX6 TX6 3 ∈ BW := bw_in (List.mem_of_getElem? (i := 154) (by rfl)) (by rfl)
set_option maxRecDepth 100000 in
theorem ly_6_4 : u_lay RX6 TX6 4 ∈ BW := bw_in (List.mem_of_getElem? (i := 156) (by rfl)) (by rfl)
set_option maxRecDepth 100000 in
theorem ly_6_5 : u_lay RX6 TX6 5 ∈ BW := bw_in (List.mem_of_getElem? (i := 158) (by rfl)) (by rfl)
set_option maxRecDepth 100000 in
theorem inB6 : ∀ w ∈ u_ws RX6 TX6 6, w ∈ BW := (List.forall_mem_cons.mpr ⟨ly_6_0, (List.forall_mem_cons.mpr ⟨ly_6_1, (List.forall_mem_cons.mpr ⟨ly_6_2, (List.forall_mem_cons.mpr ⟨ly_6_3, (List.forall_mem_cons.mpr ⟨ly_6_4, (List.forall_mem_cons.mpr ⟨ly_6_5, (fun _ h => absurd h List.not_mem_nil)⟩)⟩)⟩)⟩)⟩)⟩)
set_option maxRecDepth 100000 in
theorem KX6 : KC 6 RX6 TX6 6 tyX6 := ⟨rfl, inB6, tyX6_ok, nmX6, by decide⟩
set_option maxRecDepth 100000 in
theorem ly_7_0 : u_lay RX7 TX7 0 ∈ BW := bw_in (List.mem_of_getElem? (i := 261) (by rfl)) (by rfl)
set_option maxRecDepth 100000 in
theorem ly_7_1 : u_lay RX7 TX7 1 ∈ BW := bw_in (List.mem_of_getElem? (i := 263) (by rfl)) (by rfl)
set_option maxRecDepth 100000 in
theorem ly_7_2 : u_lay RX7 TX7 2 ∈ BW := bw_in (List.mem_of_getElem? (i := 265) (by rfl)) (by rfl)
set_option maxRecDepth 100000 in
theorem ly_7_3 : u_lay RX7 TX7 3 ∈ BW := bw_in (List.mem_of_getElem? (i := 267) (by rfl)) (by rfl)
set_option maxRecDepth 100000 in
theorem inB7 : ∀ w ∈ u_ws RX7 TX7 4, w ∈ BW := (List.forall_mem_cons.mpr ⟨ly_7_0, (List.forall_mem_cons.mpr ⟨ly_7_1, (List.forall_mem_cons.mpr ⟨ly_7_2, (List.forall_mem_cons.mpr ⟨ly_7_3, (fun _ h => absurd h List.not_mem_nil)⟩)⟩)⟩)⟩)
set_option maxRecDepth 100000 in
theorem KX7 : KC 7 RX7 TX7 4 tyX7 := ⟨rfl, inB7, tyX7_ok, nmX7, by decide⟩
set_option maxRecDepth 100000 in
theorem ly_8_0 : u_lay RX8 TX8 0 ∈ BW := bw_in (List.mem_of_getElem? (i := 171) (by rfl)) (by rfl)
set_option maxRecDepth 100000 in
theorem ly_8_1 : u_lay RX8 TX8 1 ∈ BW := bw_in (List.mem_of_getElem? (i := 173) (by rfl)) (by rfl)
set_option maxRecDepth 100000 in
theorem inB8 : ∀ w ∈ u_ws RX8 TX8 2, w ∈ BW := (List.forall_mem_cons.mpr ⟨ly_8_0, (List.forall_mem_cons.mpr ⟨ly_8_1, (fun _ h => absurd h List.not_mem_nil)⟩)⟩)
set_option maxRecDepth 100000 in
theorem KX8 : KC 8 RX8 TX8 2 tyX8 := ⟨rfl, inB8, tyX8_ok, nmX8, by decide⟩
set_option maxRecDepth 100000 in
theorem ly_9_0 : u_lay RX9 TX9 0 ∈ BW := bw_in (List.mem_of_getElem? (i := 391) (by rfl)) (by rfl)
set_option maxRecDepth 100000 in
theorem ly_9_1 : u_lay RX9 TX9 1 ∈ BW := bw_in (List.mem_of_getElem? (i := 393) (by rfl)) (by rfl)
set_option maxRecDepth 100000 in
theorem ly_9_2 : u_lay RX9 TX9 2 ∈ BW := bw_in (List.mem_of_getElem? (i := 395) (by rfl)) (by rfl)
set_option maxRecDepth 100000 in
theorem ly_9_3 : u_lay RX9 TX9 3 ∈ BW := bw_in (List.mem_of_getElem? (i := 397) (by rfl)) (by rfl)
set_option maxRecDepth 100000 in
theorem ly_9_4 : u_lay RX9 TX9 4 ∈ BW := bw_in (List.mem_of_getElem? (i := 399) (by rfl)) (by rfl)
set_option maxRecDepth 100000 in
theorem ly_9_5 : u_lay RX9 TX9 5 ∈ BW := bw_in (List.mem_of_getElem? (i := 401) (by rfl)) (by rfl)
set_option maxRecDepth 100000 in
theorem ly_9_6 : u_lay RX9 TX9 6 ∈ BW := bw_in (List.mem_of_getElem? (i := 403) (by rfl)) (by rfl)
set_option maxRecDepth 100000 in
theorem ly_9_7 : u_lay RX9 TX9 7 ∈ BW := bw_in (List.mem_of_getElem? (i := 405) (by rfl)) (by rfl)
set_option maxRecDepth 100000 in
theorem ly_9_8 : u_lay RX9 TX9 8 ∈ BW := bw_in (List.mem_of_getElem? (i := 407) (by rfl)) (by rfl)
set_option maxRecDepth 100000 in
theorem ly_9_9 : u_lay RX9 TX9 9 ∈ BW := bw_in (List.mem_of_getElem? (i := 409) (by rfl)) (by rfl)
set_option maxRecDepth 100000 in
theorem ly_9_10 : u_lay RX9 TX9 10 ∈ BW := bw_in (List.mem_of_getElem? (i := 411) (by rfl)) (by rfl)
set_option maxRecDepth 100000 in
theorem ly_9_11 : u_lay RX9 TX9 11 ∈ BW := bw_in (List.mem_of_getElem? (i := 413) (by rfl)) (by rfl)
set_option maxRecDepth 100000 in
theorem ly_9_12 : u_lay RX9 TX9 12 ∈ BW := bw_in (List.mem_of_getElem? (i := 415) (by rfl)) (by rfl)
set_option maxRecDepth 100000 in
theorem ly_9_13 : u_lay RX9 TX9 13 ∈ BW := bw_in (List.mem_of_getElem? (i := 417) (by rfl)) (by rfl)
set_option maxRecDepth 100000 in
theorem ly_9_14 : u_lay RX9 TX9 14 ∈ BW := bw_in (List.mem_of_getElem? (i := 419) (by rfl)) (by rfl)
set_option maxRecDepth 100000 in
theorem ly_9_15 : u_lay RX9 TX9 15 ∈ BW := bw_in (List.mem_of_getElem? (i := 421) (by rfl)) (by rfl)
set_option maxRecDepth 100000 in
theorem ly_9_16 : u_lay RX9 TX9 16 ∈ BW := bw_in (List.mem_of_getElem? (i := 423) (by rfl)) (by rfl)
set_option maxRecDepth 100000 in
theorem ly_9_17 : u_lay RX9 TX9 17 ∈ BW := bw_in (List.mem_of_getElem? (i := 425) (by rfl)) (by rfl)
set_option maxRecDepth 100000 in
theorem inB9 : ∀ w ∈ u_ws RX9 TX9 18, w ∈ BW := (List.forall_mem_cons.mpr ⟨ly_9_0, (List.forall_mem_cons.mpr ⟨ly_9_1, (List.forall_mem_cons.mpr ⟨ly_9_2, (List.forall_mem_cons.mpr ⟨ly_9_3, (List.forall_mem_cons.mpr ⟨ly_9_4, (List.forall_mem_cons.mpr ⟨ly_9_5, (List.forall_mem_cons.mpr ⟨ly_9_6, (List.forall_mem_cons.mpr ⟨ly_9_7, (List.forall_mem_cons.mpr ⟨ly_9_8, (List.forall_mem_cons.mpr ⟨ly_9_9, (List.forall_mem_cons.mpr ⟨ly_9_10, (List.forall_mem_cons.mpr ⟨ly_9_11, (List.forall_mem_cons.mpr ⟨ly_9_12, (List.forall_mem_cons.mpr ⟨ly_9_13, (List.forall_mem_cons.mpr ⟨ly_9_14, (List.forall_mem_cons.mpr ⟨ly_9_15, (List.forall_mem_cons.mpr ⟨ly_9_16, (List.forall_mem_cons.mpr ⟨ly_9_17, (fun _ h => absurd h List.not_mem_nil)⟩)⟩)⟩)⟩)⟩)⟩)⟩)⟩)⟩)⟩)⟩)⟩)⟩)⟩)⟩)⟩)⟩)⟩)
set_option maxRecDepth 100000 in
theorem KX9 : KC 9 RX9 TX9 18 tyX9 := ⟨rfl, inB9, tyX9_ok, nmX9, by decide⟩
set_option maxRecDepth 100000 in
theorem ly_10_0 : u_lay RX10 TX10 0 ∈ BW := bw_in (List.mem_of_getElem? (i := 97) (by rfl)) (by rfl)
set_option maxRecDepth 100000 in
theorem ly_10_1 : u_lay RX10 TX10 1 ∈ BW := bw_in (List.mem_of_getElem? (i := 99) (by rfl)) (by rfl)
set_option maxRecDepth 100000 in
theorem ly_10_2 : u_lay RX10 TX10 2 ∈ BW := bw_in (List.mem_of_getElem? (i := 101) (by rfl)) (by rfl)
set_option maxRecDepth 100000 in
theorem ly_10_3 : u_lay RX10 TX10 3 ∈ BW := bw_in (List.mem_of_getElem? (i := 103) (by rfl)) (by rfl)
set_option maxRecDepth 100000 in
theorem ly_10_4 : u_lay RX10 TX10 4 ∈ BW := bw_in (List.mem_of_getElem? (i := 105) (by rfl)) (by rfl)
set_option maxRecDepth 100000 in
theorem inB10 : ∀ w ∈ u_ws RX10 TX10 5, w ∈ BW := (List.forall_mem_cons.mpr ⟨ly_10_0, (List.forall_mem_cons.mpr ⟨ly_10_1, (List.forall_mem_cons.mpr ⟨ly_10_2, (List.forall_mem_cons.mpr ⟨ly_10_3, (List.forall_mem_cons.mpr ⟨ly_10_4, (fun _ h => absurd h List.not_mem_nil)⟩)⟩)⟩)⟩)⟩)
set_option maxRecDepth 100000 in
theorem KX10 : KC 10 RX10 TX10 5 tyX10 := ⟨rfl, inB10, tyX10_ok, nmX10, by decide⟩
set_option maxRecDepth 100000 in
theorem ly_11_0 : u_lay RX11 TX11 0 ∈ BW := bw_in (List.mem_of_getElem? (i := 438) (by rfl)) (by rfl)
set_option maxRecDepth 100000 in
theorem ly_11_1 : u_lay RX11 TX11 1 ∈ BW := bw_in (List.mem_of_getElem? (i := 440) (by rfl)) (by rfl)
set_option maxRecDepth 100000 in
theorem ly_11_2 : u_lay RX11 TX11 2 ∈ BW := bw_in (List.mem_of_getElem? (i := 442) (by rfl)) (by rfl)
set_option maxRecDepth 100000 in
theorem ly_11_3 : u_lay RX11 TX11 3 ∈ BW := bw_in (List.mem_of_getElem? (i := 444) (by rfl)) (by rfl)
set_option maxRecDepth 100000 in
theorem ly_11_4 : u_lay RX11 TX11 4 ∈ BW := bw_in (List.mem_of_getElem? (i := 446) (by rfl)) (by rfl)
set_option maxRecDepth 100000 in
theorem ly_11_5 : u_lay RX11 TX11 5 ∈ BW := bw_in (List.mem_of_getElem? (i := 448) (by rfl)) (by rfl)
set_option maxRecDepth 100000 in
theorem ly_11_6 : u_lay RX11 TX11 6 ∈ BW := bw_in (List.mem_of_getElem? (i := 450) (by rfl)) (by rfl)
set_option maxRecDepth 100000 in
theorem ly_11_7 : u_lay RX11 TX11 7 ∈ BW := bw_in (List.mem_of_getElem? (i := 452) (by rfl)) (by rfl)
set_option maxRecDepth 100000 in
theorem ly_11_8 : u_lay RX11 TX11 8 ∈ BW := bw_in (List.mem_of_getElem? (i := 454) (by rfl)) (by rfl)
set_option maxRecDepth 100000 in
theorem ly_11_9 : u_lay RX11 TX11 9 ∈ BW := bw_in (List.mem_of_getElem? (i := 456) (by rfl)) (by rfl)
set_option maxRecDepth 100000 in
theorem inB11 : ∀ w ∈ u_ws RX11 TX11 10, w ∈ BW := (List.forall_mem_cons.mpr ⟨ly_11_0, (List.forall_mem_cons.mpr ⟨ly_11_1, (List.forall_mem_cons.mpr ⟨ly_11_2, (List.forall_mem_cons.mpr ⟨ly_11_3, (List.forall_mem_cons.mpr ⟨ly_11_4, (List.forall_mem_cons.mpr ⟨ly_11_5, (List.forall_mem_cons.mpr ⟨ly_11_6, (List.forall_mem_cons.mpr ⟨ly_11_7, (List.forall_mem_cons.mpr ⟨ly_11_8, (List.forall_mem_cons.mpr ⟨ly_11_9, (fun _ h => absurd h List.not_mem_nil)⟩)⟩)⟩)⟩)⟩)⟩)⟩)⟩)⟩)⟩)
set_option maxRecDepth 100000 in
theorem KX11 : KC 11 RX11 TX11 10 tyX11 := ⟨rfl, inB11, tyX11_ok, nmX11, by decide⟩
set_option maxRecDepth 100000 in
theorem ly_12_0 : u_lay RX12 TX12 0 ∈ BW := bw_in (List.mem_of_getElem? (i := 861) (by rfl)) (by rfl)
set_option maxRecDepth 100000 in
theorem ly_12_1 : u_lay RX12 TX12 1 ∈ BW := bw_in (List.mem_of_getElem? (i := 863) (by rfl)) (by rfl)
set_option maxRecDepth 100000 in
theorem ly_12_2 : u_lay RX12 TX12 2 ∈ BW := bw_in (List.mem_of_getElem? (i := 865) (by rfl)) (by rfl)
set_option maxRecDepth 100000 in
theorem ly_12_3 : u_lay RX12 TX12 3 ∈ BW := bw_in (List.mem_of_getElem? (i := 867) (by rfl)) (by rfl)
set_option maxRecDepth 100000 in
theorem ly_12_4 : u_lay RX12 TX12 4 ∈ BW := bw_in (List.mem_of_getElem? (i := 869) (by rfl)) (by rfl)
set_option maxRecDepth 100000 in
theorem ly_12_5 : u_lay RX12 TX12 5 ∈ BW := bw_in (List.mem_of_getElem? (i := 871) (by rfl)) (by rfl)
set_option maxRecDepth 100000 in
theorem ly_12_6 : u_lay RX12 TX12 6 ∈ BW := bw_in (List.mem_of_getElem? (i := 873) (by rfl)) (by rfl)
set_option maxRecDepth 100000 in
theorem ly_12_7 : u_lay RX12 TX12 7 ∈ BW := bw_in (List.mem_of_getElem? (i := 875) (by rfl)) (by rfl)
set_option maxRecDepth 100000 in
theorem ly_12_8 : u_lay RX12 TX12 8 ∈ BW := bw_in (List.mem_of_getElem? (i := 877) (by rfl)) (by rfl)
set_option maxRecDepth 100000 in
theorem ly_12_9 : u_lay RX12 TX12 9 ∈ BW := bw_in (List.mem_of_getElem? (i := 879) (by rfl)) (by rfl)
set_option maxRecDepth 100000 in
theorem ly_12_10 : u_lay RX12 TX12 10 ∈ BW := bw_in (List.mem_of_getElem? (i := 881) (by rfl)) (by rfl)
set_option maxRecDepth 100000 in
theorem ly_12_11 : u_lay RX12 TX12 11 ∈ BW := bw_in (List.mem_of_getElem? (i := 883) (by rfl)) (by rfl)
set_option maxRecDepth 100000 in
theorem ly_12_12 : u_lay RX12 TX12 12 ∈ BW := bw_in (List.mem_of_getElem? (i := 885) (by rfl)) (by rfl)
set_option maxRecDepth 100000 in
theorem ly_12_13 : u_lay RX12 TX12 13 ∈ BW := bw_in (List.mem_of_getElem? (i := 887) (by rfl)) (by rfl)
set_option maxRecDepth 100000 in
theorem ly_12_14 : u_lay RX12 TX12 14 ∈ BW := bw_in (List.mem_of_getElem? (i := 889) (by rfl)) (by rfl)
set_option maxRecDepth 100000 in
theorem ly_12_15 : u_lay RX12 TX12 15 ∈ BW := bw_in (List.mem_of_getElem? (i := 891) (by rfl)) (by rfl)
set_option maxRecDepth 100000 in
theorem ly_12_16 : u_lay RX12 TX12 16 ∈ BW := bw_in (List.mem_of_getElem? (i := 893) (by rfl)) (by rfl)
set_option maxRecDepth 100000 in
theorem ly_12_17 : u_lay RX12 TX12 17 ∈ BW := bw_in (List.mem_of_getElem? (i := 895) (by rfl)) (by rfl)
set_option maxRecDepth 100000 in
theorem ly_12_18 : u_lay RX12 TX12 18 ∈ BW := bw_in (List.mem_of_getElem? (i := 897) (by rfl)) (by rfl)
set_option maxRecDepth 100000 in
theorem ly_12_19 : u_lay RX12 TX12 19 ∈ BW := bw_in (List.mem_of_getElem? (i := 899) (by rfl)) (by rfl)
set_option maxRecDepth 100000 in
theorem ly_12_20 : u_lay RX12 TX12 20 ∈ BW := bw_in (List.mem_of_getElem? (i := 901) (by rfl)) (by rfl)
set_option maxRecDepth 100000 in
theorem ly_12_21 : u_lay RX12 TX12 21 ∈ BW := bw_in (List.mem_of_getElem? (i := 903) (by rfl)) (by rfl)
set_option maxRecDepth 100000 in
theorem ly_12_22 : u_lay RX12 TX12 22 ∈ BW := bw_in (List.mem_of_getElem? (i := 905) (by rfl)) (by rfl)
set_option maxRecDepth 100000 in
theorem ly_12_23 : u_lay RX12 TX12 23 ∈ BW := bw_in (List.mem_of_getElem? (i := 907) (by rfl)) (by rfl)
set_option maxRecDepth 100000 in
theorem ly_12_24 : u_lay RX12 TX12 24 ∈ BW := bw_in (List.mem_of_getElem? (i := 909) (by rfl)) (by rfl)
set_option maxRecDepth 100000 in
theorem ly_12_25 : u_lay RX12 TX12 25 ∈ BW := bw_in (List.mem_of_getElem? (i := 911) (by rfl)) (by rfl)
set_option maxRecDepth 100000 in
theorem ly_12_26 : u_lay RX12 TX12 26 ∈ BW := bw_in (List.mem_of_getElem? (i := 913) (by rfl)) (by rfl)
set_option maxRecDepth 100000 in
theorem inB12 : ∀ w ∈ u_ws RX12 TX12 27, w ∈ BW := (List.forall_mem_cons.mpr ⟨ly_12_0, (List.forall_mem_cons.mpr ⟨ly_12_1, (List.forall_mem_cons.mpr ⟨ly_12_2, (List.forall_mem_cons.mpr ⟨ly_12_3, (List.forall_mem_cons.mpr ⟨ly_12_4, (List.forall_mem_cons.mpr ⟨ly_12_5, (List.forall_mem_cons.mpr ⟨ly_12_6, (List.forall_mem_cons.mpr ⟨ly_12_7, (List.forall_mem_cons.mpr ⟨ly_12_8, (List.forall_mem_cons.mpr ⟨ly_12_9, (List.forall_mem_cons.mpr ⟨ly_12_10, (List.forall_mem_cons.mpr ⟨ly_12_11, (List.forall_mem_cons.mpr ⟨ly_12_12, (List.forall_mem_cons.mpr ⟨ly_12_13, (List.forall_mem_cons.mpr ⟨ly_12_14, (List.forall_mem_cons.mpr ⟨ly_12_15, (List.forall_mem_cons.mpr ⟨ly_12_16, (List.forall_mem_cons.mpr ⟨ly_12_17, (List.forall_mem_cons.mpr ⟨ly_12_18, (List.forall_mem_cons.mpr ⟨ly_12_19, (List.forall_mem_cons.mpr ⟨ly_12_20, (List.forall_mem_cons.mpr ⟨ly_12_21, (List.forall_mem_cons.mpr ⟨ly_12_22, (List.forall_mem_cons.mpr ⟨ly_12_23, (List.forall_mem_cons.mpr ⟨ly_12_24, (List.forall_mem_cons.mpr ⟨ly_12_25, (List.forall_mem_cons.mpr ⟨ly_12_26, (fun _ h => absurd h List.not_mem_nil)⟩)⟩)⟩)⟩)⟩)⟩)⟩)⟩)⟩)⟩)⟩)⟩)⟩)⟩)⟩)⟩)⟩)⟩)⟩)⟩)⟩)⟩)⟩)⟩)⟩)⟩)⟩)
set_option maxRecDepth 100000 in
theorem KX12 : KC 12 RX12 TX12 27 tyX12 := ⟨rfl, inB12, tyX12_ok, nmX12, by decide⟩
set_option maxRecDepth 100000 in
theorem ly_13_0 : u_lay RX13 TX13 0 ∈ BW := bw_in (List.mem_of_getElem? (i := 923) (by rfl)) (by rfl)
set_option maxRecDepth 100000 in
theorem inB13 : ∀ w ∈ u_ws RX13 TX13 1, w ∈ BW := (List.forall_mem_cons.mpr ⟨ly_13_0, (fun _ h => absurd h List.not_mem_nil)⟩)
set_option maxRecDepth 100000 in
theorem KX13 : KC 13 RX13 TX13 1 tyX13 := ⟨rfl, inB13, tyX13_ok, nmX13, by decide⟩
set_option maxRecDepth 100000 in
theorem fl_RX11_10 : Cond.fieldLink RX11 10 "BlastPlanner" "parser" "LBlastPlanner$Parser;" ∈ BW := bw_in (List.mem_of_getElem? (i := 428) (by rfl)) (by rfl)
set_option maxRecDepth 100000 in
theorem fl_RX11_68 : Cond.fieldLink RX11 68 "BlastPlanner$Parser" "tokens" "LBlastPlanner$Tokens;" ∈ BW := bw_in (List.mem_of_getElem? (i := 110) (by rfl)) (by rfl)
set_option maxRecDepth 100000 in
theorem fl_RX11_82 : Cond.fieldLink RX11 82 "BlastPlanner$Tokens" "length" "I" ∈ BW := bw_in (List.mem_of_getElem? (i := 91) (by rfl)) (by rfl)
set_option maxRecDepth 100000 in
theorem fl_RX11_112 : Cond.fieldLink RX11 112 "BlastPlanner$Tokens" "wrongKind" "I" ∈ BW := bw_in (List.mem_of_getElem? (i := 96) (by rfl)) (by rfl)
set_option maxRecDepth 100000 in
theorem cl_RX11_356 : Cond.classLink RX11 356 "java/lang/IndexOutOfBoundsException" ∈ BW := bw_in (List.mem_of_getElem? (i := 1139) (by rfl)) (by rfl)
set_option maxRecDepth 100000 in
theorem ni_ex0 : Cond.initialized "java/lang/IndexOutOfBoundsException" ∈ BW := bw_in (List.mem_of_getElem? (i := 67) (by rfl)) (by rfl)
set_option maxRecDepth 100000 in
theorem fl_RX11_61 : Cond.fieldLink RX11 61 "BlastPlanner" "site" "LBlastPlanner$Site;" ∈ BW := bw_in (List.mem_of_getElem? (i := 436) (by rfl)) (by rfl)
set_option maxRecDepth 100000 in
theorem fl_RX11_106 : Cond.fieldLink RX11 106 "BlastPlanner$Site" "blastTotal" "I" ∈ BW := bw_in (List.mem_of_getElem? (i := 376) (by rfl)) (by rfl)
set_option maxRecDepth 100000 in
theorem cd_X11_needBlast : Cond.code yX11_needBlast cX11_needBlast 2 none ∈ BW := bw_in (List.mem_of_getElem? (i := 1138) (by rfl)) (by rfl)
set_option maxRecDepth 100000 in
theorem ni_RX11 : Cond.initialized RX11 ∈ BW := bw_in (List.mem_of_getElem? (i := 38) (by rfl)) (by rfl)
set_option maxRecDepth 100000 in
theorem ml_RX11_225 : Cond.methodLink RX11 225 yX11_needBlast ∈ BW := bw_in (List.mem_of_getElem? (i := 1135) (by rfl)) (by rfl)
set_option maxRecDepth 100000 in
theorem in_X11_needBlast : Cond.instanceMethod yX11_needBlast ∈ BW := bw_in (List.mem_of_getElem? (i := 1137) (by rfl)) (by rfl)
set_option maxRecDepth 100000 in
theorem sl_X11_needBlast : Cond.selects RX11 yX11_needBlast yX11_needBlast ∈ BW := bw_in (List.mem_of_getElem? (i := 19) (by rfl)) (by rfl)
set_option maxRecDepth 100000 in
theorem fl_RX11_361 : Cond.fieldLink RX11 361 "BlastPlanner$Site" "blasts" "[LBlastPlanner$Blast;" ∈ BW := bw_in (List.mem_of_getElem? (i := 349) (by rfl)) (by rfl)
set_option maxRecDepth 100000 in
theorem fl_RX11_115 : Cond.fieldLink RX11 115 "BlastPlanner$Site" "neighbourTotal" "I" ∈ BW := bw_in (List.mem_of_getElem? (i := 367) (by rfl)) (by rfl)
set_option maxRecDepth 100000 in
theorem fl_RX11_367 : Cond.fieldLink RX11 367 "BlastPlanner$Site" "neighbours" "[LBlastPlanner$Neighbour;" ∈ BW := bw_in (List.mem_of_getElem? (i := 341) (by rfl)) (by rfl)
set_option maxRecDepth 100000 in
theorem fl_RX11_118 : Cond.fieldLink RX11 118 "BlastPlanner$Site" "roadTotal" "I" ∈ BW := bw_in (List.mem_of_getElem? (i := 371) (by rfl)) (by rfl)
set_option maxRecDepth 100000 in
theorem fl_RX11_373 : Cond.fieldLink RX11 373 "BlastPlanner$Site" "roads" "[LBlastPlanner$Road;" ∈ BW := bw_in (List.mem_of_getElem? (i := 344) (by rfl)) (by rfl)
set_option maxRecDepth 100000 in
theorem cl_RX11_90 : Cond.classLink RX11 90 "java/lang/IllegalArgumentException" ∈ BW := bw_in (List.mem_of_getElem? (i := 1066) (by rfl)) (by rfl)
set_option maxRecDepth 100000 in
theorem ni_ex1 : Cond.initialized "java/lang/IllegalArgumentException" ∈ BW := bw_in (List.mem_of_getElem? (i := 66) (by rfl)) (by rfl)
set_option maxRecDepth 100000 in
theorem fl_RX0_24 : Cond.fieldLink RX0 24 "BlastPlanner$Blast" "charges" "I" ∈ BW := bw_in (List.mem_of_getElem? (i := 291) (by rfl)) (by rfl)
set_option maxRecDepth 100000 in
theorem fl_RX0_9 : Cond.fieldLink RX0 9 "BlastPlanner$Blast" "sizes" "[I" ∈ BW := bw_in (List.mem_of_getElem? (i := 275) (by rfl)) (by rfl)
set_option maxRecDepth 100000 in
theorem fl_RX0_15 : Cond.fieldLink RX0 15 "BlastPlanner$Blast" "delays" "[I" ∈ BW := bw_in (List.mem_of_getElem? (i := 276) (by rfl)) (by rfl)
set_option maxRecDepth 100000 in
theorem fl_RX0_37 : Cond.fieldLink RX0 37 "BlastPlanner$Blast" "windowSum" "I" ∈ BW := bw_in (List.mem_of_getElem? (i := 293) (by rfl)) (by rfl)
set_option maxRecDepth 100000 in
theorem fl_RX0_40 : Cond.fieldLink RX0 40 "BlastPlanner$Blast" "windowFirst" "I" ∈ BW := bw_in (List.mem_of_getElem? (i := 296) (by rfl)) (by rfl)
set_option maxRecDepth 100000 in
theorem cd_X0_sumFromDelay : Cond.code yX0_sumFromDelay cX0_sumFromDelay 4 (some .int) ∈ BW := bw_in (List.mem_of_getElem? (i := 1111) (by rfl)) (by rfl)
set_option maxRecDepth 100000 in
theorem ni_RX0 : Cond.initialized RX0 ∈ BW := bw_in (List.mem_of_getElem? (i := 49) (by rfl)) (by rfl)
set_option maxRecDepth 100000 in
theorem ml_RX0_43 : Cond.methodLink RX0 43 yX0_sumFromDelay ∈ BW := bw_in (List.mem_of_getElem? (i := 1108) (by rfl)) (by rfl)
set_option maxRecDepth 100000 in
theorem in_X0_sumFromDelay : Cond.instanceMethod yX0_sumFromDelay ∈ BW := bw_in (List.mem_of_getElem? (i := 1109) (by rfl)) (by rfl)
set_option maxRecDepth 100000 in
theorem sl_X0_sumFromDelay : Cond.selects RX0 yX0_sumFromDelay yX0_sumFromDelay ∈ BW := bw_in (List.mem_of_getElem? (i := 1110) (by rfl)) (by rfl)
set_option maxRecDepth 100000 in
theorem fl_RX0_18 : Cond.fieldLink RX0 18 "BlastPlanner$Blast" "squaredDistances" "[I" ∈ BW := bw_in (List.mem_of_getElem? (i := 278) (by rfl)) (by rfl)
set_option maxRecDepth 100000 in
theorem mn_RX0_47 : Cond.methodLinkNest RX0 47 yX11_quotient "BlastPlanner" ∈ BW := bw_in (List.mem_of_getElem? (i := 1116) (by rfl)) (by rfl)
set_option maxRecDepth 100000 in
theorem cd_X11_quotient : Cond.code yX11_quotient cX11_quotient 2 (some .int) ∈ BW := bw_in (List.mem_of_getElem? (i := 1118) (by rfl)) (by rfl)
set_option maxRecDepth 100000 in
theorem st_X11_quotient : Cond.static yX11_quotient ∈ BW := bw_in (List.mem_of_getElem? (i := 1117) (by rfl)) (by rfl)
set_option maxRecDepth 100000 in
theorem fl_RX0_50 : Cond.fieldLink RX0 50 "BlastPlanner$Blast" "closedRoads" "I" ∈ BW := bw_in (List.mem_of_getElem? (i := 300) (by rfl)) (by rfl)
set_option maxRecDepth 100000 in
theorem fl_RX2_16 : Cond.fieldLink RX2 16 "BlastPlanner$History" "depth" "I" ∈ BW := bw_in (List.mem_of_getElem? (i := 124) (by rfl)) (by rfl)
set_option maxRecDepth 100000 in
theorem fl_RX4_18 : Cond.fieldLink RX4 18 "BlastPlanner$Neighbour" "windows" "I" ∈ BW := bw_in (List.mem_of_getElem? (i := 233) (by rfl)) (by rfl)
set_option maxRecDepth 100000 in
theorem fl_RX4_9 : Cond.fieldLink RX4 9 "BlastPlanner$Neighbour" "quietFirst" "[I" ∈ BW := bw_in (List.mem_of_getElem? (i := 224) (by rfl)) (by rfl)
set_option maxRecDepth 100000 in
theorem fl_RX4_15 : Cond.fieldLink RX4 15 "BlastPlanner$Neighbour" "quietEnd" "[I" ∈ BW := bw_in (List.mem_of_getElem? (i := 225) (by rfl)) (by rfl)
set_option maxRecDepth 100000 in
theorem fl_RX5_12 : Cond.fieldLink RX5 12 "BlastPlanner$Parser" "tokens" "LBlastPlanner$Tokens;" ∈ BW := bw_in (List.mem_of_getElem? (i := 109) (by rfl)) (by rfl)
set_option maxRecDepth 100000 in
theorem fl_RX5_44 : Cond.fieldLink RX5 44 "BlastPlanner$Tokens" "position" "I" ∈ BW := bw_in (List.mem_of_getElem? (i := 92) (by rfl)) (by rfl)
set_option maxRecDepth 100000 in
theorem fl_RX5_112 : Cond.fieldLink RX5 112 "BlastPlanner$Site" "neighbourTotal" "I" ∈ BW := bw_in (List.mem_of_getElem? (i := 366) (by rfl)) (by rfl)
set_option maxRecDepth 100000 in
theorem fl_RX5_119 : Cond.fieldLink RX5 119 "BlastPlanner$Site" "neighbours" "[LBlastPlanner$Neighbour;" ∈ BW := bw_in (List.mem_of_getElem? (i := 340) (by rfl)) (by rfl)
set_option maxRecDepth 100000 in
theorem fl_RX5_123 : Cond.fieldLink RX5 123 "BlastPlanner$Site" "neighbourNames" "[I" ∈ BW := bw_in (List.mem_of_getElem? (i := 351) (by rfl)) (by rfl)
set_option maxRecDepth 100000 in
theorem fl_RX5_142 : Cond.fieldLink RX5 142 "BlastPlanner$Neighbour" "windows" "I" ∈ BW := bw_in (List.mem_of_getElem? (i := 234) (by rfl)) (by rfl)
set_option maxRecDepth 100000 in
theorem fl_RX5_157 : Cond.fieldLink RX5 157 "BlastPlanner$Site" "roadTotal" "I" ∈ BW := bw_in (List.mem_of_getElem? (i := 370) (by rfl)) (by rfl)
set_option maxRecDepth 100000 in
theorem fl_RX5_160 : Cond.fieldLink RX5 160 "BlastPlanner$Site" "roads" "[LBlastPlanner$Road;" ∈ BW := bw_in (List.mem_of_getElem? (i := 343) (by rfl)) (by rfl)
set_option maxRecDepth 100000 in
theorem fl_RX5_164 : Cond.fieldLink RX5 164 "BlastPlanner$Site" "roadNames" "[I" ∈ BW := bw_in (List.mem_of_getElem? (i := 353) (by rfl)) (by rfl)
set_option maxRecDepth 100000 in
theorem fl_RX5_181 : Cond.fieldLink RX5 181 "BlastPlanner$Site" "blastTotal" "I" ∈ BW := bw_in (List.mem_of_getElem? (i := 377) (by rfl)) (by rfl)
set_option maxRecDepth 100000 in
theorem fl_RX5_184 : Cond.fieldLink RX5 184 "BlastPlanner$Site" "blasts" "[LBlastPlanner$Blast;" ∈ BW := bw_in (List.mem_of_getElem? (i := 348) (by rfl)) (by rfl)
set_option maxRecDepth 100000 in
theorem fl_RX5_188 : Cond.fieldLink RX5 188 "BlastPlanner$Site" "blastNames" "[I" ∈ BW := bw_in (List.mem_of_getElem? (i := 355) (by rfl)) (by rfl)
set_option maxRecDepth 100000 in
theorem fl_RX5_202 : Cond.fieldLink RX5 202 "BlastPlanner$Blast" "charges" "I" ∈ BW := bw_in (List.mem_of_getElem? (i := 292) (by rfl)) (by rfl)
set_option maxRecDepth 100000 in
theorem fl_RX6_21 : Cond.fieldLink RX6 21 "BlastPlanner$PlanSearch" "known" "Z" ∈ BW := bw_in (List.mem_of_getElem? (i := 146) (by rfl)) (by rfl)
set_option maxRecDepth 100000 in
theorem fl_RX7_7 : Cond.fieldLink RX7 7 "BlastPlanner$Road" "x2" "I" ∈ BW := bw_in (List.mem_of_getElem? (i := 257) (by rfl)) (by rfl)
set_option maxRecDepth 100000 in
theorem fl_RX7_13 : Cond.fieldLink RX7 13 "BlastPlanner$Road" "x1" "I" ∈ BW := bw_in (List.mem_of_getElem? (i := 253) (by rfl)) (by rfl)
set_option maxRecDepth 100000 in
theorem fl_RX7_16 : Cond.fieldLink RX7 16 "BlastPlanner$Road" "y2" "I" ∈ BW := bw_in (List.mem_of_getElem? (i := 259) (by rfl)) (by rfl)
set_option maxRecDepth 100000 in
theorem fl_RX7_19 : Cond.fieldLink RX7 19 "BlastPlanner$Road" "y1" "I" ∈ BW := bw_in (List.mem_of_getElem? (i := 255) (by rfl)) (by rfl)
set_option maxRecDepth 100000 in
theorem mn_RX7_22 : Cond.methodLinkNest RX7 22 yX11_squareSum "BlastPlanner" ∈ BW := bw_in (List.mem_of_getElem? (i := 1088) (by rfl)) (by rfl)
set_option maxRecDepth 100000 in
theorem cd_X11_squareSum : Cond.code yX11_squareSum cX11_squareSum 2 (some .int) ∈ BW := bw_in (List.mem_of_getElem? (i := 1079) (by rfl)) (by rfl)
set_option maxRecDepth 100000 in
theorem st_X11_squareSum : Cond.static yX11_squareSum ∈ BW := bw_in (List.mem_of_getElem? (i := 1078) (by rfl)) (by rfl)
set_option maxRecDepth 100000 in
theorem fl_RX9_54 : Cond.fieldLink RX9 54 "BlastPlanner$Site" "neighbourTotal" "I" ∈ BW := bw_in (List.mem_of_getElem? (i := 365) (by rfl)) (by rfl)
set_option maxRecDepth 100000 in
theorem fl_RX9_58 : Cond.fieldLink RX9 58 "BlastPlanner$Site" "roadTotal" "I" ∈ BW := bw_in (List.mem_of_getElem? (i := 368) (by rfl)) (by rfl)
set_option maxRecDepth 100000 in
theorem fl_RX9_61 : Cond.fieldLink RX9 61 "BlastPlanner$Site" "blastTotal" "I" ∈ BW := bw_in (List.mem_of_getElem? (i := 373) (by rfl)) (by rfl)
set_option maxRecDepth 100000 in
theorem fl_RX9_64 : Cond.fieldLink RX9 64 "BlastPlanner$Site" "dayFirst" "I" ∈ BW := bw_in (List.mem_of_getElem? (i := 378) (by rfl)) (by rfl)
set_option maxRecDepth 100000 in
theorem fl_RX9_67 : Cond.fieldLink RX9 67 "BlastPlanner$Site" "dayLast" "I" ∈ BW := bw_in (List.mem_of_getElem? (i := 380) (by rfl)) (by rfl)
set_option maxRecDepth 100000 in
theorem fl_RX9_70 : Cond.fieldLink RX9 70 "BlastPlanner$Site" "step" "I" ∈ BW := bw_in (List.mem_of_getElem? (i := 382) (by rfl)) (by rfl)
set_option maxRecDepth 100000 in
theorem fl_RX9_73 : Cond.fieldLink RX9 73 "BlastPlanner$Site" "before" "I" ∈ BW := bw_in (List.mem_of_getElem? (i := 384) (by rfl)) (by rfl)
set_option maxRecDepth 100000 in
theorem fl_RX9_76 : Cond.fieldLink RX9 76 "BlastPlanner$Site" "after" "I" ∈ BW := bw_in (List.mem_of_getElem? (i := 386) (by rfl)) (by rfl)
set_option maxRecDepth 100000 in
theorem fl_RX9_79 : Cond.fieldLink RX9 79 "BlastPlanner$Site" "spacing" "I" ∈ BW := bw_in (List.mem_of_getElem? (i := 389) (by rfl)) (by rfl)
set_option maxRecDepth 100000 in
theorem fl_RX9_39 : Cond.fieldLink RX9 39 "BlastPlanner$Site" "times" "[I" ∈ BW := bw_in (List.mem_of_getElem? (i := 356) (by rfl)) (by rfl)
set_option maxRecDepth 100000 in
theorem fl_RX9_42 : Cond.fieldLink RX9 42 "BlastPlanner$Site" "windDirections" "[I" ∈ BW := bw_in (List.mem_of_getElem? (i := 361) (by rfl)) (by rfl)
set_option maxRecDepth 100000 in
theorem fl_RX9_45 : Cond.fieldLink RX9 45 "BlastPlanner$Site" "windSpeeds" "[I" ∈ BW := bw_in (List.mem_of_getElem? (i := 363) (by rfl)) (by rfl)
set_option maxRecDepth 100000 in
theorem fl_RX9_25 : Cond.fieldLink RX9 25 "BlastPlanner$Site" "blasts" "[LBlastPlanner$Blast;" ∈ BW := bw_in (List.mem_of_getElem? (i := 345) (by rfl)) (by rfl)
set_option maxRecDepth 100000 in
theorem fl_RX9_99 : Cond.fieldLink RX9 99 "BlastPlanner$Blast" "radius" "I" ∈ BW := bw_in (List.mem_of_getElem? (i := 289) (by rfl)) (by rfl)
set_option maxRecDepth 100000 in
theorem fl_RX9_102 : Cond.fieldLink RX9 102 "BlastPlanner$Blast" "heardBy" "I" ∈ BW := bw_in (List.mem_of_getElem? (i := 301) (by rfl)) (by rfl)
set_option maxRecDepth 100000 in
theorem fl_RX9_11 : Cond.fieldLink RX9 11 "BlastPlanner$Site" "neighbours" "[LBlastPlanner$Neighbour;" ∈ BW := bw_in (List.mem_of_getElem? (i := 339) (by rfl)) (by rfl)
set_option maxRecDepth 100000 in
theorem fl_RX9_105 : Cond.fieldLink RX9 105 "BlastPlanner$Neighbour" "x" "I" ∈ BW := bw_in (List.mem_of_getElem? (i := 226) (by rfl)) (by rfl)
set_option maxRecDepth 100000 in
theorem fl_RX9_108 : Cond.fieldLink RX9 108 "BlastPlanner$Blast" "x" "I" ∈ BW := bw_in (List.mem_of_getElem? (i := 283) (by rfl)) (by rfl)
set_option maxRecDepth 100000 in
theorem fl_RX9_109 : Cond.fieldLink RX9 109 "BlastPlanner$Neighbour" "y" "I" ∈ BW := bw_in (List.mem_of_getElem? (i := 228) (by rfl)) (by rfl)
set_option maxRecDepth 100000 in
theorem fl_RX9_112 : Cond.fieldLink RX9 112 "BlastPlanner$Blast" "y" "I" ∈ BW := bw_in (List.mem_of_getElem? (i := 286) (by rfl)) (by rfl)
set_option maxRecDepth 100000 in
theorem mn_RX9_113 : Cond.methodLinkNest RX9 113 yX11_squareSum "BlastPlanner" ∈ BW := bw_in (List.mem_of_getElem? (i := 1077) (by rfl)) (by rfl)
set_option maxRecDepth 100000 in
theorem fl_RX9_117 : Cond.fieldLink RX9 117 "BlastPlanner$Blast" "squaredDistances" "[I" ∈ BW := bw_in (List.mem_of_getElem? (i := 279) (by rfl)) (by rfl)
set_option maxRecDepth 100000 in
theorem fl_RX9_120 : Cond.fieldLink RX9 120 "BlastPlanner$Blast" "closedRoads" "I" ∈ BW := bw_in (List.mem_of_getElem? (i := 299) (by rfl)) (by rfl)
set_option maxRecDepth 100000 in
theorem fl_RX9_19 : Cond.fieldLink RX9 19 "BlastPlanner$Site" "roads" "[LBlastPlanner$Road;" ∈ BW := bw_in (List.mem_of_getElem? (i := 342) (by rfl)) (by rfl)
set_option maxRecDepth 100000 in
theorem cd_X7_comesWithin : Cond.code yX7_comesWithin cX7_comesWithin 11 (some .boolean) ∈ BW := bw_in (List.mem_of_getElem? (i := 1087) (by rfl)) (by rfl)
set_option maxRecDepth 100000 in
theorem ni_RX7 : Cond.initialized RX7 ∈ BW := bw_in (List.mem_of_getElem? (i := 48) (by rfl)) (by rfl)
set_option maxRecDepth 100000 in
theorem ml_RX9_123 : Cond.methodLink RX9 123 yX7_comesWithin ∈ BW := bw_in (List.mem_of_getElem? (i := 1084) (by rfl)) (by rfl)
set_option maxRecDepth 100000 in
theorem in_X7_comesWithin : Cond.instanceMethod yX7_comesWithin ∈ BW := bw_in (List.mem_of_getElem? (i := 1085) (by rfl)) (by rfl)
set_option maxRecDepth 100000 in
theorem sl_X7_comesWithin : Cond.selects RX7 yX7_comesWithin yX7_comesWithin ∈ BW := bw_in (List.mem_of_getElem? (i := 1086) (by rfl)) (by rfl)
set_option maxRecDepth 100000 in
theorem fl_RX9_127 : Cond.fieldLink RX9 127 "BlastPlanner$Site" "WIND_X" "[I" ∈ BW := bw_in (List.mem_of_getElem? (i := 1093) (by rfl)) (by rfl)
set_option maxRecDepth 100000 in
theorem fl_RX9_130 : Cond.fieldLink RX9 130 "BlastPlanner$Site" "WIND_Y" "[I" ∈ BW := bw_in (List.mem_of_getElem? (i := 1095) (by rfl)) (by rfl)
set_option maxRecDepth 100000 in
theorem ml_RX9_133 : Cond.methodLink RX9 133 Lib.Math.abs.name ∈ BW := bw_in (List.mem_of_getElem? (i := 1097) (by rfl)) (by rfl)
set_option maxRecDepth 100000 in
theorem st_math_abs : Cond.static Lib.Math.abs.name ∈ BW := bw_in (List.mem_of_getElem? (i := 1098) (by rfl)) (by rfl)
set_option maxRecDepth 100000 in
theorem ni_math : Cond.initialized "java/lang/Math" ∈ BW := bw_in (List.mem_of_getElem? (i := 56) (by rfl)) (by rfl)
set_option maxRecDepth 100000 in
theorem cd_math_abs : Cond.code Lib.Math.abs.name Lib.Math.abs.code 1 (some .int) ∈ BW := bw_in (List.mem_of_getElem? (i := 1099) (by rfl)) (by rfl)
set_option maxRecDepth 100000 in
theorem cd_X0_measureWindow : Cond.code yX0_measureWindow cX0_measureWindow 3 none ∈ BW := bw_in (List.mem_of_getElem? (i := 1107) (by rfl)) (by rfl)
set_option maxRecDepth 100000 in
theorem ml_RX9_139 : Cond.methodLink RX9 139 yX0_measureWindow ∈ BW := bw_in (List.mem_of_getElem? (i := 1104) (by rfl)) (by rfl)
set_option maxRecDepth 100000 in
theorem in_X0_measureWindow : Cond.instanceMethod yX0_measureWindow ∈ BW := bw_in (List.mem_of_getElem? (i := 1105) (by rfl)) (by rfl)
set_option maxRecDepth 100000 in
theorem sl_X0_measureWindow : Cond.selects RX0 yX0_measureWindow yX0_measureWindow ∈ BW := bw_in (List.mem_of_getElem? (i := 1106) (by rfl)) (by rfl)
set_option maxRecDepth 100000 in
theorem fl_RX9_142 : Cond.fieldLink RX9 142 "BlastPlanner$Blast" "tooStrong" "I" ∈ BW := bw_in (List.mem_of_getElem? (i := 298) (by rfl)) (by rfl)
set_option maxRecDepth 100000 in
theorem fl_RX9_145 : Cond.fieldLink RX9 145 "BlastPlanner$Blast" "windowSum" "I" ∈ BW := bw_in (List.mem_of_getElem? (i := 294) (by rfl)) (by rfl)
set_option maxRecDepth 100000 in
theorem cd_X0_shakes : Cond.code yX0_shakes cX0_shakes 3 (some .int) ∈ BW := bw_in (List.mem_of_getElem? (i := 1115) (by rfl)) (by rfl)
set_option maxRecDepth 100000 in
theorem ml_RX9_148 : Cond.methodLink RX9 148 yX0_shakes ∈ BW := bw_in (List.mem_of_getElem? (i := 1112) (by rfl)) (by rfl)
set_option maxRecDepth 100000 in
theorem in_X0_shakes : Cond.instanceMethod yX0_shakes ∈ BW := bw_in (List.mem_of_getElem? (i := 1113) (by rfl)) (by rfl)
set_option maxRecDepth 100000 in
theorem sl_X0_shakes : Cond.selects RX0 yX0_shakes yX0_shakes ∈ BW := bw_in (List.mem_of_getElem? (i := 1114) (by rfl)) (by rfl)
set_option maxRecDepth 100000 in
theorem fl_RX9_151 : Cond.fieldLink RX9 151 "BlastPlanner$Neighbour" "limit" "I" ∈ BW := bw_in (List.mem_of_getElem? (i := 231) (by rfl)) (by rfl)
set_option maxRecDepth 100000 in
theorem cd_X4_quietAt : Cond.code yX4_quietAt cX4_quietAt 3 (some .boolean) ∈ BW := bw_in (List.mem_of_getElem? (i := 1189) (by rfl)) (by rfl)
set_option maxRecDepth 100000 in
theorem ni_RX4 : Cond.initialized RX4 ∈ BW := bw_in (List.mem_of_getElem? (i := 47) (by rfl)) (by rfl)
set_option maxRecDepth 100000 in
theorem ml_RX9_165 : Cond.methodLink RX9 165 yX4_quietAt ∈ BW := bw_in (List.mem_of_getElem? (i := 1215) (by rfl)) (by rfl)
set_option maxRecDepth 100000 in
theorem in_X4_quietAt : Cond.instanceMethod yX4_quietAt ∈ BW := bw_in (List.mem_of_getElem? (i := 1187) (by rfl)) (by rfl)
set_option maxRecDepth 100000 in
theorem sl_X4_quietAt : Cond.selects RX4 yX4_quietAt yX4_quietAt ∈ BW := bw_in (List.mem_of_getElem? (i := 1188) (by rfl)) (by rfl)
set_option maxRecDepth 100000 in
theorem fl_RX10_19 : Cond.fieldLink RX10 19 "BlastPlanner$Tokens" "length" "I" ∈ BW := bw_in (List.mem_of_getElem? (i := 90) (by rfl)) (by rfl)
set_option maxRecDepth 100000 in
theorem fl_RX10_9 : Cond.fieldLink RX10 9 "BlastPlanner$Tokens" "bytes" "[B" ∈ BW := bw_in (List.mem_of_getElem? (i := 89) (by rfl)) (by rfl)
set_option maxRecDepth 100000 in
theorem fl_RX10_22 : Cond.fieldLink RX10 22 "BlastPlanner$Tokens" "position" "I" ∈ BW := bw_in (List.mem_of_getElem? (i := 93) (by rfl)) (by rfl)
set_option maxRecDepth 100000 in
theorem fl_RX10_15 : Cond.fieldLink RX10 15 "BlastPlanner$Tokens" "wrongOffset" "I" ∈ BW := bw_in (List.mem_of_getElem? (i := 94) (by rfl)) (by rfl)
set_option maxRecDepth 100000 in
theorem fl_RX10_25 : Cond.fieldLink RX10 25 "BlastPlanner$Tokens" "wrongKind" "I" ∈ BW := bw_in (List.mem_of_getElem? (i := 95) (by rfl)) (by rfl)
set_option maxRecDepth 100000 in
theorem cd_X10_skipSpaces : Cond.code yX10_skipSpaces cX10_skipSpaces 1 none ∈ BW := bw_in (List.mem_of_getElem? (i := 956) (by rfl)) (by rfl)
set_option maxRecDepth 100000 in
theorem ni_RX10 : Cond.initialized RX10 ∈ BW := bw_in (List.mem_of_getElem? (i := 40) (by rfl)) (by rfl)
set_option maxRecDepth 100000 in
theorem ml_RX10_28 : Cond.methodLink RX10 28 yX10_skipSpaces ∈ BW := bw_in (List.mem_of_getElem? (i := 953) (by rfl)) (by rfl)
set_option maxRecDepth 100000 in
theorem in_X10_skipSpaces : Cond.instanceMethod yX10_skipSpaces ∈ BW := bw_in (List.mem_of_getElem? (i := 955) (by rfl)) (by rfl)
set_option maxRecDepth 100000 in
theorem sl_X10_skipSpaces : Cond.selects RX10 yX10_skipSpaces yX10_skipSpaces ∈ BW := bw_in (List.mem_of_getElem? (i := 3) (by rfl)) (by rfl)
set_option maxRecDepth 100000 in
theorem cd_X10_endOfRun : Cond.code yX10_endOfRun cX10_endOfRun 4 (some .int) ∈ BW := bw_in (List.mem_of_getElem? (i := 969) (by rfl)) (by rfl)
set_option maxRecDepth 100000 in
theorem ml_RX10_31 : Cond.methodLink RX10 31 yX10_endOfRun ∈ BW := bw_in (List.mem_of_getElem? (i := 966) (by rfl)) (by rfl)
set_option maxRecDepth 100000 in
theorem in_X10_endOfRun : Cond.instanceMethod yX10_endOfRun ∈ BW := bw_in (List.mem_of_getElem? (i := 968) (by rfl)) (by rfl)
set_option maxRecDepth 100000 in
theorem sl_X10_endOfRun : Cond.selects RX10 yX10_endOfRun yX10_endOfRun ∈ BW := bw_in (List.mem_of_getElem? (i := 5) (by rfl)) (by rfl)
set_option maxRecDepth 100000 in
theorem cd_X10_fail : Cond.code yX10_fail cX10_fail 3 none ∈ BW := bw_in (List.mem_of_getElem? (i := 993) (by rfl)) (by rfl)
set_option maxRecDepth 100000 in
theorem ml_RX10_35 : Cond.methodLink RX10 35 yX10_fail ∈ BW := bw_in (List.mem_of_getElem? (i := 998) (by rfl)) (by rfl)
set_option maxRecDepth 100000 in
theorem in_X10_fail : Cond.instanceMethod yX10_fail ∈ BW := bw_in (List.mem_of_getElem? (i := 991) (by rfl)) (by rfl)
set_option maxRecDepth 100000 in
theorem sl_X10_fail : Cond.selects RX10 yX10_fail yX10_fail ∈ BW := bw_in (List.mem_of_getElem? (i := 992) (by rfl)) (by rfl)
set_option maxRecDepth 100000 in
theorem ml_RX10_39 : Cond.methodLink RX10 39 yJ0_length_8abf5 ∈ BW := bw_in (List.mem_of_getElem? (i := 970) (by rfl)) (by rfl)
set_option maxRecDepth 100000 in
theorem ml_RX10_44 : Cond.methodLink RX10 44 yJ0_charAt_5068e ∈ BW := bw_in (List.mem_of_getElem? (i := 971) (by rfl)) (by rfl)
set_option maxRecDepth 100000 in
theorem cd_X10_failed : Cond.code yX10_failed cX10_failed 1 (some .boolean) ∈ BW := bw_in (List.mem_of_getElem? (i := 948) (by rfl)) (by rfl)
set_option maxRecDepth 100000 in
theorem ml_RX10_52 : Cond.methodLink RX10 52 yX10_failed ∈ BW := bw_in (List.mem_of_getElem? (i := 1007) (by rfl)) (by rfl)
set_option maxRecDepth 100000 in
theorem in_X10_failed : Cond.instanceMethod yX10_failed ∈ BW := bw_in (List.mem_of_getElem? (i := 946) (by rfl)) (by rfl)
set_option maxRecDepth 100000 in
theorem sl_X10_failed : Cond.selects RX10 yX10_failed yX10_failed ∈ BW := bw_in (List.mem_of_getElem? (i := 947) (by rfl)) (by rfl)
set_option maxRecDepth 100000 in
theorem fl_RX12_46 : Cond.fieldLink RX12 46 "BlastPlannerLaw$Drawn" "charges" "[I" ∈ BW := bw_in (List.mem_of_getElem? (i := 852) (by rfl)) (by rfl)
set_option maxRecDepth 100000 in
theorem fl_RX12_60 : Cond.fieldLink RX12 60 "BlastPlannerLaw$Drawn" "delay" "[[I" ∈ BW := bw_in (List.mem_of_getElem? (i := 857) (by rfl)) (by rfl)
set_option maxRecDepth 100000 in
theorem fl_RX12_57 : Cond.fieldLink RX12 57 "BlastPlannerLaw$Drawn" "size" "[[I" ∈ BW := bw_in (List.mem_of_getElem? (i := 856) (by rfl)) (by rfl)
set_option maxRecDepth 100000 in
theorem fl_RX12_37 : Cond.fieldLink RX12 37 "BlastPlannerLaw$Drawn" "x" "[I" ∈ BW := bw_in (List.mem_of_getElem? (i := 848) (by rfl)) (by rfl)
set_option maxRecDepth 100000 in
theorem fl_RX12_7 : Cond.fieldLink RX12 7 "BlastPlannerLaw$Drawn" "nearX" "[I" ∈ BW := bw_in (List.mem_of_getElem? (i := 839) (by rfl)) (by rfl)
set_option maxRecDepth 100000 in
theorem fl_RX12_40 : Cond.fieldLink RX12 40 "BlastPlannerLaw$Drawn" "y" "[I" ∈ BW := bw_in (List.mem_of_getElem? (i := 849) (by rfl)) (by rfl)
set_option maxRecDepth 100000 in
theorem fl_RX12_13 : Cond.fieldLink RX12 13 "BlastPlannerLaw$Drawn" "nearY" "[I" ∈ BW := bw_in (List.mem_of_getElem? (i := 840) (by rfl)) (by rfl)
set_option maxRecDepth 100000 in
theorem fl_RX12_31 : Cond.fieldLink RX12 31 "BlastPlannerLaw$Drawn" "roadX2" "[I" ∈ BW := bw_in (List.mem_of_getElem? (i := 846) (by rfl)) (by rfl)
set_option maxRecDepth 100000 in
theorem fl_RX12_25 : Cond.fieldLink RX12 25 "BlastPlannerLaw$Drawn" "roadX" "[I" ∈ BW := bw_in (List.mem_of_getElem? (i := 844) (by rfl)) (by rfl)
set_option maxRecDepth 100000 in
theorem fl_RX12_34 : Cond.fieldLink RX12 34 "BlastPlannerLaw$Drawn" "roadY2" "[I" ∈ BW := bw_in (List.mem_of_getElem? (i := 847) (by rfl)) (by rfl)
set_option maxRecDepth 100000 in
theorem fl_RX12_28 : Cond.fieldLink RX12 28 "BlastPlannerLaw$Drawn" "roadY" "[I" ∈ BW := bw_in (List.mem_of_getElem? (i := 845) (by rfl)) (by rfl)
set_option maxRecDepth 100000 in
theorem ml_RX12_149 : Cond.methodLink RX12 149 Lib.MathLoose.min_long.x ∈ BW := bw_in (List.mem_of_getElem? (i := 1523) (by rfl)) (by rfl)
set_option maxRecDepth 100000 in
theorem st_mathL_min : Cond.static Lib.MathLoose.min_long.x ∈ BW := bw_in (List.mem_of_getElem? (i := 1524) (by rfl)) (by rfl)
set_option maxRecDepth 100000 in
theorem cd_mathL_min : Cond.code Lib.MathLoose.min_long.x Lib.MathLoose.min_long.code 4 (some .long) ∈ BW := bw_in (List.mem_of_getElem? (i := 1525) (by rfl)) (by rfl)
set_option maxRecDepth 100000 in
theorem ml_RX12_155 : Cond.methodLink RX12 155 Lib.MathLoose.max_long.x ∈ BW := bw_in (List.mem_of_getElem? (i := 1526) (by rfl)) (by rfl)
set_option maxRecDepth 100000 in
theorem st_mathL_max : Cond.static Lib.MathLoose.max_long.x ∈ BW := bw_in (List.mem_of_getElem? (i := 1527) (by rfl)) (by rfl)
set_option maxRecDepth 100000 in
theorem cd_mathL_max : Cond.code Lib.MathLoose.max_long.x Lib.MathLoose.max_long.code 4 (some .long) ∈ BW := bw_in (List.mem_of_getElem? (i := 1528) (by rfl)) (by rfl)
set_option maxRecDepth 100000 in
theorem fl_RX12_19 : Cond.fieldLink RX12 19 "BlastPlannerLaw$Drawn" "quietFrom" "[I" ∈ BW := bw_in (List.mem_of_getElem? (i := 842) (by rfl)) (by rfl)
set_option maxRecDepth 100000 in
theorem fl_RX12_22 : Cond.fieldLink RX12 22 "BlastPlannerLaw$Drawn" "quietTo" "[I" ∈ BW := bw_in (List.mem_of_getElem? (i := 843) (by rfl)) (by rfl)
set_option maxRecDepth 100000 in
theorem fl_RX12_49 : Cond.fieldLink RX12 49 "BlastPlannerLaw$Drawn" "wind" "[I" ∈ BW := bw_in (List.mem_of_getElem? (i := 854) (by rfl)) (by rfl)
set_option maxRecDepth 100000 in
theorem cd_X12_far : Cond.code yX12_far cX12_far 3 (some .int) ∈ BW := bw_in (List.mem_of_getElem? (i := 1518) (by rfl)) (by rfl)
set_option maxRecDepth 100000 in
theorem ni_RX12 : Cond.initialized RX12 ∈ BW := bw_in (List.mem_of_getElem? (i := 50) (by rfl)) (by rfl)
set_option maxRecDepth 100000 in
theorem ml_RX12_158 : Cond.methodLink RX12 158 yX12_far ∈ BW := bw_in (List.mem_of_getElem? (i := 1536) (by rfl)) (by rfl)
set_option maxRecDepth 100000 in
theorem in_X12_far : Cond.instanceMethod yX12_far ∈ BW := bw_in (List.mem_of_getElem? (i := 1516) (by rfl)) (by rfl)
set_option maxRecDepth 100000 in
theorem sl_X12_far : Cond.selects RX12 yX12_far yX12_far ∈ BW := bw_in (List.mem_of_getElem? (i := 1517) (by rfl)) (by rfl)
set_option maxRecDepth 100000 in
theorem fl_RX12_52 : Cond.fieldLink RX12 52 "BlastPlannerLaw$Drawn" "speed" "[I" ∈ BW := bw_in (List.mem_of_getElem? (i := 855) (by rfl)) (by rfl)
set_option maxRecDepth 100000 in
theorem fl_RX12_79 : Cond.fieldLink RX12 79 "BlastPlannerLaw$Drawn" "first" "I" ∈ BW := bw_in (List.mem_of_getElem? (i := 831) (by rfl)) (by rfl)
set_option maxRecDepth 100000 in
theorem fl_RX12_85 : Cond.fieldLink RX12 85 "BlastPlannerLaw$Drawn" "last" "I" ∈ BW := bw_in (List.mem_of_getElem? (i := 833) (by rfl)) (by rfl)
set_option maxRecDepth 100000 in
theorem fl_RX12_69 : Cond.fieldLink RX12 69 "BlastPlannerLaw$Drawn" "near" "I" ∈ BW := bw_in (List.mem_of_getElem? (i := 825) (by rfl)) (by rfl)
set_option maxRecDepth 100000 in
theorem cd_X12_isDusty : Cond.code yX12_isDusty cX12_isDusty 10 (some .boolean) ∈ BW := bw_in (List.mem_of_getElem? (i := 1544) (by rfl)) (by rfl)
set_option maxRecDepth 100000 in
theorem ml_RX12_171 : Cond.methodLink RX12 171 yX12_isDusty ∈ BW := bw_in (List.mem_of_getElem? (i := 1541) (by rfl)) (by rfl)
set_option maxRecDepth 100000 in
theorem in_X12_isDusty : Cond.instanceMethod yX12_isDusty ∈ BW := bw_in (List.mem_of_getElem? (i := 1542) (by rfl)) (by rfl)
set_option maxRecDepth 100000 in
theorem sl_X12_isDusty : Cond.selects RX12 yX12_isDusty yX12_isDusty ∈ BW := bw_in (List.mem_of_getElem? (i := 1543) (by rfl)) (by rfl)
set_option maxRecDepth 100000 in
theorem cd_X12_isQuiet : Cond.code yX12_isQuiet cX12_isQuiet 3 (some .boolean) ∈ BW := bw_in (List.mem_of_getElem? (i := 1540) (by rfl)) (by rfl)
set_option maxRecDepth 100000 in
theorem ml_RX12_167 : Cond.methodLink RX12 167 yX12_isQuiet ∈ BW := bw_in (List.mem_of_getElem? (i := 1537) (by rfl)) (by rfl)
set_option maxRecDepth 100000 in
theorem in_X12_isQuiet : Cond.instanceMethod yX12_isQuiet ∈ BW := bw_in (List.mem_of_getElem? (i := 1538) (by rfl)) (by rfl)
set_option maxRecDepth 100000 in
theorem sl_X12_isQuiet : Cond.selects RX12 yX12_isQuiet yX12_isQuiet ∈ BW := bw_in (List.mem_of_getElem? (i := 1539) (by rfl)) (by rfl)
set_option maxRecDepth 100000 in
theorem fl_RX12_43 : Cond.fieldLink RX12 43 "BlastPlannerLaw$Drawn" "radius" "[I" ∈ BW := bw_in (List.mem_of_getElem? (i := 850) (by rfl)) (by rfl)
set_option maxRecDepth 100000 in
theorem fl_RX12_16 : Cond.fieldLink RX12 16 "BlastPlannerLaw$Drawn" "limit" "[I" ∈ BW := bw_in (List.mem_of_getElem? (i := 841) (by rfl)) (by rfl)
set_option maxRecDepth 100000 in
theorem cd_X12_window : Cond.code yX12_window cX12_window 5 (some .int) ∈ BW := bw_in (List.mem_of_getElem? (i := 1514) (by rfl)) (by rfl)
set_option maxRecDepth 100000 in
theorem ml_RX12_162 : Cond.methodLink RX12 162 yX12_window ∈ BW := bw_in (List.mem_of_getElem? (i := 1534) (by rfl)) (by rfl)
set_option maxRecDepth 100000 in
theorem in_X12_window : Cond.instanceMethod yX12_window ∈ BW := bw_in (List.mem_of_getElem? (i := 1512) (by rfl)) (by rfl)
set_option maxRecDepth 100000 in
theorem sl_X12_window : Cond.selects RX12 yX12_window yX12_window ∈ BW := bw_in (List.mem_of_getElem? (i := 1513) (by rfl)) (by rfl)
set_option maxRecDepth 100000 in
theorem ml_RX12_165 : Cond.methodLink RX12 165 Lib.Math.max.name ∈ BW := bw_in (List.mem_of_getElem? (i := 1535) (by rfl)) (by rfl)
set_option maxRecDepth 100000 in
theorem st_math_max : Cond.static Lib.Math.max.name ∈ BW := bw_in (List.mem_of_getElem? (i := 530) (by rfl)) (by rfl)
set_option maxRecDepth 100000 in
theorem cd_math_max : Cond.code Lib.Math.max.name Lib.Math.max.code 2 (some .int) ∈ BW := bw_in (List.mem_of_getElem? (i := 531) (by rfl)) (by rfl)
set_option maxRecDepth 100000 in
theorem fl_RX13_7 : Cond.fieldLink RX13 7 "BlastPlannerLaw$Draws" "seed" "I" ∈ BW := bw_in (List.mem_of_getElem? (i := 922) (by rfl)) (by rfl)
set_option maxRecDepth 100000 in
theorem kc_RX13_13 : Cond.constant RX13 13 (1103515245) ∈ BW := bw_in (List.mem_of_getElem? (i := 474) (by rfl)) (by rfl)
set_option maxRecDepth 100000 in
theorem cd_X10_hasRoom : Cond.code yX10_hasRoom cX10_hasRoom 2 (some .boolean) ∈ BW := bw_in (List.mem_of_getElem? (i := 1499) (by rfl)) (by rfl)
set_option maxRecDepth 100000 in
theorem ml_RX11_72 : Cond.methodLink RX11 72 yX10_hasRoom ∈ BW := bw_in (List.mem_of_getElem? (i := 1496) (by rfl)) (by rfl)
set_option maxRecDepth 100000 in
theorem in_X10_hasRoom : Cond.instanceMethod yX10_hasRoom ∈ BW := bw_in (List.mem_of_getElem? (i := 1497) (by rfl)) (by rfl)
set_option maxRecDepth 100000 in
theorem sl_X10_hasRoom : Cond.selects RX10 yX10_hasRoom yX10_hasRoom ∈ BW := bw_in (List.mem_of_getElem? (i := 1498) (by rfl)) (by rfl)
set_option maxRecDepth 100000 in
theorem cd_X10_addWord : Cond.code yX10_addWord cX10_addWord 3 none ∈ BW := bw_in (List.mem_of_getElem? (i := 1503) (by rfl)) (by rfl)
set_option maxRecDepth 100000 in
theorem ml_RX11_78 : Cond.methodLink RX11 78 yX10_addWord ∈ BW := bw_in (List.mem_of_getElem? (i := 1500) (by rfl)) (by rfl)
set_option maxRecDepth 100000 in
theorem in_X10_addWord : Cond.instanceMethod yX10_addWord ∈ BW := bw_in (List.mem_of_getElem? (i := 1501) (by rfl)) (by rfl)
set_option maxRecDepth 100000 in
theorem sl_X10_addWord : Cond.selects RX10 yX10_addWord yX10_addWord ∈ BW := bw_in (List.mem_of_getElem? (i := 1502) (by rfl)) (by rfl)
set_option maxRecDepth 100000 in
theorem cd_X11_blastAt : Cond.code yX11_blastAt cX11_blastAt 2 (some (.object "BlastPlanner$Blast")) ∈ BW := bw_in (List.mem_of_getElem? (i := 1134) (by rfl)) (by rfl)
set_option maxRecDepth 100000 in
theorem ml_RX11_125 : Cond.methodLink RX11 125 yX11_blastAt ∈ BW := bw_in (List.mem_of_getElem? (i := 1131) (by rfl)) (by rfl)
set_option maxRecDepth 100000 in
theorem in_X11_blastAt : Cond.instanceMethod yX11_blastAt ∈ BW := bw_in (List.mem_of_getElem? (i := 1133) (by rfl)) (by rfl)
set_option maxRecDepth 100000 in
theorem sl_X11_blastAt : Cond.selects RX11 yX11_blastAt yX11_blastAt ∈ BW := bw_in (List.mem_of_getElem? (i := 18) (by rfl)) (by rfl)
set_option maxRecDepth 100000 in
theorem fl_RX11_150 : Cond.fieldLink RX11 150 "BlastPlanner$Blast" "windowSum" "I" ∈ BW := bw_in (List.mem_of_getElem? (i := 295) (by rfl)) (by rfl)
set_option maxRecDepth 100000 in
theorem fl_RX11_153 : Cond.fieldLink RX11 153 "BlastPlanner$Blast" "windowFirst" "I" ∈ BW := bw_in (List.mem_of_getElem? (i := 297) (by rfl)) (by rfl)
set_option maxRecDepth 100000 in
theorem cd_X11_neighbourAt : Cond.code yX11_neighbourAt cX11_neighbourAt 2 (some (.object "BlastPlanner$Neighbour")) ∈ BW := bw_in (List.mem_of_getElem? (i := 1166) (by rfl)) (by rfl)
set_option maxRecDepth 100000 in
theorem ml_RX11_156 : Cond.methodLink RX11 156 yX11_neighbourAt ∈ BW := bw_in (List.mem_of_getElem? (i := 1163) (by rfl)) (by rfl)
set_option maxRecDepth 100000 in
theorem in_X11_neighbourAt : Cond.instanceMethod yX11_neighbourAt ∈ BW := bw_in (List.mem_of_getElem? (i := 1165) (by rfl)) (by rfl)
set_option maxRecDepth 100000 in
theorem sl_X11_neighbourAt : Cond.selects RX11 yX11_neighbourAt yX11_neighbourAt ∈ BW := bw_in (List.mem_of_getElem? (i := 20) (by rfl)) (by rfl)
set_option maxRecDepth 100000 in
theorem ml_RX11_160 : Cond.methodLink RX11 160 yX0_shakes ∈ BW := bw_in (List.mem_of_getElem? (i := 1168) (by rfl)) (by rfl)
set_option maxRecDepth 100000 in
theorem cd_X11_roadAt : Cond.code yX11_roadAt cX11_roadAt 2 (some (.object "BlastPlanner$Road")) ∈ BW := bw_in (List.mem_of_getElem? (i := 1176) (by rfl)) (by rfl)
set_option maxRecDepth 100000 in
theorem ml_RX11_180 : Cond.methodLink RX11 180 yX11_roadAt ∈ BW := bw_in (List.mem_of_getElem? (i := 1173) (by rfl)) (by rfl)
set_option maxRecDepth 100000 in
theorem in_X11_roadAt : Cond.instanceMethod yX11_roadAt ∈ BW := bw_in (List.mem_of_getElem? (i := 1175) (by rfl)) (by rfl)
set_option maxRecDepth 100000 in
theorem sl_X11_roadAt : Cond.selects RX11 yX11_roadAt yX11_roadAt ∈ BW := bw_in (List.mem_of_getElem? (i := 21) (by rfl)) (by rfl)
set_option maxRecDepth 100000 in
theorem cd_X0_closesRoad : Cond.code yX0_closesRoad cX0_closesRoad 2 (some .boolean) ∈ BW := bw_in (List.mem_of_getElem? (i := 1181) (by rfl)) (by rfl)
set_option maxRecDepth 100000 in
theorem ml_RX11_184 : Cond.methodLink RX11 184 yX0_closesRoad ∈ BW := bw_in (List.mem_of_getElem? (i := 1178) (by rfl)) (by rfl)
set_option maxRecDepth 100000 in
theorem in_X0_closesRoad : Cond.instanceMethod yX0_closesRoad ∈ BW := bw_in (List.mem_of_getElem? (i := 1179) (by rfl)) (by rfl)
set_option maxRecDepth 100000 in
theorem sl_X0_closesRoad : Cond.selects RX0 yX0_closesRoad yX0_closesRoad ∈ BW := bw_in (List.mem_of_getElem? (i := 1180) (by rfl)) (by rfl)
set_option maxRecDepth 100000 in
theorem ml_RX11_190 : Cond.methodLink RX11 190 yX4_quietAt ∈ BW := bw_in (List.mem_of_getElem? (i := 1186) (by rfl)) (by rfl)
set_option maxRecDepth 100000 in
theorem cd_X11_needRange : Cond.code yX11_needRange cX11_needRange 4 none ∈ BW := bw_in (List.mem_of_getElem? (i := 1197) (by rfl)) (by rfl)
set_option maxRecDepth 100000 in
theorem ml_RX11_176 : Cond.methodLink RX11 176 yX11_needRange ∈ BW := bw_in (List.mem_of_getElem? (i := 1194) (by rfl)) (by rfl)
set_option maxRecDepth 100000 in
theorem in_X11_needRange : Cond.instanceMethod yX11_needRange ∈ BW := bw_in (List.mem_of_getElem? (i := 1196) (by rfl)) (by rfl)
set_option maxRecDepth 100000 in
theorem sl_X11_needRange : Cond.selects RX11 yX11_needRange yX11_needRange ∈ BW := bw_in (List.mem_of_getElem? (i := 22) (by rfl)) (by rfl)
set_option maxRecDepth 100000 in
theorem fl_RX11_193 : Cond.fieldLink RX11 193 "BlastPlanner$Blast" "dusty" "[I" ∈ BW := bw_in (List.mem_of_getElem? (i := 282) (by rfl)) (by rfl)
set_option maxRecDepth 100000 in
theorem fl_RX11_196 : Cond.fieldLink RX11 196 "BlastPlanner$Blast" "x" "I" ∈ BW := bw_in (List.mem_of_getElem? (i := 285) (by rfl)) (by rfl)
set_option maxRecDepth 100000 in
theorem fl_RX11_199 : Cond.fieldLink RX11 199 "BlastPlanner$Blast" "y" "I" ∈ BW := bw_in (List.mem_of_getElem? (i := 288) (by rfl)) (by rfl)
set_option maxRecDepth 100000 in
theorem ml_RX11_202 : Cond.methodLink RX11 202 yX7_comesWithin ∈ BW := bw_in (List.mem_of_getElem? (i := 1467) (by rfl)) (by rfl)
set_option maxRecDepth 100000 in
theorem fl_RX11_228 : Cond.fieldLink RX11 228 "BlastPlanner$Site" "times" "[I" ∈ BW := bw_in (List.mem_of_getElem? (i := 360) (by rfl)) (by rfl)
set_option maxRecDepth 100000 in
theorem cd_X10_begin : Cond.code yX10_begin cX10_begin 1 none ∈ BW := bw_in (List.mem_of_getElem? (i := 943) (by rfl)) (by rfl)
set_option maxRecDepth 100000 in
theorem ml_RX5_18 : Cond.methodLink RX5 18 yX10_begin ∈ BW := bw_in (List.mem_of_getElem? (i := 940) (by rfl)) (by rfl)
set_option maxRecDepth 100000 in
theorem in_X10_begin : Cond.instanceMethod yX10_begin ∈ BW := bw_in (List.mem_of_getElem? (i := 941) (by rfl)) (by rfl)
set_option maxRecDepth 100000 in
theorem sl_X10_begin : Cond.selects RX10 yX10_begin yX10_begin ∈ BW := bw_in (List.mem_of_getElem? (i := 942) (by rfl)) (by rfl)
set_option maxRecDepth 100000 in
theorem cd_X9_reset : Cond.code yX9_reset cX9_reset 2 none ∈ BW := bw_in (List.mem_of_getElem? (i := 338) (by rfl)) (by rfl)
set_option maxRecDepth 100000 in
theorem ni_RX9 : Cond.initialized RX9 ∈ BW := bw_in (List.mem_of_getElem? (i := 46) (by rfl)) (by rfl)
set_option maxRecDepth 100000 in
theorem ml_RX5_21 : Cond.methodLink RX5 21 yX9_reset ∈ BW := bw_in (List.mem_of_getElem? (i := 944) (by rfl)) (by rfl)
set_option maxRecDepth 100000 in
theorem in_X9_reset : Cond.instanceMethod yX9_reset ∈ BW := bw_in (List.mem_of_getElem? (i := 336) (by rfl)) (by rfl)
set_option maxRecDepth 100000 in
theorem sl_X9_reset : Cond.selects RX9 yX9_reset yX9_reset ∈ BW := bw_in (List.mem_of_getElem? (i := 337) (by rfl)) (by rfl)
set_option maxRecDepth 100000 in
theorem ml_RX5_26 : Cond.methodLink RX5 26 yX10_failed ∈ BW := bw_in (List.mem_of_getElem? (i := 945) (by rfl)) (by rfl)
set_option maxRecDepth 100000 in
theorem cd_X10_atEnd : Cond.code yX10_atEnd cX10_atEnd 1 (some .boolean) ∈ BW := bw_in (List.mem_of_getElem? (i := 952) (by rfl)) (by rfl)
set_option maxRecDepth 100000 in
theorem ml_RX5_30 : Cond.methodLink RX5 30 yX10_atEnd ∈ BW := bw_in (List.mem_of_getElem? (i := 949) (by rfl)) (by rfl)
set_option maxRecDepth 100000 in
theorem in_X10_atEnd : Cond.instanceMethod yX10_atEnd ∈ BW := bw_in (List.mem_of_getElem? (i := 950) (by rfl)) (by rfl)
set_option maxRecDepth 100000 in
theorem sl_X10_atEnd : Cond.selects RX10 yX10_atEnd yX10_atEnd ∈ BW := bw_in (List.mem_of_getElem? (i := 951) (by rfl)) (by rfl)
set_option maxRecDepth 100000 in
theorem cd_X10_tookWord : Cond.code yX10_tookWord cX10_tookWord 4 (some .boolean) ∈ BW := bw_in (List.mem_of_getElem? (i := 965) (by rfl)) (by rfl)
set_option maxRecDepth 100000 in
theorem ml_RX5_50 : Cond.methodLink RX5 50 yX10_tookWord ∈ BW := bw_in (List.mem_of_getElem? (i := 962) (by rfl)) (by rfl)
set_option maxRecDepth 100000 in
theorem in_X10_tookWord : Cond.instanceMethod yX10_tookWord ∈ BW := bw_in (List.mem_of_getElem? (i := 963) (by rfl)) (by rfl)
set_option maxRecDepth 100000 in
theorem sl_X10_tookWord : Cond.selects RX10 yX10_tookWord yX10_tookWord ∈ BW := bw_in (List.mem_of_getElem? (i := 964) (by rfl)) (by rfl)
set_option maxRecDepth 100000 in
theorem cd_X10_need : Cond.code yX10_need cX10_need 2 none ∈ BW := bw_in (List.mem_of_getElem? (i := 1025) (by rfl)) (by rfl)
set_option maxRecDepth 100000 in
theorem ml_RX5_40 : Cond.methodLink RX5 40 yX10_need ∈ BW := bw_in (List.mem_of_getElem? (i := 1022) (by rfl)) (by rfl)
set_option maxRecDepth 100000 in
theorem in_X10_need : Cond.instanceMethod yX10_need ∈ BW := bw_in (List.mem_of_getElem? (i := 1023) (by rfl)) (by rfl)
set_option maxRecDepth 100000 in
theorem sl_X10_need : Cond.selects RX10 yX10_need yX10_need ∈ BW := bw_in (List.mem_of_getElem? (i := 1024) (by rfl)) (by rfl)
set_option maxRecDepth 100000 in
theorem cd_X9_measureNeighbours : Cond.code yX9_measureNeighbours cX9_measureNeighbours 5 none ∈ BW := bw_in (List.mem_of_getElem? (i := 1076) (by rfl)) (by rfl)
set_option maxRecDepth 100000 in
theorem ml_RX9_82 : Cond.methodLink RX9 82 yX9_measureNeighbours ∈ BW := bw_in (List.mem_of_getElem? (i := 1073) (by rfl)) (by rfl)
set_option maxRecDepth 100000 in
theorem in_X9_measureNeighbours : Cond.instanceMethod yX9_measureNeighbours ∈ BW := bw_in (List.mem_of_getElem? (i := 1075) (by rfl)) (by rfl)
set_option maxRecDepth 100000 in
theorem sl_X9_measureNeighbours : Cond.selects RX9 yX9_measureNeighbours yX9_measureNeighbours ∈ BW := bw_in (List.mem_of_getElem? (i := 15) (by rfl)) (by rfl)
set_option maxRecDepth 100000 in
theorem cd_X9_measureRoads : Cond.code yX9_measureRoads cX9_measureRoads 3 none ∈ BW := bw_in (List.mem_of_getElem? (i := 1083) (by rfl)) (by rfl)
set_option maxRecDepth 100000 in
theorem ml_RX9_86 : Cond.methodLink RX9 86 yX9_measureRoads ∈ BW := bw_in (List.mem_of_getElem? (i := 1080) (by rfl)) (by rfl)
set_option maxRecDepth 100000 in
theorem in_X9_measureRoads : Cond.instanceMethod yX9_measureRoads ∈ BW := bw_in (List.mem_of_getElem? (i := 1082) (by rfl)) (by rfl)
set_option maxRecDepth 100000 in
theorem sl_X9_measureRoads : Cond.selects RX9 yX9_measureRoads yX9_measureRoads ∈ BW := bw_in (List.mem_of_getElem? (i := 16) (by rfl)) (by rfl)
set_option maxRecDepth 100000 in
theorem cd_X9_weigh : Cond.code yX9_weigh cX9_weigh 3 none ∈ BW := bw_in (List.mem_of_getElem? (i := 1103) (by rfl)) (by rfl)
set_option maxRecDepth 100000 in
theorem ml_RX9_96 : Cond.methodLink RX9 96 yX9_weigh ∈ BW := bw_in (List.mem_of_getElem? (i := 1100) (by rfl)) (by rfl)
set_option maxRecDepth 100000 in
theorem in_X9_weigh : Cond.instanceMethod yX9_weigh ∈ BW := bw_in (List.mem_of_getElem? (i := 1101) (by rfl)) (by rfl)
set_option maxRecDepth 100000 in
theorem sl_X9_weigh : Cond.selects RX9 yX9_weigh yX9_weigh ∈ BW := bw_in (List.mem_of_getElem? (i := 1102) (by rfl)) (by rfl)
set_option maxRecDepth 100000 in
theorem fl_RX9_89 : Cond.fieldLink RX9 89 "BlastPlanner$Blast" "dusty" "[I" ∈ BW := bw_in (List.mem_of_getElem? (i := 281) (by rfl)) (by rfl)
set_option maxRecDepth 100000 in
theorem cd_X9_neighboursInDust : Cond.code yX9_neighboursInDust cX9_neighboursInDust 11 (some .int) ∈ BW := bw_in (List.mem_of_getElem? (i := 1092) (by rfl)) (by rfl)
set_option maxRecDepth 100000 in
theorem ml_RX9_92 : Cond.methodLink RX9 92 yX9_neighboursInDust ∈ BW := bw_in (List.mem_of_getElem? (i := 1089) (by rfl)) (by rfl)
set_option maxRecDepth 100000 in
theorem in_X9_neighboursInDust : Cond.instanceMethod yX9_neighboursInDust ∈ BW := bw_in (List.mem_of_getElem? (i := 1091) (by rfl)) (by rfl)
set_option maxRecDepth 100000 in
theorem sl_X9_neighboursInDust : Cond.selects RX9 yX9_neighboursInDust yX9_neighboursInDust ∈ BW := bw_in (List.mem_of_getElem? (i := 17) (by rfl)) (by rfl)
set_option maxRecDepth 100000 in
theorem cd_X9_quietFor : Cond.code yX9_quietFor cX9_quietFor 4 (some .boolean) ∈ BW := bw_in (List.mem_of_getElem? (i := 1214) (by rfl)) (by rfl)
set_option maxRecDepth 100000 in
theorem ml_RX9_157 : Cond.methodLink RX9 157 yX9_quietFor ∈ BW := bw_in (List.mem_of_getElem? (i := 1211) (by rfl)) (by rfl)
set_option maxRecDepth 100000 in
theorem in_X9_quietFor : Cond.instanceMethod yX9_quietFor ∈ BW := bw_in (List.mem_of_getElem? (i := 1213) (by rfl)) (by rfl)
set_option maxRecDepth 100000 in
theorem sl_X9_quietFor : Cond.selects RX9 yX9_quietFor yX9_quietFor ∈ BW := bw_in (List.mem_of_getElem? (i := 23) (by rfl)) (by rfl)
set_option maxRecDepth 100000 in
theorem cd_X9_crowded : Cond.code yX9_crowded cX9_crowded 5 (some .boolean) ∈ BW := bw_in (List.mem_of_getElem? (i := 1219) (by rfl)) (by rfl)
set_option maxRecDepth 100000 in
theorem ml_RX9_161 : Cond.methodLink RX9 161 yX9_crowded ∈ BW := bw_in (List.mem_of_getElem? (i := 1216) (by rfl)) (by rfl)
set_option maxRecDepth 100000 in
theorem in_X9_crowded : Cond.instanceMethod yX9_crowded ∈ BW := bw_in (List.mem_of_getElem? (i := 1218) (by rfl)) (by rfl)
set_option maxRecDepth 100000 in
theorem sl_X9_crowded : Cond.selects RX9 yX9_crowded yX9_crowded ∈ BW := bw_in (List.mem_of_getElem? (i := 24) (by rfl)) (by rfl)
set_option maxRecDepth 100000 in
theorem cd_X10_nameUpTo : Cond.code yX10_nameUpTo cX10_nameUpTo 4 (some .int) ∈ BW := bw_in (List.mem_of_getElem? (i := 1002) (by rfl)) (by rfl)
set_option maxRecDepth 100000 in
theorem ml_RX10_48 : Cond.methodLink RX10 48 yX10_nameUpTo ∈ BW := bw_in (List.mem_of_getElem? (i := 999) (by rfl)) (by rfl)
set_option maxRecDepth 100000 in
theorem in_X10_nameUpTo : Cond.instanceMethod yX10_nameUpTo ∈ BW := bw_in (List.mem_of_getElem? (i := 1001) (by rfl)) (by rfl)
set_option maxRecDepth 100000 in
theorem sl_X10_nameUpTo : Cond.selects RX10 yX10_nameUpTo yX10_nameUpTo ∈ BW := bw_in (List.mem_of_getElem? (i := 7) (by rfl)) (by rfl)
set_option maxRecDepth 100000 in
theorem cd_X10_valueUpTo : Cond.code yX10_valueUpTo cX10_valueUpTo 4 (some .int) ∈ BW := bw_in (List.mem_of_getElem? (i := 1011) (by rfl)) (by rfl)
set_option maxRecDepth 100000 in
theorem ml_RX10_56 : Cond.methodLink RX10 56 yX10_valueUpTo ∈ BW := bw_in (List.mem_of_getElem? (i := 1008) (by rfl)) (by rfl)
set_option maxRecDepth 100000 in
theorem in_X10_valueUpTo : Cond.instanceMethod yX10_valueUpTo ∈ BW := bw_in (List.mem_of_getElem? (i := 1010) (by rfl)) (by rfl)
set_option maxRecDepth 100000 in
theorem sl_X10_valueUpTo : Cond.selects RX10 yX10_valueUpTo yX10_valueUpTo ∈ BW := bw_in (List.mem_of_getElem? (i := 8) (by rfl)) (by rfl)
set_option maxRecDepth 100000 in
theorem cd_X9_reasonAgainst : Cond.code yX9_reasonAgainst cX9_reasonAgainst 5 (some .int) ∈ BW := bw_in (List.mem_of_getElem? (i := 1210) (by rfl)) (by rfl)
set_option maxRecDepth 100000 in
theorem ml_RX11_235 : Cond.methodLink RX11 235 yX9_reasonAgainst ∈ BW := bw_in (List.mem_of_getElem? (i := 1207) (by rfl)) (by rfl)
set_option maxRecDepth 100000 in
theorem in_X9_reasonAgainst : Cond.instanceMethod yX9_reasonAgainst ∈ BW := bw_in (List.mem_of_getElem? (i := 1208) (by rfl)) (by rfl)
set_option maxRecDepth 100000 in
theorem sl_X9_reasonAgainst : Cond.selects RX9 yX9_reasonAgainst yX9_reasonAgainst ∈ BW := bw_in (List.mem_of_getElem? (i := 1209) (by rfl)) (by rfl)
set_option maxRecDepth 100000 in
theorem cd_X10_takeNumber : Cond.code yX10_takeNumber cX10_takeNumber 5 (some .int) ∈ BW := bw_in (List.mem_of_getElem? (i := 1006) (by rfl)) (by rfl)
set_option maxRecDepth 100000 in
theorem ml_RX5_73 : Cond.methodLink RX5 73 yX10_takeNumber ∈ BW := bw_in (List.mem_of_getElem? (i := 1003) (by rfl)) (by rfl)
set_option maxRecDepth 100000 in
theorem in_X10_takeNumber : Cond.instanceMethod yX10_takeNumber ∈ BW := bw_in (List.mem_of_getElem? (i := 1004) (by rfl)) (by rfl)
set_option maxRecDepth 100000 in
theorem sl_X10_takeNumber : Cond.selects RX10 yX10_takeNumber yX10_takeNumber ∈ BW := bw_in (List.mem_of_getElem? (i := 1005) (by rfl)) (by rfl)
set_option maxRecDepth 100000 in
theorem fl_RX5_105 : Cond.fieldLink RX5 105 "BlastPlanner$Site" "windDirections" "[I" ∈ BW := bw_in (List.mem_of_getElem? (i := 362) (by rfl)) (by rfl)
set_option maxRecDepth 100000 in
theorem fl_RX5_109 : Cond.fieldLink RX5 109 "BlastPlanner$Site" "windSpeeds" "[I" ∈ BW := bw_in (List.mem_of_getElem? (i := 364) (by rfl)) (by rfl)
set_option maxRecDepth 100000 in
theorem cd_X10_takeName : Cond.code yX10_takeName cX10_takeName 6 (some .int) ∈ BW := bw_in (List.mem_of_getElem? (i := 997) (by rfl)) (by rfl)
set_option maxRecDepth 100000 in
theorem ml_RX5_126 : Cond.methodLink RX5 126 yX10_takeName ∈ BW := bw_in (List.mem_of_getElem? (i := 994) (by rfl)) (by rfl)
set_option maxRecDepth 100000 in
theorem in_X10_takeName : Cond.instanceMethod yX10_takeName ∈ BW := bw_in (List.mem_of_getElem? (i := 995) (by rfl)) (by rfl)
set_option maxRecDepth 100000 in
theorem sl_X10_takeName : Cond.selects RX10 yX10_takeName yX10_takeName ∈ BW := bw_in (List.mem_of_getElem? (i := 996) (by rfl)) (by rfl)
set_option maxRecDepth 100000 in
theorem fl_RX5_130 : Cond.fieldLink RX5 130 "BlastPlanner$Neighbour" "x" "I" ∈ BW := bw_in (List.mem_of_getElem? (i := 227) (by rfl)) (by rfl)
set_option maxRecDepth 100000 in
theorem fl_RX5_135 : Cond.fieldLink RX5 135 "BlastPlanner$Neighbour" "y" "I" ∈ BW := bw_in (List.mem_of_getElem? (i := 229) (by rfl)) (by rfl)
set_option maxRecDepth 100000 in
theorem kc_RX5_138 : Cond.constant RX5 138 (99999) ∈ BW := bw_in (List.mem_of_getElem? (i := 1012) (by rfl)) (by rfl)
set_option maxRecDepth 100000 in
theorem fl_RX5_139 : Cond.fieldLink RX5 139 "BlastPlanner$Neighbour" "limit" "I" ∈ BW := bw_in (List.mem_of_getElem? (i := 230) (by rfl)) (by rfl)
set_option maxRecDepth 100000 in
theorem cd_X10_numberFollows : Cond.code yX10_numberFollows cX10_numberFollows 1 (some .boolean) ∈ BW := bw_in (List.mem_of_getElem? (i := 1016) (by rfl)) (by rfl)
set_option maxRecDepth 100000 in
theorem ml_RX5_145 : Cond.methodLink RX5 145 yX10_numberFollows ∈ BW := bw_in (List.mem_of_getElem? (i := 1013) (by rfl)) (by rfl)
set_option maxRecDepth 100000 in
theorem in_X10_numberFollows : Cond.instanceMethod yX10_numberFollows ∈ BW := bw_in (List.mem_of_getElem? (i := 1014) (by rfl)) (by rfl)
set_option maxRecDepth 100000 in
theorem sl_X10_numberFollows : Cond.selects RX10 yX10_numberFollows yX10_numberFollows ∈ BW := bw_in (List.mem_of_getElem? (i := 1015) (by rfl)) (by rfl)
set_option maxRecDepth 100000 in
theorem cd_X4_addWindow : Cond.code yX4_addWindow cX4_addWindow 3 none ∈ BW := bw_in (List.mem_of_getElem? (i := 1029) (by rfl)) (by rfl)
set_option maxRecDepth 100000 in
theorem ml_RX5_154 : Cond.methodLink RX5 154 yX4_addWindow ∈ BW := bw_in (List.mem_of_getElem? (i := 1026) (by rfl)) (by rfl)
set_option maxRecDepth 100000 in
theorem in_X4_addWindow : Cond.instanceMethod yX4_addWindow ∈ BW := bw_in (List.mem_of_getElem? (i := 1027) (by rfl)) (by rfl)
set_option maxRecDepth 100000 in
theorem sl_X4_addWindow : Cond.selects RX4 yX4_addWindow yX4_addWindow ∈ BW := bw_in (List.mem_of_getElem? (i := 1028) (by rfl)) (by rfl)
set_option maxRecDepth 100000 in
theorem ml_RX5_115 : Cond.methodLink RX5 115 yX10_fail ∈ BW := bw_in (List.mem_of_getElem? (i := 990) (by rfl)) (by rfl)
set_option maxRecDepth 100000 in
theorem fl_RX5_167 : Cond.fieldLink RX5 167 "BlastPlanner$Road" "x1" "I" ∈ BW := bw_in (List.mem_of_getElem? (i := 254) (by rfl)) (by rfl)
set_option maxRecDepth 100000 in
theorem fl_RX5_172 : Cond.fieldLink RX5 172 "BlastPlanner$Road" "y1" "I" ∈ BW := bw_in (List.mem_of_getElem? (i := 256) (by rfl)) (by rfl)
set_option maxRecDepth 100000 in
theorem fl_RX5_175 : Cond.fieldLink RX5 175 "BlastPlanner$Road" "x2" "I" ∈ BW := bw_in (List.mem_of_getElem? (i := 258) (by rfl)) (by rfl)
set_option maxRecDepth 100000 in
theorem fl_RX5_178 : Cond.fieldLink RX5 178 "BlastPlanner$Road" "y2" "I" ∈ BW := bw_in (List.mem_of_getElem? (i := 260) (by rfl)) (by rfl)
set_option maxRecDepth 100000 in
theorem fl_RX5_191 : Cond.fieldLink RX5 191 "BlastPlanner$Blast" "x" "I" ∈ BW := bw_in (List.mem_of_getElem? (i := 284) (by rfl)) (by rfl)
set_option maxRecDepth 100000 in
theorem fl_RX5_194 : Cond.fieldLink RX5 194 "BlastPlanner$Blast" "y" "I" ∈ BW := bw_in (List.mem_of_getElem? (i := 287) (by rfl)) (by rfl)
set_option maxRecDepth 100000 in
theorem fl_RX5_195 : Cond.fieldLink RX5 195 "BlastPlanner$Blast" "radius" "I" ∈ BW := bw_in (List.mem_of_getElem? (i := 290) (by rfl)) (by rfl)
set_option maxRecDepth 100000 in
theorem fl_RX5_198 : Cond.fieldLink RX5 198 "BlastPlanner$Blast" "fired" "Z" ∈ BW := bw_in (List.mem_of_getElem? (i := 303) (by rfl)) (by rfl)
set_option maxRecDepth 100000 in
theorem cd_X0_addCharge : Cond.code yX0_addCharge cX0_addCharge 3 none ∈ BW := bw_in (List.mem_of_getElem? (i := 1048) (by rfl)) (by rfl)
set_option maxRecDepth 100000 in
theorem ml_RX5_211 : Cond.methodLink RX5 211 yX0_addCharge ∈ BW := bw_in (List.mem_of_getElem? (i := 1045) (by rfl)) (by rfl)
set_option maxRecDepth 100000 in
theorem in_X0_addCharge : Cond.instanceMethod yX0_addCharge ∈ BW := bw_in (List.mem_of_getElem? (i := 1046) (by rfl)) (by rfl)
set_option maxRecDepth 100000 in
theorem sl_X0_addCharge : Cond.selects RX0 yX0_addCharge yX0_addCharge ∈ BW := bw_in (List.mem_of_getElem? (i := 1047) (by rfl)) (by rfl)
set_option maxRecDepth 100000 in
theorem cd_X5_parseWind : Cond.code yX5_parseWind cX5_parseWind 5 none ∈ BW := bw_in (List.mem_of_getElem? (i := 1061) (by rfl)) (by rfl)
set_option maxRecDepth 100000 in
theorem ni_RX5 : Cond.initialized RX5 ∈ BW := bw_in (List.mem_of_getElem? (i := 39) (by rfl)) (by rfl)
set_option maxRecDepth 100000 in
theorem ml_RX5_102 : Cond.methodLink RX5 102 yX5_parseWind ∈ BW := bw_in (List.mem_of_getElem? (i := 1058) (by rfl)) (by rfl)
set_option maxRecDepth 100000 in
theorem in_X5_parseWind : Cond.instanceMethod yX5_parseWind ∈ BW := bw_in (List.mem_of_getElem? (i := 1060) (by rfl)) (by rfl)
set_option maxRecDepth 100000 in
theorem sl_X5_parseWind : Cond.selects RX5 yX5_parseWind yX5_parseWind ∈ BW := bw_in (List.mem_of_getElem? (i := 14) (by rfl)) (by rfl)
set_option maxRecDepth 100000 in
theorem fl_RX5_97 : Cond.fieldLink RX5 97 "BlastPlanner$Site" "spacing" "I" ∈ BW := bw_in (List.mem_of_getElem? (i := 390) (by rfl)) (by rfl)
set_option maxRecDepth 100000 in
theorem fl_RX5_89 : Cond.fieldLink RX5 89 "BlastPlanner$Site" "before" "I" ∈ BW := bw_in (List.mem_of_getElem? (i := 385) (by rfl)) (by rfl)
set_option maxRecDepth 100000 in
theorem fl_RX5_92 : Cond.fieldLink RX5 92 "BlastPlanner$Site" "after" "I" ∈ BW := bw_in (List.mem_of_getElem? (i := 388) (by rfl)) (by rfl)
set_option maxRecDepth 100000 in
theorem fl_RX5_85 : Cond.fieldLink RX5 85 "BlastPlanner$Site" "step" "I" ∈ BW := bw_in (List.mem_of_getElem? (i := 383) (by rfl)) (by rfl)
set_option maxRecDepth 100000 in
theorem fl_RX5_77 : Cond.fieldLink RX5 77 "BlastPlanner$Site" "dayFirst" "I" ∈ BW := bw_in (List.mem_of_getElem? (i := 379) (by rfl)) (by rfl)
set_option maxRecDepth 100000 in
theorem fl_RX5_80 : Cond.fieldLink RX5 80 "BlastPlanner$Site" "dayLast" "I" ∈ BW := bw_in (List.mem_of_getElem? (i := 381) (by rfl)) (by rfl)
set_option maxRecDepth 100000 in
theorem cd_X5_parseWindow : Cond.code yX5_parseWindow cX5_parseWindow 4 none ∈ BW := bw_in (List.mem_of_getElem? (i := 1020) (by rfl)) (by rfl)
set_option maxRecDepth 100000 in
theorem ml_RX5_148 : Cond.methodLink RX5 148 yX5_parseWindow ∈ BW := bw_in (List.mem_of_getElem? (i := 1017) (by rfl)) (by rfl)
set_option maxRecDepth 100000 in
theorem in_X5_parseWindow : Cond.instanceMethod yX5_parseWindow ∈ BW := bw_in (List.mem_of_getElem? (i := 1019) (by rfl)) (by rfl)
set_option maxRecDepth 100000 in
theorem sl_X5_parseWindow : Cond.selects RX5 yX5_parseWindow yX5_parseWindow ∈ BW := bw_in (List.mem_of_getElem? (i := 9) (by rfl)) (by rfl)
set_option maxRecDepth 100000 in
theorem cd_X5_parseCharge : Cond.code yX5_parseCharge cX5_parseCharge 4 none ∈ BW := bw_in (List.mem_of_getElem? (i := 1043) (by rfl)) (by rfl)
set_option maxRecDepth 100000 in
theorem ml_RX5_205 : Cond.methodLink RX5 205 yX5_parseCharge ∈ BW := bw_in (List.mem_of_getElem? (i := 1040) (by rfl)) (by rfl)
set_option maxRecDepth 100000 in
theorem in_X5_parseCharge : Cond.instanceMethod yX5_parseCharge ∈ BW := bw_in (List.mem_of_getElem? (i := 1042) (by rfl)) (by rfl)
set_option maxRecDepth 100000 in
theorem sl_X5_parseCharge : Cond.selects RX5 yX5_parseCharge yX5_parseCharge ∈ BW := bw_in (List.mem_of_getElem? (i := 12) (by rfl)) (by rfl)
set_option maxRecDepth 100000 in
theorem cd_X5_parseSetting : Cond.code yX5_parseSetting cX5_parseSetting 2 none ∈ BW := bw_in (List.mem_of_getElem? (i := 1052) (by rfl)) (by rfl)
set_option maxRecDepth 100000 in
theorem ml_RX5_68 : Cond.methodLink RX5 68 yX5_parseSetting ∈ BW := bw_in (List.mem_of_getElem? (i := 1049) (by rfl)) (by rfl)
set_option maxRecDepth 100000 in
theorem in_X5_parseSetting : Cond.instanceMethod yX5_parseSetting ∈ BW := bw_in (List.mem_of_getElem? (i := 1051) (by rfl)) (by rfl)
set_option maxRecDepth 100000 in
theorem sl_X5_parseSetting : Cond.selects RX5 yX5_parseSetting yX5_parseSetting ∈ BW := bw_in (List.mem_of_getElem? (i := 13) (by rfl)) (by rfl)
set_option maxRecDepth 100000 in
theorem cd_X5_parseBlast : Cond.code yX5_parseBlast cX5_parseBlast 6 none ∈ BW := bw_in (List.mem_of_getElem? (i := 1039) (by rfl)) (by rfl)
set_option maxRecDepth 100000 in
theorem ml_RX5_65 : Cond.methodLink RX5 65 yX5_parseBlast ∈ BW := bw_in (List.mem_of_getElem? (i := 1036) (by rfl)) (by rfl)
set_option maxRecDepth 100000 in
theorem in_X5_parseBlast : Cond.instanceMethod yX5_parseBlast ∈ BW := bw_in (List.mem_of_getElem? (i := 1038) (by rfl)) (by rfl)
set_option maxRecDepth 100000 in
theorem sl_X5_parseBlast : Cond.selects RX5 yX5_parseBlast yX5_parseBlast ∈ BW := bw_in (List.mem_of_getElem? (i := 11) (by rfl)) (by rfl)
set_option maxRecDepth 100000 in
theorem cd_X5_parseRoad : Cond.code yX5_parseRoad cX5_parseRoad 5 none ∈ BW := bw_in (List.mem_of_getElem? (i := 1034) (by rfl)) (by rfl)
set_option maxRecDepth 100000 in
theorem ml_RX5_60 : Cond.methodLink RX5 60 yX5_parseRoad ∈ BW := bw_in (List.mem_of_getElem? (i := 1031) (by rfl)) (by rfl)
set_option maxRecDepth 100000 in
theorem in_X5_parseRoad : Cond.instanceMethod yX5_parseRoad ∈ BW := bw_in (List.mem_of_getElem? (i := 1033) (by rfl)) (by rfl)
set_option maxRecDepth 100000 in
theorem sl_X5_parseRoad : Cond.selects RX5 yX5_parseRoad yX5_parseRoad ∈ BW := bw_in (List.mem_of_getElem? (i := 10) (by rfl)) (by rfl)
set_option maxRecDepth 100000 in
theorem cd_X5_parseNeighbour : Cond.code yX5_parseNeighbour cX5_parseNeighbour 6 none ∈ BW := bw_in (List.mem_of_getElem? (i := 989) (by rfl)) (by rfl)
set_option maxRecDepth 100000 in
theorem ml_RX5_54 : Cond.methodLink RX5 54 yX5_parseNeighbour ∈ BW := bw_in (List.mem_of_getElem? (i := 986) (by rfl)) (by rfl)
set_option maxRecDepth 100000 in
theorem in_X5_parseNeighbour : Cond.instanceMethod yX5_parseNeighbour ∈ BW := bw_in (List.mem_of_getElem? (i := 988) (by rfl)) (by rfl)
set_option maxRecDepth 100000 in
theorem sl_X5_parseNeighbour : Cond.selects RX5 yX5_parseNeighbour yX5_parseNeighbour ∈ BW := bw_in (List.mem_of_getElem? (i := 6) (by rfl)) (by rfl)
set_option maxRecDepth 100000 in
theorem cd_X5_parseLine : Cond.code yX5_parseLine cX5_parseLine 3 none ∈ BW := bw_in (List.mem_of_getElem? (i := 960) (by rfl)) (by rfl)
set_option maxRecDepth 100000 in
theorem ml_RX5_33 : Cond.methodLink RX5 33 yX5_parseLine ∈ BW := bw_in (List.mem_of_getElem? (i := 957) (by rfl)) (by rfl)
set_option maxRecDepth 100000 in
theorem in_X5_parseLine : Cond.instanceMethod yX5_parseLine ∈ BW := bw_in (List.mem_of_getElem? (i := 959) (by rfl)) (by rfl)
set_option maxRecDepth 100000 in
theorem sl_X5_parseLine : Cond.selects RX5 yX5_parseLine yX5_parseLine ∈ BW := bw_in (List.mem_of_getElem? (i := 4) (by rfl)) (by rfl)
set_option maxRecDepth 100000 in
theorem cd_X10_tookSemicolon : Cond.code yX10_tookSemicolon cX10_tookSemicolon 1 (some .boolean) ∈ BW := bw_in (List.mem_of_getElem? (i := 1065) (by rfl)) (by rfl)
set_option maxRecDepth 100000 in
theorem ml_RX5_37 : Cond.methodLink RX5 37 yX10_tookSemicolon ∈ BW := bw_in (List.mem_of_getElem? (i := 1062) (by rfl)) (by rfl)
set_option maxRecDepth 100000 in
theorem in_X10_tookSemicolon : Cond.instanceMethod yX10_tookSemicolon ∈ BW := bw_in (List.mem_of_getElem? (i := 1063) (by rfl)) (by rfl)
set_option maxRecDepth 100000 in
theorem sl_X10_tookSemicolon : Cond.selects RX10 yX10_tookSemicolon yX10_tookSemicolon ∈ BW := bw_in (List.mem_of_getElem? (i := 1064) (by rfl)) (by rfl)
set_option maxRecDepth 100000 in
theorem at_RX11_94 : (∀ w ∈ vx_atS RX11 94 "java/lang/IllegalArgumentException" ["java/lang/RuntimeException", "java/lang/Exception"], w ∈ BW) ∧ ∀ w ∈ Cond.classLink RX11 90 "java/lang/IllegalArgumentException" :: Cond.initialized "java/lang/IllegalArgumentException" :: vx_atS RX11 94 "java/lang/IllegalArgumentException" ["java/lang/RuntimeException", "java/lang/Exception"], vx_ot w = true :=
  ⟨fun w h => bw_in (of_decide_eq_true (List.all_eq_true.mp (show (vx_atS RX11 94 "java/lang/IllegalArgumentException" ["java/lang/RuntimeException", "java/lang/Exception"]).all (fun w => decide (w ∈ lw_tbl)) = true by decide +kernel) w h)) (List.all_eq_true.mp (show (vx_atS RX11 94 "java/lang/IllegalArgumentException" ["java/lang/RuntimeException", "java/lang/Exception"]).all wok = true by decide +kernel) w h), fun w h => List.all_eq_true.mp (show (Cond.classLink RX11 90 "java/lang/IllegalArgumentException" :: Cond.initialized "java/lang/IllegalArgumentException" :: vx_atS RX11 94 "java/lang/IllegalArgumentException" ["java/lang/RuntimeException", "java/lang/Exception"]).all vx_ot = true by decide +kernel) w h⟩
set_option maxRecDepth 100000 in
theorem at_RX11_360 : (∀ w ∈ vx_atS RX11 360 "java/lang/IndexOutOfBoundsException" ["java/lang/RuntimeException", "java/lang/Exception"], w ∈ BW) ∧ ∀ w ∈ Cond.classLink RX11 356 "java/lang/IndexOutOfBoundsException" :: Cond.initialized "java/lang/IndexOutOfBoundsException" :: vx_atS RX11 360 "java/lang/IndexOutOfBoundsException" ["java/lang/RuntimeException", "java/lang/Exception"], vx_ot w = true :=
  ⟨fun w h => bw_in (of_decide_eq_true (List.all_eq_true.mp (show (vx_atS RX11 360 "java/lang/IndexOutOfBoundsException" ["java/lang/RuntimeException", "java/lang/Exception"]).all (fun w => decide (w ∈ lw_tbl)) = true by decide +kernel) w h)) (List.all_eq_true.mp (show (vx_atS RX11 360 "java/lang/IndexOutOfBoundsException" ["java/lang/RuntimeException", "java/lang/Exception"]).all wok = true by decide +kernel) w h), fun w h => List.all_eq_true.mp (show (Cond.classLink RX11 356 "java/lang/IndexOutOfBoundsException" :: Cond.initialized "java/lang/IndexOutOfBoundsException" :: vx_atS RX11 360 "java/lang/IndexOutOfBoundsException" ["java/lang/RuntimeException", "java/lang/Exception"]).all vx_ot = true by decide +kernel) w h⟩
end
section
/-! ===== texts, the wind's rows, JDK methods ===== -/
section W3
variable {l : Launch} {g : GL} {p : Program} {e : Jvm.Env} {R0 : Room} {s : State} {m : MethodId} {args : Array Value} {below : List Frame} {meth : Method} {c : Code} {H : Heap} {locs : List Loc} {cells slots : Nat} {Q : State → Prop}
variable {cc : ByteArray} {nL : Nat} {own : String} {pc n : Nat} {ls : Array Slot} {rest : List Value} {σ0 : Sg} {σ : SI} {R : Nat → Nat → Nat} {L : Nat → Nat → Int64} {index : Nat}
theorem x_env (C : Cx l g p s m meth c cc nL own) : EnvX g s s.heap := C.2.2.2.2.1.x C.2.2.2.2.2.1
theorem x_ldcs (C : Cx l g p s m meth c cc nL own) {k ia : Nat} {tx : String} (hq : (own, k, tx, ia) ∈ strTab) (hdg : decode cc pc = .ok (.ldc k, 2))
    (kk : W p l e R0 s m args below meth c H locs cells slots Q (F0 m (pc + 2) ls (.ref (gS g ia) :: rest))) : W p l e R0 s m args below meth c H locs cells slots Q (F0 m pc ls rest) :=
  va_ldcS C.1 C.2.1 C.2.2.2.1 ((x_env C).1 _ hq) hdg kk
theorem x_ldcsW (C : Cx l g p s m meth c cc nL own) {k ia : Nat} {tx : String} (hq : (own, k, tx, ia) ∈ strTab) (hdg : decode cc pc = .ok (.ldc_w k, 3))
    (kk : W p l e R0 s m args below meth c H locs cells slots Q (F0 m (pc + 3) ls (.ref (gS g ia) :: rest))) : W p l e R0 s m args below meth c H locs cells slots Q (F0 m pc ls rest) := by
  have hZ := (x_env C).1 _ hq
  intro T hT X
  obtain ⟨t, a1, b1⟩ := kk T hT X
  exact ⟨t, X.ldcStringW C.1 C.2.2.2.1 (text := tx) (a := gS g ia) hZ.1 hZ.2 (g := F0 m pc ls rest) rfl (by rw [C.2.1]; exact hdg) t a1, b1⟩
theorem x_gets900 (C : Cx l g p s m meth c cc nL RX9) (S : StL g n s σ0 H locs) (hw : Cond.fieldLink RX9 index RX9 "WIND_X" "[I" ∈ BW) (hdg : decode cc pc = .ok (.getstatic index, 3))
    (kk : W p l e R0 s m args below meth c H locs cells slots Q (F0 m (pc + 3) ls (.ref (gV g 900) :: rest))) : W p l e R0 s m args below meth c H locs cells slots Q (F0 m pc ls rest) :=
  va_gets C.1 C.2.1 (x_env C).2.2.1 S.2 C.2.2.2.1 (C.2.2.2.2.1.w hw) (fun x h => h) hdg kk
theorem x_gets901 (C : Cx l g p s m meth c cc nL RX9) (S : StL g n s σ0 H locs) (hw : Cond.fieldLink RX9 index RX9 "WIND_Y" "[I" ∈ BW) (hdg : decode cc pc = .ok (.getstatic index, 3))
    (kk : W p l e R0 s m args below meth c H locs cells slots Q (F0 m (pc + 3) ls (.ref (gV g 901) :: rest))) : W p l e R0 s m args below meth c H locs cells slots Q (F0 m pc ls rest) :=
  va_gets C.1 C.2.1 (x_env C).2.2.2.1 S.2 C.2.2.2.1 (C.2.2.2.2.1.w hw) (fun x h => h) hdg kk
theorem x_wald900 (C : Cx l g p s m meth c cc nL own) (S : StL g n s σ0 H locs) {i : Int32} (hin : vp_in i 8) (hdg : decode cc pc = .ok (.iaload, 1))
    (kk : W p l e R0 s m args below meth c H locs cells slots Q (F0 m (pc + 1) ls (.int (wxL.getD i.toNatClampNeg 0) :: rest))) : W p l e R0 s m args below meth c H locs cells slots Q (F0 m pc ls (.int i :: .ref (gV g 900) :: rest)) :=
  va_ti C.1 C.2.1 (x_env C).2.2.2.2.1 S.2 hin rfl hdg kk
theorem x_wald901 (C : Cx l g p s m meth c cc nL own) (S : StL g n s σ0 H locs) {i : Int32} (hin : vp_in i 8) (hdg : decode cc pc = .ok (.iaload, 1))
    (kk : W p l e R0 s m args below meth c H locs cells slots Q (F0 m (pc + 1) ls (.int (wyL.getD i.toNatClampNeg 0) :: rest))) : W p l e R0 s m args below meth c H locs cells slots Q (F0 m pc ls (.int i :: .ref (gV g 901) :: rest)) :=
  va_ti C.1 C.2.1 (x_env C).2.2.2.2.2.1 S.2 hin rfl hdg kk
theorem x_wlen900 (C : Cx l g p s m meth c cc nL own) (S : StL g n s σ0 H locs) (hdg : decode cc pc = .ok (.arraylength, 1))
    (kk : W p l e R0 s m args below meth c H locs cells slots Q (F0 m (pc + 1) ls (.int (Int32.ofNat 8) :: rest))) : W p l e R0 s m args below meth c H locs cells slots Q (F0 m pc ls (.ref (gV g 900) :: rest)) :=
  va_tlen C.1 C.2.1 (x_env C).2.2.2.2.1 S.2 rfl hdg kk
-- texts
theorem x_str (C : Cx l g p s m meth c cc nL own) {t : Nat} (ht : t < 22) : va_O "java/lang/String" (gS g t) (gA g) s s.heap ∧ va_OF "java/lang/String" "coder" "B" (.int 0) (gS g t) (gA g) s s.heap ∧ va_OF "java/lang/String" "value" "[B" (.ref (gV g t)) (gS g t) (gA g) s s.heap ∧ va_T .byte (gV g t) (strLen.getD t 0) (fun j => .int ((strByt.getD t []).getD j 0)) (gA g) s s.heap :=
  (x_env C).2.1.1 t ht
theorem x_scoder (C : Cx l g p s m meth c cc nL "java/lang/String") (S : StL g n s σ0 H locs) {t : Nat} (ht : t < 22) (hw : Cond.fieldLink "java/lang/String" index "java/lang/String" "coder" "B" ∈ BW) (hdg : decode cc pc = .ok (.getfield index, 3))
    (kk : W p l e R0 s m args below meth c H locs cells slots Q (F0 m (pc + 3) ls (.int 0 :: rest))) : W p l e R0 s m args below meth c H locs cells slots Q (F0 m pc ls (.ref (gS g t) :: rest)) :=
  vk_getf C.1 C.2.1 (x_str C ht).2.1 S.2 C.2.2.2.1 (C.2.2.2.2.1.w hw) (fun x h => h) hdg kk
theorem x_svalue (C : Cx l g p s m meth c cc nL "java/lang/String") (S : StL g n s σ0 H locs) {t : Nat} (ht : t < 22) (hw : Cond.fieldLink "java/lang/String" index "java/lang/String" "value" "[B" ∈ BW) (hdg : decode cc pc = .ok (.getfield index, 3))
    (kk : W p l e R0 s m args below meth c H locs cells slots Q (F0 m (pc + 3) ls (.ref (gV g t) :: rest))) : W p l e R0 s m args below meth c H locs cells slots Q (F0 m pc ls (.ref (gS g t) :: rest)) :=
  vk_getf C.1 C.2.1 (x_str C ht).2.2.1 S.2 C.2.2.2.1 (C.2.2.2.2.1.w hw) (fun x h => h) hdg kk
theorem x_slen (C : Cx l g p s m meth c cc nL own) (S : StL g n s σ0 H locs) {t : Nat} (ht : t < 22) (hdg : decode cc pc = .ok (.arraylength, 1))
    (kk : W p l e R0 s m args below meth c H locs cells slots Q (F0 m (pc + 1) ls (.int (Int32.ofNat (strLen.getD t 0)) :: rest))) : W p l e R0 s m args below meth c H locs cells slots Q (F0 m pc ls (.ref (gV g t) :: rest)) :=
  va_tlen C.1 C.2.1 (x_str C ht).2.2.2 S.2 rfl hdg kk
theorem x_sbald (C : Cx l g p s m meth c cc nL own) (S : StL g n s σ0 H locs) {t : Nat} (ht : t < 22) {i : Int32} (hin : vp_in i (strLen.getD t 0)) (hdg : decode cc pc = .ok (.baload, 1))
    (kk : W p l e R0 s m args below meth c H locs cells slots Q (F0 m (pc + 1) ls (.int ((strByt.getD t []).getD i.toNatClampNeg 0) :: rest))) : W p l e R0 s m args below meth c H locs cells slots Q (F0 m pc ls (.int i :: .ref (gV g t) :: rest)) :=
  va_tb C.1 C.2.1 (x_str C ht).2.2.2 S.2 hin rfl hdg kk
theorem x_compact (C : Cx l g p s m meth c cc nL "java/lang/String") (S : StL g n s σ0 H locs) (hw : Cond.fieldLink "java/lang/String" index "java/lang/String" "COMPACT_STRINGS" "Z" ∈ BW) (hdg : decode cc pc = .ok (.getstatic index, 3))
    (kk : W p l e R0 s m args below meth c H locs cells slots Q (F0 m (pc + 3) ls (.int 1 :: rest))) : W p l e R0 s m args below meth c H locs cells slots Q (F0 m pc ls rest) :=
  va_gets C.1 C.2.1 (x_env C).2.2.2.2.2.2.1 S.2 C.2.2.2.1 (C.2.2.2.2.1.w hw) (fun x h => h) hdg kk
theorem x_form (C : Cx l g p s m meth c cc nL "java/lang/String") (S : StL g n s σ0 H locs) (hw : Cond.fieldLink "java/lang/String" index "jdk/internal/util/Preconditions" "SIOOBE_FORMATTER" "Ljava/util/function/BiFunction;" ∈ BW) (hdg : decode cc pc = .ok (.getstatic index, 3))
    (kn : W p l e R0 s m args below meth c H locs cells slots Q (F0 m (pc + 3) ls (.null :: rest))) (kr : ∀ q : Nat, W p l e R0 s m args below meth c H locs cells slots Q (F0 m (pc + 3) ls (.ref q :: rest))) : W p l e R0 s m args below meth c H locs cells slots Q (F0 m pc ls rest) := by
  rcases (x_env C).2.2.2.2.2.2.2.1 with h | ⟨t, h⟩
  · exact va_gets C.1 C.2.1 h S.2 C.2.2.2.1 (C.2.2.2.2.1.w hw) (fun x h => h) hdg kn
  · exact va_gets C.1 C.2.1 h S.2 C.2.2.2.1 (C.2.2.2.2.1.w hw) (fun x h => h) hdg (kr t)
/-- a call whose receiver is a text -/
theorem x_callJ {mL d mc ms : Nat} {y : MethodName} {b : ByteArray} {ret : Option FieldType} {As st : List Value} {σ1 : SI} {a : Int32} (C : Cx l g p s m meth c cc nL own) (S : S2 g s σ R L H locs) {t : Nat} (ht : t < 22) (hM : Ct l g d y b mL ret 202 202 mc ms (.ref (gS g t) :: As) (mkS σ R L) (PI R L (a, σ1)))
    (hw : Cond.code y b mL ret ∈ BW ∧ Cond.initialized y.cls ∈ BW ∧ Cond.methodLink own index y ∈ BW ∧ Cond.instanceMethod y ∈ BW ∧ Cond.selects "java/lang/String" y y ∈ BW) (hy : y.cls ≠ "java/lang/invoke/MethodHandle" ∧ y.cls ≠ "java/lang/invoke/VarHandle") (hlen : (parseMethodDescriptor y.desc).map (fun d => d.parameters.length) = some As.length)
    (hroom : d + 1 ≤ R0.frames ∧ 8 + (mL + 11) + 64 * d ≤ R0.locals) (hsize : ls.size = nL) (hst : st = As.reverse ++ .ref (gS g t) :: rest) (hW : (rest.map fun v => v.category).sum ≤ 8) (hf : cells + mc ≤ R0.cells ∧ slots + ms ≤ R0.slots) (hdg : decode cc pc = .ok (.invokevirtual index, 3))
    (kk : ∀ (H1 : Heap) (locs1 : List Loc), S2 g s σ1 R L H1 locs1 → W p l e R0 s m args below meth c H1 locs1 (cells + mc) (slots + ms) Q (F0 m (pc + 3) ls (.int a :: rest))) : W p l e R0 s m args below meth c H locs cells slots Q (F0 m pc ls st) := by
  refine v_go (g0 := F0 m pc ls st) ⟨rfl, rfl⟩ (va_runV (Ts := []) ⟨C.1, C.2.1, C.2.2.1, C.2.2.2.1, fun w h => by cases h⟩ hM ⟨v_cb C hw.1 hw.2.1 hw.2.2.1 hy hlen hroom, C.2.2.2.2.1.w hw.2.2.2.1, C.2.2.2.2.1.w hw.2.2.2.2⟩ ⟨Pcc.blind, vk_recv (x_env C).2.1 ht S.2, v_pcc C S _⟩ rfl rfl hsize hst (lv_room hW) hdg hf) S (fun v σ' H1 locs1 hp hS => ?_)
  obtain ⟨rfl, rfl⟩ := hp
  exact kk H1 locs1 hS
-- throwing
theorem x_iretX {r : (Int32 ⊕ Nat) × SI} {mc ms : Nat} (C : Cx l g p s m meth c cc nL own) (S : S2 g s σ R L H locs) (hr : meth.sig.returnType = some .int) (h1 : cells ≤ mc) (h2 : slots ≤ ms) {v : Int32} (hp : some (.inl v, σ) = some r) (hdg : decode cc pc = .ok (.ireturn, 1)) : W p l e R0 s m args below meth c H locs cells slots (vx_MQ below (Qg g 202 (PIX R L r)) (Xg g 202 (PX R L r)) args s mc ms (gA g)) (F0 m pc ls [.int v]) :=
  vx_ret (W.widen h1 h2 (v_iret C S hr (by cases hp; exact ⟨_, rfl, rfl, rfl⟩) hdg))
theorem x_zretX {r : (Int32 ⊕ Nat) × SI} {mc ms : Nat} (C : Cx l g p s m meth c cc nL own) (S : S2 g s σ R L H locs) (hr : meth.sig.returnType = some .boolean) (h1 : cells ≤ mc) (h2 : slots ≤ ms) {v : Int32} (hv : v = 0 ∨ v = 1) (hp : some (.inl v, σ) = some r) (hdg : decode cc pc = .ok (.ireturn, 1)) : W p l e R0 s m args below meth c H locs cells slots (vx_MQ below (Qg g 202 (PIX R L r)) (Xg g 202 (PX R L r)) args s mc ms (gA g)) (F0 m pc ls [.int v]) :=
  vx_ret (W.widen h1 h2 (v_zret C S hr hv (by cases hp; exact ⟨_, rfl, rfl, rfl⟩) hdg))
theorem x_vretX {r : (Unit ⊕ Nat) × SI} {mc ms : Nat} (C : Cx l g p s m meth c cc nL own) (S : S2 g s σ R L H locs) (hr : meth.sig.returnType = none) (h1 : cells ≤ mc) (h2 : slots ≤ ms) (hp : some (.inl (), σ) = some r) (hdg : decode cc pc = .ok (.return_, 1)) : W p l e R0 s m args below meth c H locs cells slots (vx_MQ below (Qg g 202 (PVX R L r)) (Xg g 202 (PX R L r)) args s mc ms (gA g)) (F0 m pc ls []) :=
  vx_ret (W.widen h1 h2 (v_vret C S hr (by cases hp; exact ⟨_, rfl, rfl, rfl⟩) hdg))
theorem x_aretX {r : (Nat ⊕ Nat) × SI} {mc ms d id : Nat} {C9 : String} (C : Cx l g p s m meth c cc nL own) (S : S2 g s σ R L H locs) (hr : meth.sig.returnType = some (.object C9)) (h1 : cells ≤ mc) (h2 : slots ≤ ms) (hid : Ok 202 id d) (hp : some (.inl id, σ) = some r) (hdg : decode cc pc = .ok (.areturn, 1)) : W p l e R0 s m args below meth c H locs cells slots (vx_MQ below (Qg g 202 (PRX g d R L r)) (Xg g 202 (PX R L r)) args s mc ms (gA g)) (F0 m pc ls [.ref (ga g id)]) :=
  vx_ret (W.widen h1 h2 (v_aret C S hr (by cases hp; exact ⟨_, rfl, rfl, rfl, hid⟩) hdg))
variable {mL d mc ms mc0 ms0 kc id : Nat} {y : MethodName} {b : ByteArray} {ret : Option FieldType} {As st : List Value} {σ1 : SI} {Cn : String} {T : u_T} {N : Nat} {ty0 : Nat → FieldType} {α : Type} {post0 : Option Value → Sg → Prop} {r0 : (α ⊕ Nat) × SI}
/-- a call that came back -/
theorem x_callX {β : Type} {a : β} {post : Option Value → Sg → Prop} (C : Cx l g p s m meth c cc nL own) (S : S2 g s σ R L H locs) (K : KC kc Cn T N ty0) (hid : Ok 202 id kc) (hM : CtX l g d y b mL ret 202 202 mc ms (.ref (ga g id) :: As) (mkS σ R L) post (PX R L ((.inl a, σ1) : (β ⊕ Nat) × SI)))
    (hw : Cond.code y b mL ret ∈ BW ∧ Cond.initialized y.cls ∈ BW ∧ Cond.methodLink own index y ∈ BW ∧ Cond.instanceMethod y ∈ BW ∧ Cond.selects Cn y y ∈ BW) (hy : y.cls ≠ "java/lang/invoke/MethodHandle" ∧ y.cls ≠ "java/lang/invoke/VarHandle") (hlen : (parseMethodDescriptor y.desc).map (fun d => d.parameters.length) = some As.length)
    (hroom : d + 1 ≤ R0.frames ∧ 8 + (mL + 11) + 64 * d ≤ R0.locals) (hsize : ls.size = nL) (hst : st = As.reverse ++ .ref (ga g id) :: rest) (hW : (rest.map fun v => v.category).sum ≤ 8) (hf : cells + mc ≤ R0.cells ∧ slots + ms ≤ R0.slots) (hdg : decode cc pc = .ok (.invokevirtual index, 3))
    (hT : ∀ x ∈ c.exceptionTable.toList, False) (hc0 : cells + mc ≤ mc0 ∧ slots + ms ≤ ms0)
    (kk : ∀ (v : Option Value) (σ' : Sg) (H1 : Heap) (locs1 : List Loc), post v σ' → StL g 202 s σ' H1 locs1 → W p l e R0 s m args below meth c H1 locs1 (cells + mc) (slots + ms) (vx_MQ below (Qg g 202 post0) (Xg g 202 (PX R L r0)) args s mc0 ms0 (gA g)) (F0 m (pc + 3) ls (v.toList ++ rest))) : W p l e R0 s m args below meth c H locs cells slots (vx_MQ below (Qg g 202 post0) (Xg g 202 (PX R L r0)) args s mc0 ms0 (gA g)) (F0 m pc ls st) :=
  v_callVX C S hid K.1 K.2.2.2.2 hM hw hy hlen hroom hsize hst hW hf hdg (fun x hx => (hT x hx).elim) (fun E σ' h => by obtain ⟨k, hk, -⟩ := h; cases hk) hc0.1 hc0.2 kk
/-- a call that threw -/
theorem x_callXX {β : Type} {q : Nat} {post : Option Value → Sg → Prop} (C : Cx l g p s m meth c cc nL own) (S : S2 g s σ R L H locs) (K : KC kc Cn T N ty0) (hid : Ok 202 id kc) (hM : CtX l g d y b mL ret 202 202 mc ms (.ref (ga g id) :: As) (mkS σ R L) post (PX R L ((.inr q, σ1) : (β ⊕ Nat) × SI))) (hpost : ∀ v σ', ¬ post v σ')
    (hw : Cond.code y b mL ret ∈ BW ∧ Cond.initialized y.cls ∈ BW ∧ Cond.methodLink own index y ∈ BW ∧ Cond.instanceMethod y ∈ BW ∧ Cond.selects Cn y y ∈ BW) (hy : y.cls ≠ "java/lang/invoke/MethodHandle" ∧ y.cls ≠ "java/lang/invoke/VarHandle") (hlen : (parseMethodDescriptor y.desc).map (fun d => d.parameters.length) = some As.length)
    (hroom : d + 1 ≤ R0.frames ∧ 8 + (mL + 11) + 64 * d ≤ R0.locals) (hsize : ls.size = nL) (hst : st = As.reverse ++ .ref (ga g id) :: rest) (hW : (rest.map fun v => v.category).sum ≤ 8) (hf : cells + mc ≤ R0.cells ∧ slots + ms ≤ R0.slots) (hdg : decode cc pc = .ok (.invokevirtual index, 3))
    (hT : ∀ x ∈ c.exceptionTable.toList, False) (hc0 : cells + mc ≤ mc0 ∧ slots + ms ≤ ms0) (hr : r0 = (.inr q, σ1)) : W p l e R0 s m args below meth c H locs cells slots (vx_MQ below (Qg g 202 post0) (Xg g 202 (PX R L r0)) args s mc0 ms0 (gA g)) (F0 m pc ls st) :=
  v_callVX C S hid K.1 K.2.2.2.2 hM hw hy hlen hroom hsize hst hW hf hdg (fun x hx => (hT x hx).elim) (fun E σ' h => by obtain ⟨k, hk, hE, hσ⟩ := h; cases hk; exact ⟨q, by rw [hr], hE, by rw [hr]; exact hσ⟩) hc0.1 hc0.2 (fun v σ' H1 locs1 hp _ => (hpost v σ' hp).elim)
theorem n_PIX {q : Nat} (v : Option Value) (σ' : Sg) : ¬ PIX R L (.inr q, σ1) v σ' := fun h => by obtain ⟨k, hk, -⟩ := h; cases hk
theorem n_PVX {q : Nat} (v : Option Value) (σ' : Sg) : ¬ PVX R L (.inr q, σ1) v σ' := fun h => by obtain ⟨k, hk, -⟩ := h; cases hk
theorem n_PRX {q d : Nat} (v : Option Value) (σ' : Sg) : ¬ PRX g d R L (.inr q, σ1) v σ' := fun h => by obtain ⟨k, hk, -⟩ := h; cases hk
/-- throw new E("text") -/
theorem x_throwW {cls text : String} {ik is ic ia q : Nat} (C : Cx l g p s m meth c cc nL own) (S : S2 g s σ R L H locs) (hcls : Bundle.fit cls = true)
    (hk : Cond.classLink own ik cls ∈ BW) (hini : Cond.initialized cls ∈ BW) (hstr : (own, is, text, ia) ∈ strTab) (hat : (∀ w ∈ vx_atS own ic cls ["java/lang/RuntimeException", "java/lang/Exception"], w ∈ BW) ∧ ∀ w ∈ Cond.classLink own ik cls :: Cond.initialized cls :: vx_atS own ic cls ["java/lang/RuntimeException", "java/lang/Exception"], vx_ot w = true) (hsize : ls.size = nL)
    (d0 : decode cc pc = .ok (.new ik, 3)) (d3 : decode cc (pc + 3) = .ok (.dup, 1)) (d4 : decode cc (pc + 4) = .ok (.ldc_w is, 3)) (d7 : decode cc (pc + 7) = .ok (.invokespecial ic, 3)) (d10 : decode cc (pc + 10) = .ok (.athrow, 1))
    (hT : ∀ x ∈ c.exceptionTable.toList, False) (hRf : 5 < R0.frames) (hRl : (rest.map fun v => v.category).sum + 82 ≤ R0.locals) (hRc : cells + 1 ≤ R0.cells) (hRs : slots + 6 ≤ R0.slots) (hc0 : cells + 1 ≤ mc0) (hs0 : slots + 6 ≤ ms0) (hq : exN q = cls) (hr : some ((.inr q, σ) : (α ⊕ Nat) × SI) = some r0) :
    W p l e R0 s m args below meth c H locs cells slots (vx_MQ below (Qg g 202 post0) (Xg g 202 (PX R L r0)) args s mc0 ms0 (gA g)) (F0 m pc ls rest) :=
  v_throwW C S hcls (by decide) hk hini hstr hat.1 hat.2 hsize d0 d3 d4 d7 d10 (fun x hx => (hT x hx).elim) hRf hRl hRc hRs hc0 hs0 (by cases hr; exact ⟨q, rfl, hq.symm, rfl⟩)
end W3
theorem rm_ok {Dc mL D mc ms : Nat} (h1 : Dc + 1 ≤ D) (h2 : mL ≤ 45) : Dc + 1 ≤ (rmd D mc ms).frames ∧ 8 + (mL + 11) + 64 * Dc ≤ (rmd D mc ms).locals := ⟨h1, by show 8 + (mL + 11) + 64 * Dc ≤ 64 * D; omega⟩
end
section
/-! ===== String.length, String.charAt on the texts of the classes; Integer.bitCount ===== -/
theorem dJ0_length_8abf5_0 : decode cJ0_length_8abf5 0 = .ok (.aload_n 0, 1) := by decide +kernel
theorem dJ0_length_8abf5_1 : decode cJ0_length_8abf5 1 = .ok (.getfield 9, 3) := by decide +kernel
theorem dJ0_length_8abf5_4 : decode cJ0_length_8abf5 4 = .ok (.arraylength, 1) := by decide +kernel
theorem dJ0_length_8abf5_5 : decode cJ0_length_8abf5 5 = .ok (.aload_n 0, 1) := by decide +kernel
theorem dJ0_length_8abf5_6 : decode cJ0_length_8abf5 6 = .ok (.invokevirtual 335, 3) := by decide +kernel
theorem dJ0_length_8abf5_9 : decode cJ0_length_8abf5 9 = .ok (.ishr, 1) := by decide +kernel
theorem dJ0_length_8abf5_10 : decode cJ0_length_8abf5 10 = .ok (.ireturn, 1) := by decide +kernel
theorem dJ0_charAt_5068e_0 : decode cJ0_charAt_5068e 0 = .ok (.aload_n 0, 1) := by decide +kernel
theorem dJ0_charAt_5068e_1 : decode cJ0_charAt_5068e 1 = .ok (.invokevirtual 492, 3) := by decide +kernel
theorem dJ0_charAt_5068e_4 : decode cJ0_charAt_5068e 4 = .ok (.ifCond .eq 12, 3) := by decide +kernel
theorem dJ0_charAt_5068e_7 : decode cJ0_charAt_5068e 7 = .ok (.aload_n 0, 1) := by decide +kernel
theorem dJ0_charAt_5068e_8 : decode cJ0_charAt_5068e 8 = .ok (.getfield 9, 3) := by decide +kernel
theorem dJ0_charAt_5068e_11 : decode cJ0_charAt_5068e 11 = .ok (.iload_n 1, 1) := by decide +kernel
theorem dJ0_charAt_5068e_12 : decode cJ0_charAt_5068e 12 = .ok (.invokestatic 495, 3) := by decide +kernel
theorem dJ0_charAt_5068e_15 : decode cJ0_charAt_5068e 15 = .ok (.ireturn, 1) := by decide +kernel
theorem dJ0_charAt_5068e_16 : decode cJ0_charAt_5068e 16 = .ok (.aload_n 0, 1) := by decide +kernel
theorem dJ0_charAt_5068e_17 : decode cJ0_charAt_5068e 17 = .ok (.getfield 9, 3) := by decide +kernel
theorem dJ0_charAt_5068e_20 : decode cJ0_charAt_5068e 20 = .ok (.iload_n 1, 1) := by decide +kernel
theorem dJ0_charAt_5068e_21 : decode cJ0_charAt_5068e 21 = .ok (.invokestatic 498, 3) := by decide +kernel
theorem dJ0_charAt_5068e_24 : decode cJ0_charAt_5068e 24 = .ok (.ireturn, 1) := by decide +kernel
theorem dJ0_coder_7d493_0 : decode cJ0_coder_7d493 0 = .ok (.getstatic 38, 3) := by decide +kernel
theorem dJ0_coder_7d493_3 : decode cJ0_coder_7d493 3 = .ok (.ifCond .eq 10, 3) := by decide +kernel
theorem dJ0_coder_7d493_6 : decode cJ0_coder_7d493 6 = .ok (.aload_n 0, 1) := by decide +kernel
theorem dJ0_coder_7d493_7 : decode cJ0_coder_7d493 7 = .ok (.getfield 15, 3) := by decide +kernel
theorem dJ0_coder_7d493_10 : decode cJ0_coder_7d493 10 = .ok (.goto 4, 3) := by decide +kernel
theorem dJ0_coder_7d493_13 : decode cJ0_coder_7d493 13 = .ok (.iconst 1, 1) := by decide +kernel
theorem dJ0_coder_7d493_14 : decode cJ0_coder_7d493 14 = .ok (.ireturn, 1) := by decide +kernel
theorem dJ0_isLatin1_aae02_0 : decode cJ0_isLatin1_aae02 0 = .ok (.getstatic 38, 3) := by decide +kernel
theorem dJ0_isLatin1_aae02_3 : decode cJ0_isLatin1_aae02 3 = .ok (.ifCond .eq 14, 3) := by decide +kernel
theorem dJ0_isLatin1_aae02_6 : decode cJ0_isLatin1_aae02 6 = .ok (.aload_n 0, 1) := by decide +kernel
theorem dJ0_isLatin1_aae02_7 : decode cJ0_isLatin1_aae02 7 = .ok (.getfield 15, 3) := by decide +kernel
theorem dJ0_isLatin1_aae02_10 : decode cJ0_isLatin1_aae02 10 = .ok (.ifCond .ne 7, 3) := by decide +kernel
theorem dJ0_isLatin1_aae02_13 : decode cJ0_isLatin1_aae02 13 = .ok (.iconst 1, 1) := by decide +kernel
theorem dJ0_isLatin1_aae02_14 : decode cJ0_isLatin1_aae02 14 = .ok (.goto 4, 3) := by decide +kernel
theorem dJ0_isLatin1_aae02_17 : decode cJ0_isLatin1_aae02 17 = .ok (.iconst 0, 1) := by decide +kernel
theorem dJ0_isLatin1_aae02_18 : decode cJ0_isLatin1_aae02 18 = .ok (.ireturn, 1) := by decide +kernel
theorem dJ0_checkIndex_df160_0 : decode cJ0_checkIndex_df160 0 = .ok (.iload_n 0, 1) := by decide +kernel
theorem dJ0_checkIndex_df160_1 : decode cJ0_checkIndex_df160 1 = .ok (.iload_n 1, 1) := by decide +kernel
theorem dJ0_checkIndex_df160_2 : decode cJ0_checkIndex_df160 2 = .ok (.getstatic 1053, 3) := by decide +kernel
theorem dJ0_checkIndex_df160_5 : decode cJ0_checkIndex_df160 5 = .ok (.invokestatic 1059, 3) := by decide +kernel
theorem dJ0_checkIndex_df160_8 : decode cJ0_checkIndex_df160 8 = .ok (.pop, 1) := by decide +kernel
theorem dJ0_checkIndex_df160_9 : decode cJ0_checkIndex_df160 9 = .ok (.return_, 1) := by decide +kernel
theorem dJ1_charAt_3b067_0 : decode cJ1_charAt_3b067 0 = .ok (.iload_n 1, 1) := by decide +kernel
theorem dJ1_charAt_3b067_1 : decode cJ1_charAt_3b067 1 = .ok (.aload_n 0, 1) := by decide +kernel
theorem dJ1_charAt_3b067_2 : decode cJ1_charAt_3b067 2 = .ok (.arraylength, 1) := by decide +kernel
theorem dJ1_charAt_3b067_3 : decode cJ1_charAt_3b067 3 = .ok (.invokestatic 9, 3) := by decide +kernel
theorem dJ1_charAt_3b067_6 : decode cJ1_charAt_3b067 6 = .ok (.aload_n 0, 1) := by decide +kernel
theorem dJ1_charAt_3b067_7 : decode cJ1_charAt_3b067 7 = .ok (.iload_n 1, 1) := by decide +kernel
theorem dJ1_charAt_3b067_8 : decode cJ1_charAt_3b067 8 = .ok (.baload, 1) := by decide +kernel
theorem dJ1_charAt_3b067_9 : decode cJ1_charAt_3b067 9 = .ok (.sipush 255, 3) := by decide +kernel
theorem dJ1_charAt_3b067_12 : decode cJ1_charAt_3b067 12 = .ok (.iand, 1) := by decide +kernel
theorem dJ1_charAt_3b067_13 : decode cJ1_charAt_3b067 13 = .ok (.i2c, 1) := by decide +kernel
theorem dJ1_charAt_3b067_14 : decode cJ1_charAt_3b067 14 = .ok (.ireturn, 1) := by decide +kernel
theorem dJ3_checkIndex_8e157_0 : decode cJ3_checkIndex_8e157 0 = .ok (.iload_n 0, 1) := by decide +kernel
theorem dJ3_checkIndex_8e157_1 : decode cJ3_checkIndex_8e157 1 = .ok (.ifCond .lt 8, 3) := by decide +kernel
theorem dJ3_checkIndex_8e157_4 : decode cJ3_checkIndex_8e157 4 = .ok (.iload_n 0, 1) := by decide +kernel
theorem dJ3_checkIndex_8e157_5 : decode cJ3_checkIndex_8e157 5 = .ok (.iload_n 1, 1) := by decide +kernel
theorem dJ3_checkIndex_8e157_6 : decode cJ3_checkIndex_8e157 6 = .ok (.if_icmp .lt 10, 3) := by decide +kernel
theorem dJ3_checkIndex_8e157_9 : decode cJ3_checkIndex_8e157 9 = .ok (.aload_n 2, 1) := by decide +kernel
theorem dJ3_checkIndex_8e157_10 : decode cJ3_checkIndex_8e157 10 = .ok (.iload_n 0, 1) := by decide +kernel
theorem dJ3_checkIndex_8e157_11 : decode cJ3_checkIndex_8e157 11 = .ok (.iload_n 1, 1) := by decide +kernel
theorem dJ3_checkIndex_8e157_12 : decode cJ3_checkIndex_8e157 12 = .ok (.invokestatic 95, 3) := by decide +kernel
theorem dJ3_checkIndex_8e157_15 : decode cJ3_checkIndex_8e157 15 = .ok (.athrow, 1) := by decide +kernel
theorem dJ3_checkIndex_8e157_16 : decode cJ3_checkIndex_8e157 16 = .ok (.iload_n 0, 1) := by decide +kernel
theorem dJ3_checkIndex_8e157_17 : decode cJ3_checkIndex_8e157 17 = .ok (.ireturn, 1) := by decide +kernel
set_option maxRecDepth 100000 in
theorem jf_38 : Cond.fieldLink RJ0 38 "java/lang/String" "COMPACT_STRINGS" "Z" ∈ BW := bw_in (List.mem_of_getElem? (i := 592) (by rfl)) (by rfl)
set_option maxRecDepth 100000 in
theorem jf_15 : Cond.fieldLink RJ0 15 "java/lang/String" "coder" "B" ∈ BW := bw_in (List.mem_of_getElem? (i := 779) (by rfl)) (by rfl)
set_option maxRecDepth 100000 in
theorem jf_9 : Cond.fieldLink RJ0 9 "java/lang/String" "value" "[B" ∈ BW := bw_in (List.mem_of_getElem? (i := 778) (by rfl)) (by rfl)
set_option maxRecDepth 100000 in
theorem jf_1053 : Cond.fieldLink RJ0 1053 "jdk/internal/util/Preconditions" "SIOOBE_FORMATTER" "Ljava/util/function/BiFunction;" ∈ BW := bw_in (List.mem_of_getElem? (i := 570) (by rfl)) (by rfl)
set_option maxRecDepth 100000 in
theorem jc_coder : Cond.code yJ0_coder_7d493 cJ0_coder_7d493 1 (some .byte) ∈ BW := bw_in (List.mem_of_getElem? (i := 591) (by rfl)) (by rfl)
set_option maxRecDepth 100000 in
theorem ji_coder : Cond.instanceMethod yJ0_coder_7d493 ∈ BW := bw_in (List.mem_of_getElem? (i := 589) (by rfl)) (by rfl)
set_option maxRecDepth 100000 in
theorem js_coder : Cond.selects "java/lang/String" yJ0_coder_7d493 yJ0_coder_7d493 ∈ BW := bw_in (List.mem_of_getElem? (i := 590) (by rfl)) (by rfl)
set_option maxRecDepth 100000 in
theorem jl_RJ0_335 : Cond.methodLink RJ0 335 yJ0_coder_7d493 ∈ BW := bw_in (List.mem_of_getElem? (i := 588) (by rfl)) (by rfl)
set_option maxRecDepth 100000 in
theorem jc_length : Cond.code yJ0_length_8abf5 cJ0_length_8abf5 1 (some .int) ∈ BW := bw_in (List.mem_of_getElem? (i := 587) (by rfl)) (by rfl)
set_option maxRecDepth 100000 in
theorem ji_length : Cond.instanceMethod yJ0_length_8abf5 ∈ BW := bw_in (List.mem_of_getElem? (i := 585) (by rfl)) (by rfl)
set_option maxRecDepth 100000 in
theorem js_length : Cond.selects "java/lang/String" yJ0_length_8abf5 yJ0_length_8abf5 ∈ BW := bw_in (List.mem_of_getElem? (i := 586) (by rfl)) (by rfl)
set_option maxRecDepth 100000 in
theorem jc_isLatin1 : Cond.code yJ0_isLatin1_aae02 cJ0_isLatin1_aae02 1 (some .boolean) ∈ BW := bw_in (List.mem_of_getElem? (i := 978) (by rfl)) (by rfl)
set_option maxRecDepth 100000 in
theorem ji_isLatin1 : Cond.instanceMethod yJ0_isLatin1_aae02 ∈ BW := bw_in (List.mem_of_getElem? (i := 976) (by rfl)) (by rfl)
set_option maxRecDepth 100000 in
theorem js_isLatin1 : Cond.selects "java/lang/String" yJ0_isLatin1_aae02 yJ0_isLatin1_aae02 ∈ BW := bw_in (List.mem_of_getElem? (i := 977) (by rfl)) (by rfl)
set_option maxRecDepth 100000 in
theorem jl_RJ0_492 : Cond.methodLink RJ0 492 yJ0_isLatin1_aae02 ∈ BW := bw_in (List.mem_of_getElem? (i := 975) (by rfl)) (by rfl)
set_option maxRecDepth 100000 in
theorem jc_charAt : Cond.code yJ0_charAt_5068e cJ0_charAt_5068e 2 (some .char) ∈ BW := bw_in (List.mem_of_getElem? (i := 974) (by rfl)) (by rfl)
set_option maxRecDepth 100000 in
theorem ji_charAt : Cond.instanceMethod yJ0_charAt_5068e ∈ BW := bw_in (List.mem_of_getElem? (i := 972) (by rfl)) (by rfl)
set_option maxRecDepth 100000 in
theorem js_charAt : Cond.selects "java/lang/String" yJ0_charAt_5068e yJ0_charAt_5068e ∈ BW := bw_in (List.mem_of_getElem? (i := 973) (by rfl)) (by rfl)
set_option maxRecDepth 100000 in
theorem jc_l1charAt : Cond.code yJ1_charAt_3b067 cJ1_charAt_3b067 2 (some .char) ∈ BW := bw_in (List.mem_of_getElem? (i := 981) (by rfl)) (by rfl)
set_option maxRecDepth 100000 in
theorem jt_l1charAt : Cond.static yJ1_charAt_3b067 ∈ BW := bw_in (List.mem_of_getElem? (i := 980) (by rfl)) (by rfl)
set_option maxRecDepth 100000 in
theorem jl_RJ0_495 : Cond.methodLink RJ0 495 yJ1_charAt_3b067 ∈ BW := bw_in (List.mem_of_getElem? (i := 979) (by rfl)) (by rfl)
set_option maxRecDepth 100000 in
theorem jc_scheck : Cond.code yJ0_checkIndex_df160 cJ0_checkIndex_df160 2 none ∈ BW := bw_in (List.mem_of_getElem? (i := 813) (by rfl)) (by rfl)
set_option maxRecDepth 100000 in
theorem jt_scheck : Cond.static yJ0_checkIndex_df160 ∈ BW := bw_in (List.mem_of_getElem? (i := 812) (by rfl)) (by rfl)
set_option maxRecDepth 100000 in
theorem jl_RJ1_9 : Cond.methodLink RJ1 9 yJ0_checkIndex_df160 ∈ BW := bw_in (List.mem_of_getElem? (i := 982) (by rfl)) (by rfl)
set_option maxRecDepth 100000 in
theorem jc_pcheck : Cond.code yJ3_checkIndex_8e157 cJ3_checkIndex_8e157 3 (some .int) ∈ BW := bw_in (List.mem_of_getElem? (i := 816) (by rfl)) (by rfl)
set_option maxRecDepth 100000 in
theorem jt_pcheck : Cond.static yJ3_checkIndex_8e157 ∈ BW := bw_in (List.mem_of_getElem? (i := 815) (by rfl)) (by rfl)
set_option maxRecDepth 100000 in
theorem jl_RJ0_1059 : Cond.methodLink RJ0 1059 yJ3_checkIndex_8e157 ∈ BW := bw_in (List.mem_of_getElem? (i := 814) (by rfl)) (by rfl)
set_option maxRecDepth 100000 in
theorem jn_RJ0 : Cond.initialized RJ0 ∈ BW := bw_in (List.mem_of_getElem? (i := 53) (by rfl)) (by rfl)
set_option maxRecDepth 100000 in
theorem jn_RJ1 : Cond.initialized RJ1 ∈ BW := bw_in (List.mem_of_getElem? (i := 60) (by rfl)) (by rfl)
set_option maxRecDepth 100000 in
theorem jn_RJ3 : Cond.initialized RJ3 ∈ BW := bw_in (List.mem_of_getElem? (i := 59) (by rfl)) (by rfl)
theorem x_tret {l : Launch} {g : GL} {p : Program} {e : Jvm.Env} {R0 : Room} {s : State} {m : MethodId} {args : Array Value} {below : List Frame} {meth : Method} {c : Code} {H : Heap} {locs : List Loc} {cells slots : Nat} {cc : ByteArray} {nL : Nat} {own : String} {pc : Nat} {ls : Array Slot} {σ : SI} {R : Nat → Nat → Nat} {L : Nat → Nat → Int64} {ty : FieldType} {r : Int32 × SI} (C : Cx l g p s m meth c cc nL own) (S : S2 g s σ R L H locs) (hr : meth.sig.returnType = some ty) {v : Int32} (hn : narrow ty (.int v) = .int v) (hp : some (v, σ) = some r) (hdg : decode cc pc = .ok (.ireturn, 1)) : W p l e R0 s m args below meth c H locs cells slots (MQ below (Qg g 202 (PI R L r)) args s cells slots (gA g)) (F0 m pc ls [.int v]) :=
  W.zret C.1 C.2.1 hr hn (fun t ht _ => ⟨⟨_, mkS σ R L, rfl, by cases hp; exact ⟨rfl, rfl⟩, by rw [ht]; exact S.1⟩, S.2.F ht⟩) S.2.2.2 hdg C.2.2.2.2.2.2
def chS (t : Nat) (i : Int32) : Int32 := (((strByt.getD t []).getD i.toNatClampNeg 0 &&& 255).toUInt32 % 65536).toInt32
def lnS (t : Nat) : Int32 := Int32.ofNat (strLen.getD t 0) >>> ((0 : Int32) &&& 31)
set_option maxRecDepth 100000 in
theorem ok_coder {l : Launch} {g : GL} {R : Nat → Nat → Nat} {L : Nat → Nat → Int64} {σ : SI} {t : Nat} (ht : t < 22) : Ct l g 1 yJ0_coder_7d493 cJ0_coder_7d493 1 (some .byte) 202 202 0 0 [.ref (gS g t)] (mkS σ R L) (PI R L (0, σ)) := by
  refine Met.ofW (cc := cJ0_coder_7d493) (maxL := 1) (ret := (some .byte)) (by decide) rfl ?_
  intro p e s m args below meth c s₁ B hml hv
  obtain ⟨rfl, hE, hLo, hWd⟩ := hv
  have hr : meth.sig.returnType = (some .byte) := B.returns
  have C : Cx l g p s m meth c cJ0_coder_7d493 1 RJ0 := ⟨B.exec, B.bytes, hml, findClass_of_methodNamed B.named, hE, hLo, B.notSynchronized⟩
  have S : S2 g s σ R L s.heap [] := ⟨hWd, va_S.rf⟩
  have hx := C.1
  have hb := C.2.1
  have hl := lv_entry ([.ref (gS g t)]) (n := 1) (Nat.le_of_ble_eq_true rfl)
  rw [lg_entry_eq]
  generalize (lg_sl ([.ref (gS g t)]) ++ List.replicate (1 - (lg_sl ([.ref (gS g t)])).length) Slot.unset).toArray = ls at hl ⊢
  have hl : lv_has ls 1 [(0, .ref (gS g t))] := hl
  refine x_compact C S jf_38 dJ0_coder_7d493_0 ?_
  refine lv_if_eq (tgt := 13) hx hb dJ0_coder_7d493_3 (by decide) (fun c => absurd c (by decide)) (fun _ => ?_)
  refine lv_aload_n hx hb dJ0_coder_7d493_6 rfl (lv_at hl 0 rfl) ?_
  refine x_scoder C S ht jf_15 dJ0_coder_7d493_7 ?_
  refine lv_goto (tgt := 14) hx hb dJ0_coder_7d493_10 (by decide) ?_
  exact x_tret C S hr rfl rfl dJ0_coder_7d493_14
set_option maxRecDepth 100000 in
theorem ok_length {l : Launch} {g : GL} {R : Nat → Nat → Nat} {L : Nat → Nat → Int64} {σ : SI} {t : Nat} (ht : t < 22) : Ct l g 2 yJ0_length_8abf5 cJ0_length_8abf5 1 (some .int) 202 202 0 0 [.ref (gS g t)] (mkS σ R L) (PI R L (lnS t, σ)) := by
  refine Met.ofW (cc := cJ0_length_8abf5) (maxL := 1) (ret := (some .int)) (by decide) rfl ?_
  intro p e s m args below meth c s₁ B hml hv
  obtain ⟨rfl, hE, hLo, hWd⟩ := hv
  have hr : meth.sig.returnType = (some .int) := B.returns
  have C : Cx l g p s m meth c cJ0_length_8abf5 1 RJ0 := ⟨B.exec, B.bytes, hml, findClass_of_methodNamed B.named, hE, hLo, B.notSynchronized⟩
  have S : S2 g s σ R L s.heap [] := ⟨hWd, va_S.rf⟩
  have hx := C.1
  have hb := C.2.1
  have hl := lv_entry ([.ref (gS g t)]) (n := 1) (Nat.le_of_ble_eq_true rfl)
  rw [lg_entry_eq]
  generalize (lg_sl ([.ref (gS g t)]) ++ List.replicate (1 - (lg_sl ([.ref (gS g t)])).length) Slot.unset).toArray = ls at hl ⊢
  have hl : lv_has ls 1 [(0, .ref (gS g t))] := hl
  refine lv_aload_n hx hb dJ0_length_8abf5_0 rfl (lv_at hl 0 rfl) ?_
  refine x_svalue C S ht jf_9 dJ0_length_8abf5_1 ?_
  refine x_slen C S ht dJ0_length_8abf5_4 ?_
  refine lv_aload_n hx hb dJ0_length_8abf5_5 rfl (lv_at hl 0 rfl) ?_
  refine x_callJ C S ht (ok_coder ht) ⟨jc_coder, jn_RJ0, jl_RJ0_335, ji_coder, js_coder⟩ ⟨by decide, by decide⟩ rfl (rm_ok (by decide) (by decide)) hl.1 rfl (Nat.le_of_ble_eq_true rfl) ⟨by decide, by decide⟩ dJ0_length_8abf5_6 (fun H locs S => ?_)
  refine lv_ishr hx hb dJ0_length_8abf5_9 ?_
  exact x_iret C S hr rfl dJ0_length_8abf5_10
set_option maxRecDepth 100000 in
theorem ok_isLatin1 {l : Launch} {g : GL} {R : Nat → Nat → Nat} {L : Nat → Nat → Int64} {σ : SI} {t : Nat} (ht : t < 22) : Ct l g 1 yJ0_isLatin1_aae02 cJ0_isLatin1_aae02 1 (some .boolean) 202 202 0 0 [.ref (gS g t)] (mkS σ R L) (PI R L (1, σ)) := by
  refine Met.ofW (cc := cJ0_isLatin1_aae02) (maxL := 1) (ret := (some .boolean)) (by decide) rfl ?_
  intro p e s m args below meth c s₁ B hml hv
  obtain ⟨rfl, hE, hLo, hWd⟩ := hv
  have hr : meth.sig.returnType = (some .boolean) := B.returns
  have C : Cx l g p s m meth c cJ0_isLatin1_aae02 1 RJ0 := ⟨B.exec, B.bytes, hml, findClass_of_methodNamed B.named, hE, hLo, B.notSynchronized⟩
  have S : S2 g s σ R L s.heap [] := ⟨hWd, va_S.rf⟩
  have hx := C.1
  have hb := C.2.1
  have hl := lv_entry ([.ref (gS g t)]) (n := 1) (Nat.le_of_ble_eq_true rfl)
  rw [lg_entry_eq]
  generalize (lg_sl ([.ref (gS g t)]) ++ List.replicate (1 - (lg_sl ([.ref (gS g t)])).length) Slot.unset).toArray = ls at hl ⊢
  have hl : lv_has ls 1 [(0, .ref (gS g t))] := hl
  refine x_compact C S jf_38 dJ0_isLatin1_aae02_0 ?_
  refine lv_if_eq (tgt := 17) hx hb dJ0_isLatin1_aae02_3 (by decide) (fun c => absurd c (by decide)) (fun _ => ?_)
  refine lv_aload_n hx hb dJ0_isLatin1_aae02_6 rfl (lv_at hl 0 rfl) ?_
  refine x_scoder C S ht jf_15 dJ0_isLatin1_aae02_7 ?_
  refine lv_if_ne (tgt := 17) hx hb dJ0_isLatin1_aae02_10 (by decide) (fun c => absurd rfl c) (fun _ => ?_)
  refine lv_iconst (v := (1 : Int32)) hx hb dJ0_isLatin1_aae02_13 (by decide) ?_
  refine lv_goto (tgt := 18) hx hb dJ0_isLatin1_aae02_14 (by decide) ?_
  exact x_tret C S hr rfl rfl dJ0_isLatin1_aae02_18
set_option maxRecDepth 100000 in
theorem ok_pcheckN {l : Launch} {g : GL} {R : Nat → Nat → Nat} {L : Nat → Nat → Int64} {σ : SI} {i n : Int32} (h0 : ¬ i < 0) (h1 : i < n) : Ct l g 1 yJ3_checkIndex_8e157 cJ3_checkIndex_8e157 3 (some .int) 202 202 0 0 [.int i, .int n, .null] (mkS σ R L) (PI R L (i, σ)) := by
  refine Met.ofW (cc := cJ3_checkIndex_8e157) (maxL := 3) (ret := (some .int)) (by decide) rfl ?_
  intro p e s m args below meth c s₁ B hml hv
  obtain ⟨rfl, hE, hLo, hWd⟩ := hv
  have hr : meth.sig.returnType = (some .int) := B.returns
  have C : Cx l g p s m meth c cJ3_checkIndex_8e157 3 RJ3 := ⟨B.exec, B.bytes, hml, findClass_of_methodNamed B.named, hE, hLo, B.notSynchronized⟩
  have S : S2 g s σ R L s.heap [] := ⟨hWd, va_S.rf⟩
  have hx := C.1
  have hb := C.2.1
  have hl := lv_entry ([.int i, .int n, .null]) (n := 3) (Nat.le_of_ble_eq_true rfl)
  rw [lg_entry_eq]
  generalize (lg_sl ([.int i, .int n, .null]) ++ List.replicate (3 - (lg_sl ([.int i, .int n, .null])).length) Slot.unset).toArray = ls at hl ⊢
  have hl : lv_has ls 3 [(0, .int i), (1, .int n), (2, .null)] := hl
  refine lv_iload_n hx hb dJ3_checkIndex_8e157_0 rfl (lv_at hl 0 rfl) ?_
  refine lv_if_lt (tgt := 9) hx hb dJ3_checkIndex_8e157_1 (by decide) (fun c => absurd c h0) (fun _ => ?_)
  refine lv_iload_n hx hb dJ3_checkIndex_8e157_4 rfl (lv_at hl 0 rfl) ?_
  refine lv_iload_n hx hb dJ3_checkIndex_8e157_5 rfl (lv_at hl 1 rfl) ?_
  refine lv_icmp_lt (tgt := 16) hx hb dJ3_checkIndex_8e157_6 (by decide) (fun _ => ?_) (fun c => absurd h1 c)
  refine lv_iload_n hx hb dJ3_checkIndex_8e157_16 rfl (lv_at hl 0 rfl) ?_
  exact x_iret C S hr rfl dJ3_checkIndex_8e157_17
set_option maxRecDepth 100000 in
theorem ok_pcheckR {l : Launch} {g : GL} {R : Nat → Nat → Nat} {L : Nat → Nat → Int64} {σ : SI} {i n : Int32} {q : Nat} (h0 : ¬ i < 0) (h1 : i < n) : Ct l g 1 yJ3_checkIndex_8e157 cJ3_checkIndex_8e157 3 (some .int) 202 202 0 0 [.int i, .int n, .ref q] (mkS σ R L) (PI R L (i, σ)) := by
  refine Met.ofW (cc := cJ3_checkIndex_8e157) (maxL := 3) (ret := (some .int)) (by decide) rfl ?_
  intro p e s m args below meth c s₁ B hml hv
  obtain ⟨rfl, hE, hLo, hWd⟩ := hv
  have hr : meth.sig.returnType = (some .int) := B.returns
  have C : Cx l g p s m meth c cJ3_checkIndex_8e157 3 RJ3 := ⟨B.exec, B.bytes, hml, findClass_of_methodNamed B.named, hE, hLo, B.notSynchronized⟩
  have S : S2 g s σ R L s.heap [] := ⟨hWd, va_S.rf⟩
  have hx := C.1
  have hb := C.2.1
  have hl := lv_entry ([.int i, .int n, .ref q]) (n := 3) (Nat.le_of_ble_eq_true rfl)
  rw [lg_entry_eq]
  generalize (lg_sl ([.int i, .int n, .ref q]) ++ List.replicate (3 - (lg_sl ([.int i, .int n, .ref q])).length) Slot.unset).toArray = ls at hl ⊢
  have hl : lv_has ls 3 [(0, .int i), (1, .int n), (2, .ref q)] := hl
  refine lv_iload_n hx hb dJ3_checkIndex_8e157_0 rfl (lv_at hl 0 rfl) ?_
  refine lv_if_lt (tgt := 9) hx hb dJ3_checkIndex_8e157_1 (by decide) (fun c => absurd c h0) (fun _ => ?_)
  refine lv_iload_n hx hb dJ3_checkIndex_8e157_4 rfl (lv_at hl 0 rfl) ?_
  refine lv_iload_n hx hb dJ3_checkIndex_8e157_5 rfl (lv_at hl 1 rfl) ?_
  refine lv_icmp_lt (tgt := 16) hx hb dJ3_checkIndex_8e157_6 (by decide) (fun _ => ?_) (fun c => absurd h1 c)
  refine lv_iload_n hx hb dJ3_checkIndex_8e157_16 rfl (lv_at hl 0 rfl) ?_
  exact x_iret C S hr rfl dJ3_checkIndex_8e157_17
set_option maxRecDepth 100000 in
theorem ok_scheck {l : Launch} {g : GL} {R : Nat → Nat → Nat} {L : Nat → Nat → Int64} {σ : SI} {i n : Int32} (h0 : ¬ i < 0) (h1 : i < n) : Ct l g 2 yJ0_checkIndex_df160 cJ0_checkIndex_df160 2 none 202 202 0 0 [.int i, .int n] (mkS σ R L) (PV R L ((), σ)) := by
  refine Met.ofW (cc := cJ0_checkIndex_df160) (maxL := 2) (ret := none) (by decide) rfl ?_
  intro p e s m args below meth c s₁ B hml hv
  obtain ⟨rfl, hE, hLo, hWd⟩ := hv
  have hr : meth.sig.returnType = none := B.returns
  have C : Cx l g p s m meth c cJ0_checkIndex_df160 2 RJ0 := ⟨B.exec, B.bytes, hml, findClass_of_methodNamed B.named, hE, hLo, B.notSynchronized⟩
  have S : S2 g s σ R L s.heap [] := ⟨hWd, va_S.rf⟩
  have hx := C.1
  have hb := C.2.1
  have hl := lv_entry ([.int i, .int n]) (n := 2) (Nat.le_of_ble_eq_true rfl)
  rw [lg_entry_eq]
  generalize (lg_sl ([.int i, .int n]) ++ List.replicate (2 - (lg_sl ([.int i, .int n])).length) Slot.unset).toArray = ls at hl ⊢
  have hl : lv_has ls 2 [(0, .int i), (1, .int n)] := hl
  refine lv_iload_n hx hb dJ0_checkIndex_df160_0 rfl (lv_at hl 0 rfl) ?_
  refine lv_iload_n hx hb dJ0_checkIndex_df160_1 rfl (lv_at hl 1 rfl) ?_
  refine x_form C S jf_1053 dJ0_checkIndex_df160_2 ?_ (fun q => ?_)
  · refine x_callSI C S (ok_pcheckN h0 h1) ⟨jc_pcheck, jn_RJ3, jl_RJ0_1059, jt_pcheck⟩ ⟨by decide, by decide⟩ rfl (rm_ok (by decide) (by decide)) hl.1 rfl (Nat.le_of_ble_eq_true rfl) ⟨by decide, by decide⟩ dJ0_checkIndex_df160_5 (fun H locs S => ?_)
    refine lv_pop hx hb dJ0_checkIndex_df160_8 rfl ?_
    exact x_vret C S hr rfl dJ0_checkIndex_df160_9
  · refine x_callSI C S (ok_pcheckR h0 h1) ⟨jc_pcheck, jn_RJ3, jl_RJ0_1059, jt_pcheck⟩ ⟨by decide, by decide⟩ rfl (rm_ok (by decide) (by decide)) hl.1 rfl (Nat.le_of_ble_eq_true rfl) ⟨by decide, by decide⟩ dJ0_checkIndex_df160_5 (fun H locs S => ?_)
    refine lv_pop hx hb dJ0_checkIndex_df160_8 rfl ?_
    exact x_vret C S hr rfl dJ0_checkIndex_df160_9
theorem s_nneg {i : Int32} {n : Nat} (h : vp_in i n) : ¬ i < 0 := fun q => h (Or.inl q)
theorem s_len : ∀ t, t < 22 → strLen.getD t 0 < 2 ^ 31 := by decide
theorem s_lt {i : Int32} {t : Nat} (ht : t < 22) (h : vp_in i (strLen.getD t 0)) : i < Int32.ofNat (strLen.getD t 0) := by
  obtain ⟨j, hj, rfl⟩ := vp_in_of h (s_len t ht)
  exact nI_lt hj (s_len t ht)
set_option maxRecDepth 100000 in
theorem ok_l1charAt {l : Launch} {g : GL} {R : Nat → Nat → Nat} {L : Nat → Nat → Int64} {σ : SI} {t : Nat} {i : Int32} (ht : t < 22) (hi : vp_in i (strLen.getD t 0)) : Ct l g 3 yJ1_charAt_3b067 cJ1_charAt_3b067 2 (some .char) 202 202 0 0 [.ref (gV g t), .int i] (mkS σ R L) (PI R L (chS t i, σ)) := by
  refine Met.ofW (cc := cJ1_charAt_3b067) (maxL := 2) (ret := (some .char)) (by decide) rfl ?_
  intro p e s m args below meth c s₁ B hml hv
  obtain ⟨rfl, hE, hLo, hWd⟩ := hv
  have hr : meth.sig.returnType = (some .char) := B.returns
  have C : Cx l g p s m meth c cJ1_charAt_3b067 2 RJ1 := ⟨B.exec, B.bytes, hml, findClass_of_methodNamed B.named, hE, hLo, B.notSynchronized⟩
  have S : S2 g s σ R L s.heap [] := ⟨hWd, va_S.rf⟩
  have hx := C.1
  have hb := C.2.1
  have hl := lv_entry ([.ref (gV g t), .int i]) (n := 2) (Nat.le_of_ble_eq_true rfl)
  rw [lg_entry_eq]
  generalize (lg_sl ([.ref (gV g t), .int i]) ++ List.replicate (2 - (lg_sl ([.ref (gV g t), .int i])).length) Slot.unset).toArray = ls at hl ⊢
  have hl : lv_has ls 2 [(0, .ref (gV g t)), (1, .int i)] := hl
  refine lv_iload_n hx hb dJ1_charAt_3b067_0 rfl (lv_at hl 1 rfl) ?_
  refine lv_aload_n hx hb dJ1_charAt_3b067_1 rfl (lv_at hl 0 rfl) ?_
  refine x_slen C S ht dJ1_charAt_3b067_2 ?_
  refine x_callSV C S (ok_scheck (s_nneg hi) (s_lt ht hi)) ⟨jc_scheck, jn_RJ0, jl_RJ1_9, jt_scheck⟩ ⟨by decide, by decide⟩ rfl (rm_ok (by decide) (by decide)) hl.1 rfl (Nat.le_of_ble_eq_true rfl) ⟨by decide, by decide⟩ dJ1_charAt_3b067_3 (fun H locs S => ?_)
  refine lv_aload_n hx hb dJ1_charAt_3b067_6 rfl (lv_at hl 0 rfl) ?_
  refine lv_iload_n hx hb dJ1_charAt_3b067_7 rfl (lv_at hl 1 rfl) ?_
  refine x_sbald C S ht hi dJ1_charAt_3b067_8 ?_
  refine lv_sipush (v := (255 : Int32)) hx hb dJ1_charAt_3b067_9 (by decide) ?_
  refine lv_iand hx hb dJ1_charAt_3b067_12 ?_
  refine lv_i2c hx hb dJ1_charAt_3b067_13 rfl ?_
  exact x_tret C S hr (pk_nc _) rfl dJ1_charAt_3b067_14
set_option maxRecDepth 100000 in
theorem ok_charAt {l : Launch} {g : GL} {R : Nat → Nat → Nat} {L : Nat → Nat → Int64} {σ : SI} {t : Nat} {i : Int32} (ht : t < 22) (hi : vp_in i (strLen.getD t 0)) : Ct l g 4 yJ0_charAt_5068e cJ0_charAt_5068e 2 (some .char) 202 202 0 0 [.ref (gS g t), .int i] (mkS σ R L) (PI R L (chS t i, σ)) := by
  refine Met.ofW (cc := cJ0_charAt_5068e) (maxL := 2) (ret := (some .char)) (by decide) rfl ?_
  intro p e s m args below meth c s₁ B hml hv
  obtain ⟨rfl, hE, hLo, hWd⟩ := hv
  have hr : meth.sig.returnType = (some .char) := B.returns
  have C : Cx l g p s m meth c cJ0_charAt_5068e 2 RJ0 := ⟨B.exec, B.bytes, hml, findClass_of_methodNamed B.named, hE, hLo, B.notSynchronized⟩
  have S : S2 g s σ R L s.heap [] := ⟨hWd, va_S.rf⟩
  have hx := C.1
  have hb := C.2.1
  have hl := lv_entry ([.ref (gS g t), .int i]) (n := 2) (Nat.le_of_ble_eq_true rfl)
  rw [lg_entry_eq]
  generalize (lg_sl ([.ref (gS g t), .int i]) ++ List.replicate (2 - (lg_sl ([.ref (gS g t), .int i])).length) Slot.unset).toArray = ls at hl ⊢
  have hl : lv_has ls 2 [(0, .ref (gS g t)), (1, .int i)] := hl
  refine lv_aload_n hx hb dJ0_charAt_5068e_0 rfl (lv_at hl 0 rfl) ?_
  refine x_callJ C S ht (ok_isLatin1 ht) ⟨jc_isLatin1, jn_RJ0, jl_RJ0_492, ji_isLatin1, js_isLatin1⟩ ⟨by decide, by decide⟩ rfl (rm_ok (by decide) (by decide)) hl.1 rfl (Nat.le_of_ble_eq_true rfl) ⟨by decide, by decide⟩ dJ0_charAt_5068e_1 (fun H locs S => ?_)
  refine lv_if_eq (tgt := 16) hx hb dJ0_charAt_5068e_4 (by decide) (fun c => absurd c (by decide)) (fun _ => ?_)
  refine lv_aload_n hx hb dJ0_charAt_5068e_7 rfl (lv_at hl 0 rfl) ?_
  refine x_svalue C S ht jf_9 dJ0_charAt_5068e_8 ?_
  refine lv_iload_n hx hb dJ0_charAt_5068e_11 rfl (lv_at hl 1 rfl) ?_
  refine x_callSI C S (ok_l1charAt ht hi) ⟨jc_l1charAt, jn_RJ1, jl_RJ0_495, jt_l1charAt⟩ ⟨by decide, by decide⟩ rfl (rm_ok (by decide) (by decide)) hl.1 rfl (Nat.le_of_ble_eq_true rfl) ⟨by decide, by decide⟩ dJ0_charAt_5068e_12 (fun H locs S => ?_)
  exact x_tret C S hr (pk_nc _) rfl dJ0_charAt_5068e_15
end
section
/-! ===== calls of methods that may throw, by their answers ===== -/
section W4
variable {l : Launch} {g : GL} {p : Program} {e : Jvm.Env} {R0 : Room} {s : State} {m : MethodId} {args : Array Value} {below : List Frame} {meth : Method} {c : Code} {H : Heap} {locs : List Loc} {cells slots : Nat}
variable {cc : ByteArray} {nL : Nat} {own : String} {pc : Nat} {ls : Array Slot} {rest : List Value} {σ : SI} {R : Nat → Nat → Nat} {L : Nat → Nat → Int64} {index : Nat}
variable {mL d mc ms mc0 ms0 kc id : Nat} {y : MethodName} {b : ByteArray} {ret : Option FieldType} {As st : List Value} {σ1 : SI} {Cn : String} {T : u_T} {N : Nat} {ty0 : Nat → FieldType} {α : Type} {post0 : Option Value → Sg → Prop} {r0 : (α ⊕ Nat) × SI}
theorem x_callXI {a : Int32} (C : Cx l g p s m meth c cc nL own) (S : S2 g s σ R L H locs) (K : KC kc Cn T N ty0) (hid : Ok 202 id kc) (hM : CtX l g d y b mL ret 202 202 mc ms (.ref (ga g id) :: As) (mkS σ R L) (PIX R L (.inl a, σ1)) (PX R L ((.inl a, σ1) : (Int32 ⊕ Nat) × SI)))
    (hw : Cond.code y b mL ret ∈ BW ∧ Cond.initialized y.cls ∈ BW ∧ Cond.methodLink own index y ∈ BW ∧ Cond.instanceMethod y ∈ BW ∧ Cond.selects Cn y y ∈ BW) (hy : y.cls ≠ "java/lang/invoke/MethodHandle" ∧ y.cls ≠ "java/lang/invoke/VarHandle") (hlen : (parseMethodDescriptor y.desc).map (fun d => d.parameters.length) = some As.length)
    (hroom : d + 1 ≤ R0.frames ∧ 8 + (mL + 11) + 64 * d ≤ R0.locals) (hsize : ls.size = nL) (hst : st = As.reverse ++ .ref (ga g id) :: rest) (hW : (rest.map fun v => v.category).sum ≤ 8) (hf : cells + mc ≤ R0.cells ∧ slots + ms ≤ R0.slots) (hdg : decode cc pc = .ok (.invokevirtual index, 3))
    (hT : ∀ x ∈ c.exceptionTable.toList, False) (hc0 : cells + mc ≤ mc0 ∧ slots + ms ≤ ms0)
    (kk : ∀ (H1 : Heap) (locs1 : List Loc), S2 g s σ1 R L H1 locs1 → W p l e R0 s m args below meth c H1 locs1 (cells + mc) (slots + ms) (vx_MQ below (Qg g 202 post0) (Xg g 202 (PX R L r0)) args s mc0 ms0 (gA g)) (F0 m (pc + 3) ls (.int a :: rest))) : W p l e R0 s m args below meth c H locs cells slots (vx_MQ below (Qg g 202 post0) (Xg g 202 (PX R L r0)) args s mc0 ms0 (gA g)) (F0 m pc ls st) := by
  refine x_callX C S K hid hM hw hy hlen hroom hsize hst hW hf hdg hT hc0 (fun v σ' H1 locs1 hp hS => ?_)
  obtain ⟨_, hk, rfl, rfl⟩ := hp
  cases hk
  exact kk H1 locs1 hS
theorem x_callXV {a : Unit} (C : Cx l g p s m meth c cc nL own) (S : S2 g s σ R L H locs) (K : KC kc Cn T N ty0) (hid : Ok 202 id kc) (hM : CtX l g d y b mL ret 202 202 mc ms (.ref (ga g id) :: As) (mkS σ R L) (PVX R L (.inl a, σ1)) (PX R L ((.inl a, σ1) : (Unit ⊕ Nat) × SI)))
    (hw : Cond.code y b mL ret ∈ BW ∧ Cond.initialized y.cls ∈ BW ∧ Cond.methodLink own index y ∈ BW ∧ Cond.instanceMethod y ∈ BW ∧ Cond.selects Cn y y ∈ BW) (hy : y.cls ≠ "java/lang/invoke/MethodHandle" ∧ y.cls ≠ "java/lang/invoke/VarHandle") (hlen : (parseMethodDescriptor y.desc).map (fun d => d.parameters.length) = some As.length)
    (hroom : d + 1 ≤ R0.frames ∧ 8 + (mL + 11) + 64 * d ≤ R0.locals) (hsize : ls.size = nL) (hst : st = As.reverse ++ .ref (ga g id) :: rest) (hW : (rest.map fun v => v.category).sum ≤ 8) (hf : cells + mc ≤ R0.cells ∧ slots + ms ≤ R0.slots) (hdg : decode cc pc = .ok (.invokevirtual index, 3))
    (hT : ∀ x ∈ c.exceptionTable.toList, False) (hc0 : cells + mc ≤ mc0 ∧ slots + ms ≤ ms0)
    (kk : ∀ (H1 : Heap) (locs1 : List Loc), S2 g s σ1 R L H1 locs1 → W p l e R0 s m args below meth c H1 locs1 (cells + mc) (slots + ms) (vx_MQ below (Qg g 202 post0) (Xg g 202 (PX R L r0)) args s mc0 ms0 (gA g)) (F0 m (pc + 3) ls rest)) : W p l e R0 s m args below meth c H locs cells slots (vx_MQ below (Qg g 202 post0) (Xg g 202 (PX R L r0)) args s mc0 ms0 (gA g)) (F0 m pc ls st) := by
  refine x_callX C S K hid hM hw hy hlen hroom hsize hst hW hf hdg hT hc0 (fun v σ' H1 locs1 hp hS => ?_)
  obtain ⟨_, hk, rfl, rfl⟩ := hp
  exact kk H1 locs1 hS
theorem x_callXR {a dk : Nat} (C : Cx l g p s m meth c cc nL own) (S : S2 g s σ R L H locs) (K : KC kc Cn T N ty0) (hid : Ok 202 id kc) (hM : CtX l g d y b mL ret 202 202 mc ms (.ref (ga g id) :: As) (mkS σ R L) (PRX g dk R L (.inl a, σ1)) (PX R L ((.inl a, σ1) : (Nat ⊕ Nat) × SI)))
    (hw : Cond.code y b mL ret ∈ BW ∧ Cond.initialized y.cls ∈ BW ∧ Cond.methodLink own index y ∈ BW ∧ Cond.instanceMethod y ∈ BW ∧ Cond.selects Cn y y ∈ BW) (hy : y.cls ≠ "java/lang/invoke/MethodHandle" ∧ y.cls ≠ "java/lang/invoke/VarHandle") (hlen : (parseMethodDescriptor y.desc).map (fun d => d.parameters.length) = some As.length)
    (hroom : d + 1 ≤ R0.frames ∧ 8 + (mL + 11) + 64 * d ≤ R0.locals) (hsize : ls.size = nL) (hst : st = As.reverse ++ .ref (ga g id) :: rest) (hW : (rest.map fun v => v.category).sum ≤ 8) (hf : cells + mc ≤ R0.cells ∧ slots + ms ≤ R0.slots) (hdg : decode cc pc = .ok (.invokevirtual index, 3))
    (hT : ∀ x ∈ c.exceptionTable.toList, False) (hc0 : cells + mc ≤ mc0 ∧ slots + ms ≤ ms0)
    (kk : ∀ (H1 : Heap) (locs1 : List Loc), Ok 202 a dk → S2 g s σ1 R L H1 locs1 → W p l e R0 s m args below meth c H1 locs1 (cells + mc) (slots + ms) (vx_MQ below (Qg g 202 post0) (Xg g 202 (PX R L r0)) args s mc0 ms0 (gA g)) (F0 m (pc + 3) ls (.ref (ga g a) :: rest))) : W p l e R0 s m args below meth c H locs cells slots (vx_MQ below (Qg g 202 post0) (Xg g 202 (PX R L r0)) args s mc0 ms0 (gA g)) (F0 m pc ls st) := by
  refine x_callX C S K hid hM hw hy hlen hroom hsize hst hW hf hdg hT hc0 (fun v σ' H1 locs1 hp hS => ?_)
  obtain ⟨_, hk, rfl, rfl, ho⟩ := hp
  cases hk
  exact kk H1 locs1 ho hS
end W4
/-! ===== Math.max, Math.min of longs ===== -/
section W4L
variable {l : Launch} {g : GL} {p : Program} {e : Jvm.Env} {R0 : Room} {s : State} {m : MethodId} {args : Array Value} {below : List Frame} {meth : Method} {c : Code} {H : Heap} {locs : List Loc} {cells slots : Nat} {Q : State → Prop}
variable {cc : ByteArray} {nL : Nat} {own : String} {pc index : Nat} {ls : Array Slot} {rest : List Value}
theorem x_maxL (C : Cx l g p s m meth c cc nL own) (hsize : ls.size = nL) (hw : Cond.methodLink own index Lib.MathLoose.max_long.x ∈ BW ∧ Cond.static Lib.MathLoose.max_long.x ∈ BW ∧ Cond.initialized "java/lang/Math" ∈ BW ∧ Cond.code Lib.MathLoose.max_long.x Lib.MathLoose.max_long.code 4 (some .long) ∈ BW) (hframes : 1 ≤ R0.frames) (hlocals : (rest.map fun v => v.category).sum + 15 ≤ R0.locals) (hc : cells ≤ R0.cells) (hs : slots ≤ R0.slots) {x y : Int64} (hdg : decode cc pc = .ok (.invokestatic index, 3))
    (kk : W p l e R0 s m args below meth c H locs cells slots Q (F0 m (pc + 3) ls (.long (if y < x then x else y) :: rest))) : W p l e R0 s m args below meth c H locs cells slots Q (F0 m pc ls (.long y :: .long x :: rest)) :=
  va_mmax_long C.1 C.2.1 (C.2.2.1.trans hsize.symm) C.2.2.2.1 (C.2.2.2.2.1.w hw.1) (C.2.2.2.2.1.w hw.2.1) (C.2.2.2.2.1.w hw.2.2.1) (C.2.2.2.2.1.w hw.2.2.2) hframes hlocals hc hs hdg kk
theorem x_minL (C : Cx l g p s m meth c cc nL own) (hsize : ls.size = nL) (hw : Cond.methodLink own index Lib.MathLoose.min_long.x ∈ BW ∧ Cond.static Lib.MathLoose.min_long.x ∈ BW ∧ Cond.initialized "java/lang/Math" ∈ BW ∧ Cond.code Lib.MathLoose.min_long.x Lib.MathLoose.min_long.code 4 (some .long) ∈ BW) (hframes : 1 ≤ R0.frames) (hlocals : (rest.map fun v => v.category).sum + 15 ≤ R0.locals) (hc : cells ≤ R0.cells) (hs : slots ≤ R0.slots) {x y : Int64} (hdg : decode cc pc = .ok (.invokestatic index, 3))
    (kk : W p l e R0 s m args below meth c H locs cells slots Q (F0 m (pc + 3) ls (.long (if y < x then y else x) :: rest))) : W p l e R0 s m args below meth c H locs cells slots Q (F0 m pc ls (.long y :: .long x :: rest)) :=
  va_mmin_long C.1 C.2.1 (C.2.2.1.trans hsize.symm) C.2.2.2.1 (C.2.2.2.2.1.w hw.1) (C.2.2.2.2.1.w hw.2.1) (C.2.2.2.2.1.w hw.2.2.1) (C.2.2.2.2.1.w hw.2.2.2) hframes hlocals hc hs hdg kk
end W4L
end

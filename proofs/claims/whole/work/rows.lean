section
-- ===== PART A: goes FIRST, ahead of the names: the tables' words, and 'selects' of the private methods out of them =====
/-- a private method of a class that the tables say can be made, by its rows of tables_1 -/
def lw_okq (q : MethodName × Nat) : Prop := (q.1.cls ≠ "java/lang/invoke/MethodHandle" ∧ q.1.cls ≠ "java/lang/invoke/VarHandle") ∧ Cond.instantiable q.1.cls q.2 ∈ tables_1 ∧ Cond.privateMethod q.1 ∈ tables_1 ∧ Cond.instanceMethod q.1 ∈ tables_1
theorem lw_p0 : lw_okq (⟨"UnderPromise", "judge", "(III)I"⟩, 5) := ⟨⟨by decide +kernel, by decide +kernel⟩, List.mem_of_getElem? (i := 10) (by decide +kernel), List.mem_of_getElem? (i := 197) (by decide +kernel), List.mem_of_getElem? (i := 198) (by decide +kernel)⟩
theorem lw_p1 : lw_okq (⟨"UnderPromise$Claims", "delay", "(I)I"⟩, 8) := ⟨⟨by decide +kernel, by decide +kernel⟩, List.mem_of_getElem? (i := 52) (by decide +kernel), List.mem_of_getElem? (i := 217) (by decide +kernel), List.mem_of_getElem? (i := 218) (by decide +kernel)⟩
theorem lw_p2 : lw_okq (⟨"UnderPromise$Claims", "isLetBy", "(II)Z"⟩, 8) := ⟨⟨by decide +kernel, by decide +kernel⟩, List.mem_of_getElem? (i := 52) (by decide +kernel), List.mem_of_getElem? (i := 229) (by decide +kernel), List.mem_of_getElem? (i := 230) (by decide +kernel)⟩
theorem lw_p3 : lw_okq (⟨"UnderPromise", "waysAsOddOrOdder", "(JJ)J"⟩, 5) := ⟨⟨by decide +kernel, by decide +kernel⟩, List.mem_of_getElem? (i := 10) (by decide +kernel), List.mem_of_getElem? (i := 297) (by decide +kernel), List.mem_of_getElem? (i := 298) (by decide +kernel)⟩
theorem lw_p4 : lw_okq (⟨"UnderPromise", "waysInAll", "(J)J"⟩, 5) := ⟨⟨by decide +kernel, by decide +kernel⟩, List.mem_of_getElem? (i := 10) (by decide +kernel), List.mem_of_getElem? (i := 315) (by decide +kernel), List.mem_of_getElem? (i := 316) (by decide +kernel)⟩
theorem lw_p5 : lw_okq (⟨"UnderPromise", "paidBy", "(I)I"⟩, 5) := ⟨⟨by decide +kernel, by decide +kernel⟩, List.mem_of_getElem? (i := 10) (by decide +kernel), List.mem_of_getElem? (i := 355) (by decide +kernel), List.mem_of_getElem? (i := 356) (by decide +kernel)⟩
theorem lw_p6 : lw_okq (⟨"UnderPromise", "thingsCalled", "(IIII)J"⟩, 5) := ⟨⟨by decide +kernel, by decide +kernel⟩, List.mem_of_getElem? (i := 10) (by decide +kernel), List.mem_of_getElem? (i := 374) (by decide +kernel), List.mem_of_getElem? (i := 375) (by decide +kernel)⟩
theorem lw_p7 : lw_okq (⟨"UnderPromiseModel", "noThing", "(I)Z"⟩, 21) := ⟨⟨by decide +kernel, by decide +kernel⟩, List.mem_of_getElem? (i := 422) (by decide +kernel), List.mem_of_getElem? (i := 519) (by decide +kernel), List.mem_of_getElem? (i := 520) (by decide +kernel)⟩
theorem lw_p8 : lw_okq (⟨"UnderPromiseModel", "isPromised", "(II)Z"⟩, 21) := ⟨⟨by decide +kernel, by decide +kernel⟩, List.mem_of_getElem? (i := 422) (by decide +kernel), List.mem_of_getElem? (i := 527) (by decide +kernel), List.mem_of_getElem? (i := 528) (by decide +kernel)⟩
theorem lw_p9 : lw_okq (⟨"UnderPromiseModel", "lastOf", "(I)I"⟩, 21) := ⟨⟨by decide +kernel, by decide +kernel⟩, List.mem_of_getElem? (i := 422) (by decide +kernel), List.mem_of_getElem? (i := 535) (by decide +kernel), List.mem_of_getElem? (i := 536) (by decide +kernel)⟩
theorem lw_p10 : lw_okq (⟨"UnderPromiseModel", "judge", "(III)I"⟩, 21) := ⟨⟨by decide +kernel, by decide +kernel⟩, List.mem_of_getElem? (i := 422) (by decide +kernel), List.mem_of_getElem? (i := 545) (by decide +kernel), List.mem_of_getElem? (i := 546) (by decide +kernel)⟩
theorem lw_p11 : lw_okq (⟨"UnderPromiseModel", "wasLet", "(IIII)Z"⟩, 21) := ⟨⟨by decide +kernel, by decide +kernel⟩, List.mem_of_getElem? (i := 422) (by decide +kernel), List.mem_of_getElem? (i := 549) (by decide +kernel), List.mem_of_getElem? (i := 550) (by decide +kernel)⟩
theorem lw_p12 : lw_okq (⟨"UnderPromiseModel", "aboutOf", "(II)I"⟩, 21) := ⟨⟨by decide +kernel, by decide +kernel⟩, List.mem_of_getElem? (i := 422) (by decide +kernel), List.mem_of_getElem? (i := 558) (by decide +kernel), List.mem_of_getElem? (i := 559) (by decide +kernel)⟩
theorem lw_p13 : lw_okq (⟨"UnderPromiseModel", "counts", "(II)Z"⟩, 21) := ⟨⟨by decide +kernel, by decide +kernel⟩, List.mem_of_getElem? (i := 422) (by decide +kernel), List.mem_of_getElem? (i := 566) (by decide +kernel), List.mem_of_getElem? (i := 567) (by decide +kernel)⟩
theorem lw_p14 : lw_okq (⟨"UnderPromiseModel", "exposedAt", "(II)I"⟩, 21) := ⟨⟨by decide +kernel, by decide +kernel⟩, List.mem_of_getElem? (i := 422) (by decide +kernel), List.mem_of_getElem? (i := 574) (by decide +kernel), List.mem_of_getElem? (i := 575) (by decide +kernel)⟩
theorem lw_p15 : lw_okq (⟨"UnderPromiseModel", "delaysOf", "(II)I"⟩, 21) := ⟨⟨by decide +kernel, by decide +kernel⟩, List.mem_of_getElem? (i := 422) (by decide +kernel), List.mem_of_getElem? (i := 590) (by decide +kernel), List.mem_of_getElem? (i := 591) (by decide +kernel)⟩
def lw_privs_1 : List (MethodName × Nat) := [(⟨"UnderPromise", "judge", "(III)I"⟩, 5), (⟨"UnderPromise$Claims", "delay", "(I)I"⟩, 8), (⟨"UnderPromise$Claims", "isLetBy", "(II)Z"⟩, 8), (⟨"UnderPromise", "waysAsOddOrOdder", "(JJ)J"⟩, 5), (⟨"UnderPromise", "waysInAll", "(J)J"⟩, 5), (⟨"UnderPromise", "paidBy", "(I)I"⟩, 5), (⟨"UnderPromise", "thingsCalled", "(IIII)J"⟩, 5), (⟨"UnderPromiseModel", "noThing", "(I)Z"⟩, 21), (⟨"UnderPromiseModel", "isPromised", "(II)Z"⟩, 21), (⟨"UnderPromiseModel", "lastOf", "(I)I"⟩, 21), (⟨"UnderPromiseModel", "judge", "(III)I"⟩, 21), (⟨"UnderPromiseModel", "wasLet", "(IIII)Z"⟩, 21), (⟨"UnderPromiseModel", "aboutOf", "(II)I"⟩, 21), (⟨"UnderPromiseModel", "counts", "(II)Z"⟩, 21), (⟨"UnderPromiseModel", "exposedAt", "(II)I"⟩, 21), (⟨"UnderPromiseModel", "delaysOf", "(II)I"⟩, 21)]
theorem lw_r1 : ∀ q ∈ lw_privs_1, lw_okq q := List.forall_mem_cons.mpr ⟨lw_p0, List.forall_mem_cons.mpr ⟨lw_p1, List.forall_mem_cons.mpr ⟨lw_p2, List.forall_mem_cons.mpr ⟨lw_p3, List.forall_mem_cons.mpr ⟨lw_p4, List.forall_mem_cons.mpr ⟨lw_p5, List.forall_mem_cons.mpr ⟨lw_p6, List.forall_mem_cons.mpr ⟨lw_p7, List.forall_mem_cons.mpr ⟨lw_p8, List.forall_mem_cons.mpr ⟨lw_p9, List.forall_mem_cons.mpr ⟨lw_p10, List.forall_mem_cons.mpr ⟨lw_p11, List.forall_mem_cons.mpr ⟨lw_p12, List.forall_mem_cons.mpr ⟨lw_p13, List.forall_mem_cons.mpr ⟨lw_p14, List.forall_mem_cons.mpr ⟨lw_p15, fun _ h => absurd h List.not_mem_nil⟩⟩⟩⟩⟩⟩⟩⟩⟩⟩⟩⟩⟩⟩⟩⟩
theorem lw_p16 : lw_okq (⟨"UnderPromiseModel", "findChance", "(III)Z"⟩, 21) := ⟨⟨by decide +kernel, by decide +kernel⟩, List.mem_of_getElem? (i := 422) (by decide +kernel), List.mem_of_getElem? (i := 603) (by decide +kernel), List.mem_of_getElem? (i := 604) (by decide +kernel)⟩
theorem lw_p17 : lw_okq (⟨"UnderPromiseModel", "hasClaim", "(III)Z"⟩, 21) := ⟨⟨by decide +kernel, by decide +kernel⟩, List.mem_of_getElem? (i := 422) (by decide +kernel), List.mem_of_getElem? (i := 607) (by decide +kernel), List.mem_of_getElem? (i := 608) (by decide +kernel)⟩
theorem lw_p18 : lw_okq (⟨"UnderPromiseModel", "choose", "(II)J"⟩, 21) := ⟨⟨by decide +kernel, by decide +kernel⟩, List.mem_of_getElem? (i := 422) (by decide +kernel), List.mem_of_getElem? (i := 611) (by decide +kernel), List.mem_of_getElem? (i := 612) (by decide +kernel)⟩
theorem lw_p19 : lw_okq (⟨"UnderPromiseModel", "isUnder", "(II)Z"⟩, 21) := ⟨⟨by decide +kernel, by decide +kernel⟩, List.mem_of_getElem? (i := 422) (by decide +kernel), List.mem_of_getElem? (i := 628) (by decide +kernel), List.mem_of_getElem? (i := 629) (by decide +kernel)⟩
theorem lw_p20 : lw_okq (⟨"UnderPromiseModel", "payingPart", "(I)I"⟩, 21) := ⟨⟨by decide +kernel, by decide +kernel⟩, List.mem_of_getElem? (i := 422) (by decide +kernel), List.mem_of_getElem? (i := 642) (by decide +kernel), List.mem_of_getElem? (i := 643) (by decide +kernel)⟩
theorem lw_p21 : lw_okq (⟨"UnderPromiseModel", "paidFor", "(II)I"⟩, 21) := ⟨⟨by decide +kernel, by decide +kernel⟩, List.mem_of_getElem? (i := 422) (by decide +kernel), List.mem_of_getElem? (i := 650) (by decide +kernel), List.mem_of_getElem? (i := 651) (by decide +kernel)⟩
theorem lw_p22 : lw_okq (⟨"UnderPromiseModel", "letCosts", "()I"⟩, 21) := ⟨⟨by decide +kernel, by decide +kernel⟩, List.mem_of_getElem? (i := 422) (by decide +kernel), List.mem_of_getElem? (i := 658) (by decide +kernel), List.mem_of_getElem? (i := 659) (by decide +kernel)⟩
theorem lw_p23 : lw_okq (⟨"UnderPromiseModel", "isCalled", "(IIIII)Z"⟩, 21) := ⟨⟨by decide +kernel, by decide +kernel⟩, List.mem_of_getElem? (i := 422) (by decide +kernel), List.mem_of_getElem? (i := 670) (by decide +kernel), List.mem_of_getElem? (i := 671) (by decide +kernel)⟩
theorem lw_p24 : lw_okq (⟨"UnderPromiseModel", "judgedAs", "(I)I"⟩, 21) := ⟨⟨by decide +kernel, by decide +kernel⟩, List.mem_of_getElem? (i := 422) (by decide +kernel), List.mem_of_getElem? (i := 682) (by decide +kernel), List.mem_of_getElem? (i := 683) (by decide +kernel)⟩
theorem lw_p25 : lw_okq (⟨"UnderPromiseModel", "thingsWithClaims", "()I"⟩, 21) := ⟨⟨by decide +kernel, by decide +kernel⟩, List.mem_of_getElem? (i := 422) (by decide +kernel), List.mem_of_getElem? (i := 686) (by decide +kernel), List.mem_of_getElem? (i := 687) (by decide +kernel)⟩
def lw_privs_2 : List (MethodName × Nat) := [(⟨"UnderPromiseModel", "findChance", "(III)Z"⟩, 21), (⟨"UnderPromiseModel", "hasClaim", "(III)Z"⟩, 21), (⟨"UnderPromiseModel", "choose", "(II)J"⟩, 21), (⟨"UnderPromiseModel", "isUnder", "(II)Z"⟩, 21), (⟨"UnderPromiseModel", "payingPart", "(I)I"⟩, 21), (⟨"UnderPromiseModel", "paidFor", "(II)I"⟩, 21), (⟨"UnderPromiseModel", "letCosts", "()I"⟩, 21), (⟨"UnderPromiseModel", "isCalled", "(IIIII)Z"⟩, 21), (⟨"UnderPromiseModel", "judgedAs", "(I)I"⟩, 21), (⟨"UnderPromiseModel", "thingsWithClaims", "()I"⟩, 21)]
theorem lw_r2 : ∀ q ∈ lw_privs_2, lw_okq q := List.forall_mem_cons.mpr ⟨lw_p16, List.forall_mem_cons.mpr ⟨lw_p17, List.forall_mem_cons.mpr ⟨lw_p18, List.forall_mem_cons.mpr ⟨lw_p19, List.forall_mem_cons.mpr ⟨lw_p20, List.forall_mem_cons.mpr ⟨lw_p21, List.forall_mem_cons.mpr ⟨lw_p22, List.forall_mem_cons.mpr ⟨lw_p23, List.forall_mem_cons.mpr ⟨lw_p24, List.forall_mem_cons.mpr ⟨lw_p25, fun _ h => absurd h List.not_mem_nil⟩⟩⟩⟩⟩⟩⟩⟩⟩⟩
def lw_privs : List (MethodName × Nat) := lw_privs_1 ++ (lw_privs_2)
def lw_tbl : List Cond := k2_sels lw_privs ++ tables_1
theorem lw_privs_ok : ∀ q ∈ lw_privs, lw_okq q := by
  show ∀ q ∈ lw_privs_1 ++ (lw_privs_2), lw_okq q
  exact List.forall_mem_append.mpr ⟨lw_r1, lw_r2⟩
end
section
/-! ===== BEGIN words of one list among another's, by their places ===== -/
theorem goodIn_r {big : List Cond} (ws : List Cond) (ps : List Nat) (hp : ws = ps.filterMap (fun i => big[i]?)) (h : ws.all goodWord = true) : GoodIn big ws := by
  intro w hw
  have h1 := List.all_eq_true.mp h w hw
  rw [hp] at hw
  obtain ⟨i, -, hi⟩ := List.mem_filterMap.mp hw
  have hm : w ∈ big := by first | exact List.mem_of_getElem? hi | exact List.getElem?_mem hi
  exact ⟨hm, good_of_word h1⟩
theorem goodIn_app {big a b : List Cond} (ha : GoodIn big a) (hb : GoodIn big b) : GoodIn big (a ++ b) := fun w h => (List.mem_append.mp h).elim (ha w) (hb w)
theorem goodIn_ca {big a b : List Cond} {c : Cond} (ha : GoodIn big (c :: a)) (hb : GoodIn big b) : GoodIn big (c :: (a ++ b)) := fun w h => (List.mem_cons.mp h).elim (fun e => ha w (List.mem_cons.mpr (Or.inl e))) (fun h => (List.mem_append.mp h).elim (fun h => ha w (List.mem_cons.mpr (Or.inr h))) (hb w))
theorem goodIn_sub {big ws : List Cond} (hm : ∀ w ∈ ws, w ∈ big) (h : ws.all goodWord = true) : GoodIn big ws := fun w hw => ⟨hm w hw, good_of_word (List.all_eq_true.mp h w hw)⟩
/-! ===== END ===== -/


/-! ===== BEGIN printed: names, fields, word lists, decode rows ===== -/
def RX0 : String := "UnderPromise$Claims"
def TX0 : u_T := fun k => match k with
  | 0 => ("UnderPromise$Claims", "thing", "[I", true)
  | 1 => ("UnderPromise$Claims", "part", "[I", true)
  | 2 => ("UnderPromise$Claims", "failed", "[I", true)
  | 3 => ("UnderPromise$Claims", "told", "[I", true)
  | 4 => ("UnderPromise$Claims", "cost", "[I", true)
  | 5 => ("UnderPromise$Claims", "age", "[I", true)
  | 6 => ("UnderPromise$Claims", "judged", "[I", true)
  | _ => ("UnderPromise$Claims", "size", "I", false)
def tyX0 : Nat → FieldType := fun k => match k with
  | 0 => .array .int
  | 1 => .array .int
  | 2 => .array .int
  | 3 => .array .int
  | 4 => .array .int
  | 5 => .array .int
  | 6 => .array .int
  | _ => .int
abbrev wsX00 : List Cond := u_ws RX0 TX0 8
theorem nmX0 : ∀ a, a < 8 → ∀ b, b < 8 → a ≠ b → (TX0 a).2.1 ≠ (TX0 b).2.1 := by decide +kernel
theorem tyX0_ok : ∀ k, k < 8 → parseFieldDescriptor (TX0 k).2.2.1 = some (tyX0 k) := by decide +kernel
abbrev cX0_init : ByteArray := prog_2_method_1_code
def yX0_init : MethodName := ⟨RX0, "<init>", "()V"⟩
abbrev cX0_add : ByteArray := prog_2_method_2_code
def yX0_add : MethodName := ⟨RX0, "add", "(IIIIIII)I"⟩
abbrev cX0_tell : ByteArray := prog_2_method_3_code
def yX0_tell : MethodName := ⟨RX0, "tell", "(II)I"⟩
abbrev cX0_delay : ByteArray := prog_2_method_4_code
def yX0_delay : MethodName := ⟨RX0, "delay", "(I)I"⟩
abbrev cX0_isLetBy : ByteArray := prog_2_method_5_code
def yX0_isLetBy : MethodName := ⟨RX0, "isLetBy", "(II)Z"⟩
abbrev cX0_anyLet : ByteArray := prog_2_method_6_code
def yX0_anyLet : MethodName := ⟨RX0, "anyLet", "(IIII)Z"⟩
abbrev cX0_letAtAge : ByteArray := prog_2_method_7_code
def yX0_letAtAge : MethodName := ⟨RX0, "letAtAge", "(II)I"⟩
abbrev cX0_letSoldInAtAge : ByteArray := prog_2_method_8_code
def yX0_letSoldInAtAge : MethodName := ⟨RX0, "letSoldInAtAge", "(III)I"⟩
abbrev cX0_letFailedIn : ByteArray := prog_2_method_9_code
def yX0_letFailedIn : MethodName := ⟨RX0, "letFailedIn", "(II)I"⟩
abbrev cX0_letDelayed : ByteArray := prog_2_method_10_code
def yX0_letDelayed : MethodName := ⟨RX0, "letDelayed", "(III)I"⟩
abbrev cX0_thingsLetFor : ByteArray := prog_2_method_11_code
def yX0_thingsLetFor : MethodName := ⟨RX0, "thingsLetFor", "(II)J"⟩
abbrev cX0_judgedAs : ByteArray := prog_2_method_12_code
def yX0_judgedAs : MethodName := ⟨RX0, "judgedAs", "(I)I"⟩
abbrev cX0_letCost : ByteArray := prog_2_method_13_code
def yX0_letCost : MethodName := ⟨RX0, "letCost", "()I"⟩
abbrev cX0_digestOnto : ByteArray := prog_2_method_14_code
def yX0_digestOnto : MethodName := ⟨RX0, "digestOnto", "(J)J"⟩
def RX1 : String := "UnderPromise$Parts"
def TX1 : u_T := fun k => match k with
  | 0 => ("UnderPromise$Parts", "above", "[I", true)
  | 1 => ("UnderPromise$Parts", "maker", "[I", true)
  | _ => ("UnderPromise$Parts", "share", "[I", true)
def tyX1 : Nat → FieldType := fun k => match k with
  | 0 => .array .int
  | 1 => .array .int
  | _ => .array .int
abbrev wsX10 : List Cond := u_ws RX1 TX1 3
theorem nmX1 : ∀ a, a < 3 → ∀ b, b < 3 → a ≠ b → (TX1 a).2.1 ≠ (TX1 b).2.1 := by decide +kernel
theorem tyX1_ok : ∀ k, k < 3 → parseFieldDescriptor (TX1 k).2.2.1 = some (tyX1 k) := by decide +kernel
abbrev cX1_init : ByteArray := prog_3_method_1_code
def yX1_init : MethodName := ⟨RX1, "<init>", "()V"⟩
abbrev cX1_standsInRowOf : ByteArray := prog_3_method_2_code
def yX1_standsInRowOf : MethodName := ⟨RX1, "standsInRowOf", "(II)Z"⟩
abbrev cX1_withAllUnder : ByteArray := prog_3_method_3_code
def yX1_withAllUnder : MethodName := ⟨RX1, "withAllUnder", "(I)I"⟩
abbrev cX1_firstWithMaker : ByteArray := prog_3_method_4_code
def yX1_firstWithMaker : MethodName := ⟨RX1, "firstWithMaker", "(I)I"⟩
abbrev cX1_digestOnto : ByteArray := prog_3_method_5_code
def yX1_digestOnto : MethodName := ⟨RX1, "digestOnto", "(J)J"⟩
def RX2 : String := "UnderPromise$Things"
def TX2 : u_T := fun k => match k with
  | 0 => ("UnderPromise$Things", "batch", "[I", true)
  | 1 => ("UnderPromise$Things", "sold", "[I", true)
  | 2 => ("UnderPromise$Things", "miles", "[I", true)
  | 3 => ("UnderPromise$Things", "land", "[I", true)
  | 4 => ("UnderPromise$Things", "landMonths", "[I", true)
  | 5 => ("UnderPromise$Things", "landMiles", "[I", true)
  | _ => ("UnderPromise$Things", "size", "I", false)
def tyX2 : Nat → FieldType := fun k => match k with
  | 0 => .array .int
  | 1 => .array .int
  | 2 => .array .int
  | 3 => .array .int
  | 4 => .array .int
  | 5 => .array .int
  | _ => .int
abbrev wsX20 : List Cond := u_ws RX2 TX2 7
theorem nmX2 : ∀ a, a < 7 → ∀ b, b < 7 → a ≠ b → (TX2 a).2.1 ≠ (TX2 b).2.1 := by decide +kernel
theorem tyX2_ok : ∀ k, k < 7 → parseFieldDescriptor (TX2 k).2.2.1 = some (tyX2 k) := by decide +kernel
abbrev cX2_init : ByteArray := prog_4_method_1_code
def yX2_init : MethodName := ⟨RX2, "<init>", "()V"⟩
abbrev cX2_has : ByteArray := prog_4_method_2_code
def yX2_has : MethodName := ⟨RX2, "has", "(I)Z"⟩
abbrev cX2_add : ByteArray := prog_4_method_3_code
def yX2_add : MethodName := ⟨RX2, "add", "(IIII)I"⟩
abbrev cX2_covers : ByteArray := prog_4_method_4_code
def yX2_covers : MethodName := ⟨RX2, "covers", "(II)Z"⟩
abbrev cX2_lastCovered : ByteArray := prog_4_method_5_code
def yX2_lastCovered : MethodName := ⟨RX2, "lastCovered", "(I)I"⟩
abbrev cX2_coveredAtAge : ByteArray := prog_4_method_6_code
def yX2_coveredAtAge : MethodName := ⟨RX2, "coveredAtAge", "(II)I"⟩
abbrev cX2_ofBatch : ByteArray := prog_4_method_7_code
def yX2_ofBatch : MethodName := ⟨RX2, "ofBatch", "(I)J"⟩
abbrev cX2_soldOf : ByteArray := prog_4_method_8_code
def yX2_soldOf : MethodName := ⟨RX2, "soldOf", "(III)J"⟩
abbrev cX2_digestOnto : ByteArray := prog_4_method_9_code
def yX2_digestOnto : MethodName := ⟨RX2, "digestOnto", "(J)J"⟩
def RX3 : String := "UnderPromise$Ways"
def TX3 : u_T := fun k => match k with
  | _ => ("UnderPromise$Ways", "rows", "[[J", true)
def tyX3 : Nat → FieldType := fun k => match k with
  | _ => .array (.array .long)
abbrev wsX30 : List Cond := u_ws RX3 TX3 1
theorem nmX3 : ∀ a, a < 1 → ∀ b, b < 1 → a ≠ b → (TX3 a).2.1 ≠ (TX3 b).2.1 := by decide +kernel
theorem tyX3_ok : ∀ k, k < 1 → parseFieldDescriptor (TX3 k).2.2.1 = some (tyX3 k) := by decide +kernel
abbrev cX3_init : ByteArray := prog_5_method_1_code
def yX3_init : MethodName := ⟨RX3, "<init>", "()V"⟩
abbrev cX3_choose : ByteArray := prog_5_method_2_code
def yX3_choose : MethodName := ⟨RX3, "choose", "(II)J"⟩
abbrev cX3_withAtLeast : ByteArray := prog_5_method_3_code
def yX3_withAtLeast : MethodName := ⟨RX3, "withAtLeast", "(IIII)J"⟩
def RX4 : String := "UnderPromise"
def TX4 : u_T := fun k => match k with
  | 0 => ("UnderPromise", "things", "LUnderPromise$Things;", true)
  | 1 => ("UnderPromise", "claims", "LUnderPromise$Claims;", true)
  | 2 => ("UnderPromise", "parts", "LUnderPromise$Parts;", true)
  | 3 => ("UnderPromise", "ways", "LUnderPromise$Ways;", true)
  | _ => ("UnderPromise", "monthsAhead", "I", false)
def tyX4 : Nat → FieldType := fun k => match k with
  | 0 => .object "UnderPromise$Things"
  | 1 => .object "UnderPromise$Claims"
  | 2 => .object "UnderPromise$Parts"
  | 3 => .object "UnderPromise$Ways"
  | _ => .int
abbrev wsX40 : List Cond := u_ws RX4 TX4 5
theorem nmX4 : ∀ a, a < 5 → ∀ b, b < 5 → a ≠ b → (TX4 a).2.1 ≠ (TX4 b).2.1 := by decide +kernel
theorem tyX4_ok : ∀ k, k < 5 → parseFieldDescriptor (TX4 k).2.2.1 = some (tyX4 k) := by decide +kernel
abbrev cX4_init : ByteArray := prog_1_method_1_code
def yX4_init : MethodName := ⟨RX4, "<init>", "()V"⟩
abbrev cX4_thing : ByteArray := prog_1_method_2_code
def yX4_thing : MethodName := ⟨RX4, "thing", "(IIII)I"⟩
abbrev cX4_promise : ByteArray := prog_1_method_3_code
def yX4_promise : MethodName := ⟨RX4, "promise", "(III)I"⟩
abbrev cX4_again : ByteArray := prog_1_method_4_code
def yX4_again : MethodName := ⟨RX4, "again", "(I)I"⟩
abbrev cX4_promised : ByteArray := prog_1_method_5_code
def yX4_promised : MethodName := ⟨RX4, "promised", "(II)I"⟩
abbrev cX4_last : ByteArray := prog_1_method_6_code
def yX4_last : MethodName := ⟨RX4, "last", "(I)I"⟩
abbrev cX4_claim : ByteArray := prog_1_method_7_code
def yX4_claim : MethodName := ⟨RX4, "claim", "(IIIII)I"⟩
abbrev cX4_about : ByteArray := prog_1_method_8_code
def yX4_about : MethodName := ⟨RX4, "about", "(II)I"⟩
abbrev cX4_table : ByteArray := prog_1_method_9_code
def yX4_table : MethodName := ⟨RX4, "table", "(III)I"⟩
abbrev cX4_exposed : ByteArray := prog_1_method_10_code
def yX4_exposed : MethodName := ⟨RX4, "exposed", "(II)I"⟩
abbrev cX4_rate : ByteArray := prog_1_method_11_code
def yX4_rate : MethodName := ⟨RX4, "rate", "(III)I"⟩
abbrev cX4_delays : ByteArray := prog_1_method_12_code
def yX4_delays : MethodName := ⟨RX4, "delays", "(II)I"⟩
abbrev cX4_undone : ByteArray := prog_1_method_13_code
def yX4_undone : MethodName := ⟨RX4, "undone", "(II)I"⟩
abbrev cX4_chance : ByteArray := prog_1_method_14_code
def yX4_chance : MethodName := ⟨RX4, "chance", "(IIII)J"⟩
abbrev cX4_oddest : ByteArray := prog_1_method_15_code
def yX4_oddest : MethodName := ⟨RX4, "oddest", "(II)I"⟩
abbrev cX4_under : ByteArray := prog_1_method_16_code
def yX4_under : MethodName := ⟨RX4, "under", "(II)I"⟩
abbrev cX4_maker : ByteArray := prog_1_method_17_code
def yX4_maker : MethodName := ⟨RX4, "maker", "(III)I"⟩
abbrev cX4_payer : ByteArray := prog_1_method_18_code
def yX4_payer : MethodName := ⟨RX4, "payer", "(I)I"⟩
abbrev cX4_pays : ByteArray := prog_1_method_19_code
def yX4_pays : MethodName := ⟨RX4, "pays", "(I)I"⟩
abbrev cX4_left : ByteArray := prog_1_method_20_code
def yX4_left : MethodName := ⟨RX4, "left", "()I"⟩
abbrev cX4_called : ByteArray := prog_1_method_21_code
def yX4_called : MethodName := ⟨RX4, "called", "(IIII)I"⟩
abbrev cX4_calledAt : ByteArray := prog_1_method_22_code
def yX4_calledAt : MethodName := ⟨RX4, "calledAt", "(IIIII)I"⟩
abbrev cX4_count : ByteArray := prog_1_method_23_code
def yX4_count : MethodName := ⟨RX4, "count", "(I)I"⟩
abbrev cX4_digest : ByteArray := prog_1_method_24_code
def yX4_digest : MethodName := ⟨RX4, "digest", "()J"⟩
abbrev cX4_isWithin : ByteArray := prog_1_method_25_code
def yX4_isWithin : MethodName := ⟨RX4, "isWithin", "(III)Z"⟩
abbrev cX4_isBatch : ByteArray := prog_1_method_26_code
def yX4_isBatch : MethodName := ⟨RX4, "isBatch", "(I)Z"⟩
abbrev cX4_isLand : ByteArray := prog_1_method_27_code
def yX4_isLand : MethodName := ⟨RX4, "isLand", "(I)Z"⟩
abbrev cX4_isPart : ByteArray := prog_1_method_28_code
def yX4_isPart : MethodName := ⟨RX4, "isPart", "(I)Z"⟩
abbrev cX4_isMaker : ByteArray := prog_1_method_29_code
def yX4_isMaker : MethodName := ⟨RX4, "isMaker", "(I)Z"⟩
abbrev cX4_isSaleMonth : ByteArray := prog_1_method_30_code
def yX4_isSaleMonth : MethodName := ⟨RX4, "isSaleMonth", "(I)Z"⟩
abbrev cX4_isMonth : ByteArray := prog_1_method_31_code
def yX4_isMonth : MethodName := ⟨RX4, "isMonth", "(I)Z"⟩
abbrev cX4_isAboveOrBelow : ByteArray := prog_1_method_32_code
def yX4_isAboveOrBelow : MethodName := ⟨RX4, "isAboveOrBelow", "(I)Z"⟩
abbrev cX4_canBeCalled : ByteArray := prog_1_method_33_code
def yX4_canBeCalled : MethodName := ⟨RX4, "canBeCalled", "(IIII)Z"⟩
abbrev cX4_hasBit : ByteArray := prog_1_method_34_code
def yX4_hasBit : MethodName := ⟨RX4, "hasBit", "(JI)Z"⟩
abbrev cX4_judge : ByteArray := prog_1_method_35_code
def yX4_judge : MethodName := ⟨RX4, "judge", "(III)I"⟩
abbrev cX4_waysAsOddOrOdder : ByteArray := prog_1_method_36_code
def yX4_waysAsOddOrOdder : MethodName := ⟨RX4, "waysAsOddOrOdder", "(JJ)J"⟩
abbrev cX4_waysInAll : ByteArray := prog_1_method_37_code
def yX4_waysInAll : MethodName := ⟨RX4, "waysInAll", "(J)J"⟩
abbrev cX4_paidBy : ByteArray := prog_1_method_38_code
def yX4_paidBy : MethodName := ⟨RX4, "paidBy", "(I)I"⟩
abbrev cX4_thingsCalled : ByteArray := prog_1_method_39_code
def yX4_thingsCalled : MethodName := ⟨RX4, "thingsCalled", "(IIII)J"⟩
abbrev cX4_ofLowestTerms : ByteArray := prog_1_method_40_code
def yX4_ofLowestTerms : MethodName := ⟨RX4, "ofLowestTerms", "(JJI)J"⟩
abbrev cX4_greatestCommonDivisor : ByteArray := prog_1_method_41_code
def yX4_greatestCommonDivisor : MethodName := ⟨RX4, "greatestCommonDivisor", "(JJ)J"⟩
abbrev cX4_isLess : ByteArray := prog_1_method_42_code
def yX4_isLess : MethodName := ⟨RX4, "isLess", "(JJJJ)Z"⟩
def RX5 : String := "UnderPromiseModel"
def TX5 : u_T := fun k => match k with
  | 0 => ("UnderPromiseModel", "months", "[I", true)
  | 1 => ("UnderPromiseModel", "miles", "[I", true)
  | 2 => ("UnderPromiseModel", "things", "I", false)
  | 3 => ("UnderPromiseModel", "batchOf", "[I", true)
  | 4 => ("UnderPromiseModel", "soldIn", "[I", true)
  | 5 => ("UnderPromiseModel", "runs", "[I", true)
  | 6 => ("UnderPromiseModel", "landOf", "[I", true)
  | 7 => ("UnderPromiseModel", "ago", "I", false)
  | 8 => ("UnderPromiseModel", "claims", "I", false)
  | 9 => ("UnderPromiseModel", "ofThing", "[I", true)
  | 10 => ("UnderPromiseModel", "ofPart", "[I", true)
  | 11 => ("UnderPromiseModel", "failed", "[I", true)
  | 12 => ("UnderPromiseModel", "toldIn", "[I", true)
  | 13 => ("UnderPromiseModel", "costs", "[I", true)
  | 14 => ("UnderPromiseModel", "judged", "[I", true)
  | 15 => ("UnderPromiseModel", "ways", "[J", true)
  | 16 => ("UnderPromiseModel", "upper", "J", false)
  | 17 => ("UnderPromiseModel", "lower", "J", false)
  | 18 => ("UnderPromiseModel", "above", "[I", true)
  | 19 => ("UnderPromiseModel", "maker", "[I", true)
  | _ => ("UnderPromiseModel", "share", "[I", true)
def tyX5 : Nat → FieldType := fun k => match k with
  | 0 => .array .int
  | 1 => .array .int
  | 2 => .int
  | 3 => .array .int
  | 4 => .array .int
  | 5 => .array .int
  | 6 => .array .int
  | 7 => .int
  | 8 => .int
  | 9 => .array .int
  | 10 => .array .int
  | 11 => .array .int
  | 12 => .array .int
  | 13 => .array .int
  | 14 => .array .int
  | 15 => .array .long
  | 16 => .long
  | 17 => .long
  | 18 => .array .int
  | 19 => .array .int
  | _ => .array .int
abbrev wsX50 : List Cond := u_ws RX5 TX5 21
theorem nmX5 : ∀ a, a < 21 → ∀ b, b < 21 → a ≠ b → (TX5 a).2.1 ≠ (TX5 b).2.1 := by decide +kernel
theorem tyX5_ok : ∀ k, k < 21 → parseFieldDescriptor (TX5 k).2.2.1 = some (tyX5 k) := by decide +kernel
abbrev cX5_init : ByteArray := prog_7_method_1_code
def yX5_init : MethodName := ⟨RX5, "<init>", "()V"⟩
abbrev cX5_in : ByteArray := prog_7_method_3_code
def yX5_in : MethodName := ⟨RX5, "in", "(JJJ)Z"⟩
abbrev cX5_isMonth : ByteArray := prog_7_method_4_code
def yX5_isMonth : MethodName := ⟨RX5, "isMonth", "(I)Z"⟩
abbrev cX5_noThing : ByteArray := prog_7_method_5_code
def yX5_noThing : MethodName := ⟨RX5, "noThing", "(I)Z"⟩
abbrev cX5_thing : ByteArray := prog_7_method_6_code
def yX5_thing : MethodName := ⟨RX5, "thing", "(IIII)I"⟩
abbrev cX5_promise : ByteArray := prog_7_method_7_code
def yX5_promise : MethodName := ⟨RX5, "promise", "(III)I"⟩
abbrev cX5_again : ByteArray := prog_7_method_8_code
def yX5_again : MethodName := ⟨RX5, "again", "(I)I"⟩
abbrev cX5_isPromised : ByteArray := prog_7_method_9_code
def yX5_isPromised : MethodName := ⟨RX5, "isPromised", "(II)Z"⟩
abbrev cX5_promised : ByteArray := prog_7_method_10_code
def yX5_promised : MethodName := ⟨RX5, "promised", "(II)I"⟩
abbrev cX5_lastOf : ByteArray := prog_7_method_11_code
def yX5_lastOf : MethodName := ⟨RX5, "lastOf", "(I)I"⟩
abbrev cX5_last : ByteArray := prog_7_method_12_code
def yX5_last : MethodName := ⟨RX5, "last", "(I)I"⟩
abbrev cX5_wasLet : ByteArray := prog_7_method_13_code
def yX5_wasLet : MethodName := ⟨RX5, "wasLet", "(IIII)Z"⟩
abbrev cX5_judge : ByteArray := prog_7_method_14_code
def yX5_judge : MethodName := ⟨RX5, "judge", "(III)I"⟩
abbrev cX5_claim : ByteArray := prog_7_method_15_code
def yX5_claim : MethodName := ⟨RX5, "claim", "(IIIII)I"⟩
abbrev cX5_aboutOf : ByteArray := prog_7_method_16_code
def yX5_aboutOf : MethodName := ⟨RX5, "aboutOf", "(II)I"⟩
abbrev cX5_about : ByteArray := prog_7_method_17_code
def yX5_about : MethodName := ⟨RX5, "about", "(II)I"⟩
abbrev cX5_counts : ByteArray := prog_7_method_18_code
def yX5_counts : MethodName := ⟨RX5, "counts", "(II)Z"⟩
abbrev cX5_table : ByteArray := prog_7_method_19_code
def yX5_table : MethodName := ⟨RX5, "table", "(III)I"⟩
abbrev cX5_exposedAt : ByteArray := prog_7_method_20_code
def yX5_exposedAt : MethodName := ⟨RX5, "exposedAt", "(II)I"⟩
abbrev cX5_exposed : ByteArray := prog_7_method_21_code
def yX5_exposed : MethodName := ⟨RX5, "exposed", "(II)I"⟩
abbrev cX5_gcd : ByteArray := prog_7_method_22_code
def yX5_gcd : MethodName := ⟨RX5, "gcd", "(JJ)J"⟩
abbrev cX5_rate : ByteArray := prog_7_method_23_code
def yX5_rate : MethodName := ⟨RX5, "rate", "(III)I"⟩
abbrev cX5_delaysOf : ByteArray := prog_7_method_24_code
def yX5_delaysOf : MethodName := ⟨RX5, "delaysOf", "(II)I"⟩
abbrev cX5_delays : ByteArray := prog_7_method_25_code
def yX5_delays : MethodName := ⟨RX5, "delays", "(II)I"⟩
abbrev cX5_undone : ByteArray := prog_7_method_26_code
def yX5_undone : MethodName := ⟨RX5, "undone", "(II)I"⟩
abbrev cX5_hasClaim : ByteArray := prog_7_method_27_code
def yX5_hasClaim : MethodName := ⟨RX5, "hasClaim", "(III)Z"⟩
abbrev cX5_choose : ByteArray := prog_7_method_28_code
def yX5_choose : MethodName := ⟨RX5, "choose", "(II)J"⟩
abbrev cX5_findChance : ByteArray := prog_7_method_29_code
def yX5_findChance : MethodName := ⟨RX5, "findChance", "(III)Z"⟩
abbrev cX5_chance : ByteArray := prog_7_method_30_code
def yX5_chance : MethodName := ⟨RX5, "chance", "(IIII)J"⟩
abbrev cX5_isLess : ByteArray := prog_7_method_31_code
def yX5_isLess : MethodName := ⟨RX5, "isLess", "(JJJJ)Z"⟩
abbrev cX5_oddest : ByteArray := prog_7_method_32_code
def yX5_oddest : MethodName := ⟨RX5, "oddest", "(II)I"⟩
abbrev cX5_isUnder : ByteArray := prog_7_method_33_code
def yX5_isUnder : MethodName := ⟨RX5, "isUnder", "(II)Z"⟩
abbrev cX5_under : ByteArray := prog_7_method_34_code
def yX5_under : MethodName := ⟨RX5, "under", "(II)I"⟩
abbrev cX5_maker : ByteArray := prog_7_method_35_code
def yX5_maker : MethodName := ⟨RX5, "maker", "(III)I"⟩
abbrev cX5_payingPart : ByteArray := prog_7_method_36_code
def yX5_payingPart : MethodName := ⟨RX5, "payingPart", "(I)I"⟩
abbrev cX5_payer : ByteArray := prog_7_method_37_code
def yX5_payer : MethodName := ⟨RX5, "payer", "(I)I"⟩
abbrev cX5_paidFor : ByteArray := prog_7_method_38_code
def yX5_paidFor : MethodName := ⟨RX5, "paidFor", "(II)I"⟩
abbrev cX5_pays : ByteArray := prog_7_method_39_code
def yX5_pays : MethodName := ⟨RX5, "pays", "(I)I"⟩
abbrev cX5_letCosts : ByteArray := prog_7_method_40_code
def yX5_letCosts : MethodName := ⟨RX5, "letCosts", "()I"⟩
abbrev cX5_left : ByteArray := prog_7_method_41_code
def yX5_left : MethodName := ⟨RX5, "left", "()I"⟩
abbrev cX5_isCalled : ByteArray := prog_7_method_42_code
def yX5_isCalled : MethodName := ⟨RX5, "isCalled", "(IIIII)Z"⟩
abbrev cX5_isCall : ByteArray := prog_7_method_43_code
def yX5_isCall : MethodName := ⟨RX5, "isCall", "(IIII)Z"⟩
abbrev cX5_called : ByteArray := prog_7_method_44_code
def yX5_called : MethodName := ⟨RX5, "called", "(IIII)I"⟩
abbrev cX5_calledAt : ByteArray := prog_7_method_45_code
def yX5_calledAt : MethodName := ⟨RX5, "calledAt", "(IIIII)I"⟩
abbrev cX5_judgedAs : ByteArray := prog_7_method_46_code
def yX5_judgedAs : MethodName := ⟨RX5, "judgedAs", "(I)I"⟩
abbrev cX5_thingsWithClaims : ByteArray := prog_7_method_47_code
def yX5_thingsWithClaims : MethodName := ⟨RX5, "thingsWithClaims", "()I"⟩
abbrev cX5_count : ByteArray := prog_7_method_48_code
def yX5_count : MethodName := ⟨RX5, "count", "(I)I"⟩
abbrev cX5_digest : ByteArray := prog_7_method_49_code
def yX5_digest : MethodName := ⟨RX5, "digest", "()J"⟩
def RJ13 : String := "java/lang/Long"
def TJ13 : u_T := fun k => match k with
  | _ => ("", "", "", false)
def tyJ13 : Nat → FieldType := fun k => match k with
  | _ => .int
abbrev wsJ130 : List Cond := u_ws RJ13 TJ13 0
theorem nmJ13 : ∀ a, a < 0 → ∀ b, b < 0 → a ≠ b → (TJ13 a).2.1 ≠ (TJ13 b).2.1 := by decide +kernel
theorem tyJ13_ok : ∀ k, k < 0 → parseFieldDescriptor (TJ13 k).2.2.1 = some (tyJ13 k) := by decide +kernel
abbrev cJ13_bitCount_95d88 : ByteArray := prog_8_method_50_code
def yJ13_bitCount_95d88 : MethodName := ⟨RJ13, "bitCount", "(J)I"⟩
def RJ9 : String := "java/lang/Math"
def TJ9 : u_T := fun k => match k with
  | _ => ("", "", "", false)
def tyJ9 : Nat → FieldType := fun k => match k with
  | _ => .int
abbrev wsJ90 : List Cond := u_ws RJ9 TJ9 0
theorem nmJ9 : ∀ a, a < 0 → ∀ b, b < 0 → a ≠ b → (TJ9 a).2.1 ≠ (TJ9 b).2.1 := by decide +kernel
theorem tyJ9_ok : ∀ k, k < 0 → parseFieldDescriptor (TJ9 k).2.2.1 = some (tyJ9 k) := by decide +kernel
abbrev cJ9_min_7cf53 : ByteArray := prog_9_method_69_code
def yJ9_min_7cf53 : MethodName := ⟨RJ9, "min", "(II)I"⟩
def RL : String := "UnderPromiseLaw"
abbrev cL_law : ByteArray := code
def yL_law : MethodName := ⟨RL, "law", "([I)Z"⟩
def wsX0_init : List Cond := .code yX0_init cX0_init 1 none :: ([.methodLink RX0 3 objectInit, .instanceMethod objectInit, .code objectInit ⟨#[0xb1]⟩ 1 none, .arrayClass .int, .fieldLink RX0 9 "UnderPromise$Claims" "thing" "[I", .fieldLink RX0 15 "UnderPromise$Claims" "part" "[I", .fieldLink RX0 18 "UnderPromise$Claims" "failed" "[I", .fieldLink RX0 21 "UnderPromise$Claims" "told" "[I", .fieldLink RX0 24 "UnderPromise$Claims" "cost" "[I", .fieldLink RX0 27 "UnderPromise$Claims" "age" "[I", .fieldLink RX0 30 "UnderPromise$Claims" "judged" "[I", .fieldLink RX0 33 "UnderPromise$Claims" "size" "I"] ++ wsX00)
def wsX0_add : List Cond := .code yX0_add cX0_add 8 (some .int) :: ([.fieldLink RX0 33 "UnderPromise$Claims" "size" "I", .fieldLink RX0 9 "UnderPromise$Claims" "thing" "[I", .fieldLink RX0 15 "UnderPromise$Claims" "part" "[I", .fieldLink RX0 18 "UnderPromise$Claims" "failed" "[I", .fieldLink RX0 21 "UnderPromise$Claims" "told" "[I", .fieldLink RX0 24 "UnderPromise$Claims" "cost" "[I", .fieldLink RX0 27 "UnderPromise$Claims" "age" "[I", .fieldLink RX0 30 "UnderPromise$Claims" "judged" "[I"] ++ wsX00)
def wsX0_delay : List Cond := .code yX0_delay cX0_delay 2 (some .int) :: ([.fieldLink RX0 21 "UnderPromise$Claims" "told" "[I", .fieldLink RX0 18 "UnderPromise$Claims" "failed" "[I"] ++ wsX00)
def wsX0_tell : List Cond := .code yX0_tell cX0_tell 3 (some .int) :: ([.fieldLink RX0 9 "UnderPromise$Claims" "thing" "[I", .fieldLink RX0 15 "UnderPromise$Claims" "part" "[I", .fieldLink RX0 18 "UnderPromise$Claims" "failed" "[I", .fieldLink RX0 21 "UnderPromise$Claims" "told" "[I", .fieldLink RX0 24 "UnderPromise$Claims" "cost" "[I", .fieldLink RX0 30 "UnderPromise$Claims" "judged" "[I", .methodLink RX0 37 yX0_delay, .instanceMethod yX0_delay, .selects RX0 yX0_delay yX0_delay, .initialized RX0, .code yX0_delay cX0_delay 2 (some .int)] ++ wsX00)
def wsX0_isLetBy : List Cond := .code yX0_isLetBy cX0_isLetBy 3 (some .boolean) :: ([.fieldLink RX0 30 "UnderPromise$Claims" "judged" "[I", .fieldLink RX0 21 "UnderPromise$Claims" "told" "[I"] ++ wsX00)
def wsX0_anyLet : List Cond := .code yX0_anyLet cX0_anyLet 7 (some .boolean) :: ([.fieldLink RX0 33 "UnderPromise$Claims" "size" "I", .fieldLink RX0 9 "UnderPromise$Claims" "thing" "[I", .fieldLink RX0 15 "UnderPromise$Claims" "part" "[I", .fieldLink RX0 30 "UnderPromise$Claims" "judged" "[I", .fieldLink RX0 18 "UnderPromise$Claims" "failed" "[I"] ++ wsX00)
def wsX0_letAtAge : List Cond := .code yX0_letAtAge cX0_letAtAge 5 (some .int) :: ([.fieldLink RX0 33 "UnderPromise$Claims" "size" "I", .fieldLink RX0 27 "UnderPromise$Claims" "age" "[I", .methodLink RX0 41 yX0_isLetBy, .instanceMethod yX0_isLetBy, .selects RX0 yX0_isLetBy yX0_isLetBy, .initialized RX0, .code yX0_isLetBy cX0_isLetBy 3 (some .boolean), .fieldLink RX0 30 "UnderPromise$Claims" "judged" "[I", .fieldLink RX0 21 "UnderPromise$Claims" "told" "[I"] ++ wsX00)
def wsX0_letSoldInAtAge : List Cond := .code yX0_letSoldInAtAge cX0_letSoldInAtAge 6 (some .int) :: ([.fieldLink RX0 33 "UnderPromise$Claims" "size" "I", .fieldLink RX0 27 "UnderPromise$Claims" "age" "[I", .fieldLink RX0 18 "UnderPromise$Claims" "failed" "[I", .methodLink RX0 41 yX0_isLetBy, .instanceMethod yX0_isLetBy, .selects RX0 yX0_isLetBy yX0_isLetBy, .initialized RX0, .code yX0_isLetBy cX0_isLetBy 3 (some .boolean), .fieldLink RX0 30 "UnderPromise$Claims" "judged" "[I", .fieldLink RX0 21 "UnderPromise$Claims" "told" "[I"] ++ wsX00)
def wsX0_letFailedIn : List Cond := .code yX0_letFailedIn cX0_letFailedIn 5 (some .int) :: ([.fieldLink RX0 33 "UnderPromise$Claims" "size" "I", .fieldLink RX0 18 "UnderPromise$Claims" "failed" "[I", .methodLink RX0 41 yX0_isLetBy, .instanceMethod yX0_isLetBy, .selects RX0 yX0_isLetBy yX0_isLetBy, .initialized RX0, .code yX0_isLetBy cX0_isLetBy 3 (some .boolean), .fieldLink RX0 30 "UnderPromise$Claims" "judged" "[I", .fieldLink RX0 21 "UnderPromise$Claims" "told" "[I"] ++ wsX00)
def wsX0_letDelayed : List Cond := .code yX0_letDelayed cX0_letDelayed 7 (some .int) :: ([.fieldLink RX0 33 "UnderPromise$Claims" "size" "I", .fieldLink RX0 18 "UnderPromise$Claims" "failed" "[I", .methodLink RX0 41 yX0_isLetBy, .instanceMethod yX0_isLetBy, .selects RX0 yX0_isLetBy yX0_isLetBy, .initialized RX0, .code yX0_isLetBy cX0_isLetBy 3 (some .boolean), .fieldLink RX0 30 "UnderPromise$Claims" "judged" "[I", .fieldLink RX0 21 "UnderPromise$Claims" "told" "[I", .methodLink RX0 37 yX0_delay, .instanceMethod yX0_delay, .selects RX0 yX0_delay yX0_delay, .code yX0_delay cX0_delay 2 (some .int)] ++ wsX00)
def wsX4_hasBit : List Cond := .code yX4_hasBit cX4_hasBit 3 (some .boolean) :: ([])
def wsX0_thingsLetFor : List Cond := .code yX0_thingsLetFor cX0_thingsLetFor 6 (some .long) :: ([.fieldLink RX0 33 "UnderPromise$Claims" "size" "I", .fieldLink RX0 15 "UnderPromise$Claims" "part" "[I", .fieldLink RX0 9 "UnderPromise$Claims" "thing" "[I", .methodLink RX0 41 yX0_isLetBy, .instanceMethod yX0_isLetBy, .selects RX0 yX0_isLetBy yX0_isLetBy, .initialized RX0, .code yX0_isLetBy cX0_isLetBy 3 (some .boolean), .fieldLink RX0 30 "UnderPromise$Claims" "judged" "[I", .fieldLink RX0 21 "UnderPromise$Claims" "told" "[I", .static yX4_hasBit, .initialized RX4, .code yX4_hasBit cX4_hasBit 3 (some .boolean)] ++ wsX00)
def wsX0_judgedAs : List Cond := .code yX0_judgedAs cX0_judgedAs 4 (some .int) :: ([.fieldLink RX0 33 "UnderPromise$Claims" "size" "I", .fieldLink RX0 30 "UnderPromise$Claims" "judged" "[I"] ++ wsX00)
def wsX0_letCost : List Cond := .code yX0_letCost cX0_letCost 3 (some .int) :: ([.fieldLink RX0 33 "UnderPromise$Claims" "size" "I", .fieldLink RX0 30 "UnderPromise$Claims" "judged" "[I", .fieldLink RX0 24 "UnderPromise$Claims" "cost" "[I"] ++ wsX00)
def wsX0_digestOnto : List Cond := .code yX0_digestOnto cX0_digestOnto 7 (some .long) :: ([.fieldLink RX0 33 "UnderPromise$Claims" "size" "I", .constantLong RX0 49 (31), .methodLink RX0 51 yX0_tell, .instanceMethod yX0_tell, .selects RX0 yX0_tell yX0_tell, .initialized RX0, .code yX0_tell cX0_tell 3 (some .int), .fieldLink RX0 9 "UnderPromise$Claims" "thing" "[I", .fieldLink RX0 15 "UnderPromise$Claims" "part" "[I", .fieldLink RX0 18 "UnderPromise$Claims" "failed" "[I", .fieldLink RX0 21 "UnderPromise$Claims" "told" "[I", .fieldLink RX0 24 "UnderPromise$Claims" "cost" "[I", .fieldLink RX0 30 "UnderPromise$Claims" "judged" "[I", .methodLink RX0 37 yX0_delay, .instanceMethod yX0_delay, .selects RX0 yX0_delay yX0_delay, .code yX0_delay cX0_delay 2 (some .int)] ++ wsX00)
def wsX1_init : List Cond := .code yX1_init cX1_init 2 none :: ([.methodLink RX1 3 objectInit, .instanceMethod objectInit, .code objectInit ⟨#[0xb1]⟩ 1 none, .arrayClass .int, .fieldLink RX1 9 "UnderPromise$Parts" "above" "[I", .fieldLink RX1 15 "UnderPromise$Parts" "maker" "[I", .fieldLink RX1 18 "UnderPromise$Parts" "share" "[I"] ++ wsX10)
def wsX4_isWithin : List Cond := .code yX4_isWithin cX4_isWithin 3 (some .boolean) :: ([])
def wsX4_isPart : List Cond := .code yX4_isPart cX4_isPart 1 (some .boolean) :: ([.methodLink RX4 48 yX4_isWithin, .static yX4_isWithin, .initialized RX4, .code yX4_isWithin cX4_isWithin 3 (some .boolean)])
def wsX1_standsInRowOf : List Cond := .code yX1_standsInRowOf cX1_standsInRowOf 5 (some .boolean) :: ([.fieldLink RX1 9 "UnderPromise$Parts" "above" "[I", .static yX4_isPart, .initialized RX4, .code yX4_isPart cX4_isPart 1 (some .boolean), .methodLink RX4 48 yX4_isWithin, .static yX4_isWithin, .code yX4_isWithin cX4_isWithin 3 (some .boolean)] ++ wsX10)
def wsX1_withAllUnder : List Cond := .code yX1_withAllUnder cX1_withAllUnder 4 (some .int) :: ([.methodLink RX1 25 yX1_standsInRowOf, .instanceMethod yX1_standsInRowOf, .selects RX1 yX1_standsInRowOf yX1_standsInRowOf, .initialized RX1, .code yX1_standsInRowOf cX1_standsInRowOf 5 (some .boolean), .fieldLink RX1 9 "UnderPromise$Parts" "above" "[I", .static yX4_isPart, .initialized RX4, .code yX4_isPart cX4_isPart 1 (some .boolean), .methodLink RX4 48 yX4_isWithin, .static yX4_isWithin, .code yX4_isWithin cX4_isWithin 3 (some .boolean)] ++ wsX10)
def wsX1_firstWithMaker : List Cond := .code yX1_firstWithMaker cX1_firstWithMaker 4 (some .int) :: ([.fieldLink RX1 15 "UnderPromise$Parts" "maker" "[I", .fieldLink RX1 9 "UnderPromise$Parts" "above" "[I", .static yX4_isPart, .initialized RX4, .code yX4_isPart cX4_isPart 1 (some .boolean), .methodLink RX4 48 yX4_isWithin, .static yX4_isWithin, .code yX4_isWithin cX4_isWithin 3 (some .boolean)] ++ wsX10)
def wsX1_digestOnto : List Cond := .code yX1_digestOnto cX1_digestOnto 6 (some .long) :: ([.constantLong RX1 29 (31), .fieldLink RX1 9 "UnderPromise$Parts" "above" "[I", .fieldLink RX1 15 "UnderPromise$Parts" "maker" "[I", .fieldLink RX1 18 "UnderPromise$Parts" "share" "[I"] ++ wsX10)
def wsX2_init : List Cond := .code yX2_init cX2_init 2 none :: ([.methodLink RX2 3 objectInit, .instanceMethod objectInit, .code objectInit ⟨#[0xb1]⟩ 1 none, .arrayClass .int, .fieldLink RX2 9 "UnderPromise$Things" "batch" "[I", .fieldLink RX2 15 "UnderPromise$Things" "sold" "[I", .fieldLink RX2 18 "UnderPromise$Things" "miles" "[I", .fieldLink RX2 21 "UnderPromise$Things" "land" "[I", .fieldLink RX2 24 "UnderPromise$Things" "landMonths" "[I", .fieldLink RX2 27 "UnderPromise$Things" "landMiles" "[I", .fieldLink RX2 30 "UnderPromise$Things" "size" "I", .constant RX2 34 (60000)] ++ wsX20)
def wsX2_has : List Cond := .code yX2_has cX2_has 2 (some .boolean) :: ([.fieldLink RX2 30 "UnderPromise$Things" "size" "I"] ++ wsX20)
def wsX2_add : List Cond := .code yX2_add cX2_add 6 (some .int) :: ([.fieldLink RX2 30 "UnderPromise$Things" "size" "I", .fieldLink RX2 9 "UnderPromise$Things" "batch" "[I", .fieldLink RX2 15 "UnderPromise$Things" "sold" "[I", .fieldLink RX2 18 "UnderPromise$Things" "miles" "[I", .fieldLink RX2 21 "UnderPromise$Things" "land" "[I"] ++ wsX20)
def wsX2_covers : List Cond := .code yX2_covers cX2_covers 4 (some .boolean) :: ([.fieldLink RX2 15 "UnderPromise$Things" "sold" "[I", .fieldLink RX2 24 "UnderPromise$Things" "landMonths" "[I", .fieldLink RX2 21 "UnderPromise$Things" "land" "[I", .fieldLink RX2 18 "UnderPromise$Things" "miles" "[I", .fieldLink RX2 27 "UnderPromise$Things" "landMiles" "[I"] ++ wsX20)
def wsX2_lastCovered : List Cond := .code yX2_lastCovered cX2_lastCovered 5 (some .int) :: ([.fieldLink RX2 24 "UnderPromise$Things" "landMonths" "[I", .fieldLink RX2 21 "UnderPromise$Things" "land" "[I", .fieldLink RX2 27 "UnderPromise$Things" "landMiles" "[I", .fieldLink RX2 18 "UnderPromise$Things" "miles" "[I", .methodLink RX2 35 Lib.Math.min.name, .static Lib.Math.min.name, .initialized "java/lang/Math", .code Lib.Math.min.name Lib.Math.min.code 2 (some .int), .fieldLink RX2 15 "UnderPromise$Things" "sold" "[I"] ++ wsX20)
def wsX2_coveredAtAge : List Cond := .code yX2_coveredAtAge cX2_coveredAtAge 6 (some .int) :: ([.fieldLink RX2 30 "UnderPromise$Things" "size" "I", .fieldLink RX2 15 "UnderPromise$Things" "sold" "[I", .methodLink RX2 41 yX2_covers, .instanceMethod yX2_covers, .selects RX2 yX2_covers yX2_covers, .initialized RX2, .code yX2_covers cX2_covers 4 (some .boolean), .fieldLink RX2 24 "UnderPromise$Things" "landMonths" "[I", .fieldLink RX2 21 "UnderPromise$Things" "land" "[I", .fieldLink RX2 18 "UnderPromise$Things" "miles" "[I", .fieldLink RX2 27 "UnderPromise$Things" "landMiles" "[I"] ++ wsX20)
def wsX2_soldOf : List Cond := .code yX2_soldOf cX2_soldOf 7 (some .long) :: ([.fieldLink RX2 30 "UnderPromise$Things" "size" "I", .fieldLink RX2 9 "UnderPromise$Things" "batch" "[I", .fieldLink RX2 15 "UnderPromise$Things" "sold" "[I", .static yX4_hasBit, .initialized RX4, .code yX4_hasBit cX4_hasBit 3 (some .boolean)] ++ wsX20)
def wsX2_ofBatch : List Cond := .code yX2_ofBatch cX2_ofBatch 2 (some .long) :: ([.methodLink RX2 45 yX2_soldOf, .instanceMethod yX2_soldOf, .selects RX2 yX2_soldOf yX2_soldOf, .initialized RX2, .code yX2_soldOf cX2_soldOf 7 (some .long), .fieldLink RX2 30 "UnderPromise$Things" "size" "I", .fieldLink RX2 9 "UnderPromise$Things" "batch" "[I", .fieldLink RX2 15 "UnderPromise$Things" "sold" "[I", .static yX4_hasBit, .initialized RX4, .code yX4_hasBit cX4_hasBit 3 (some .boolean)] ++ wsX20)
def wsX2_digestOnto : List Cond := .code yX2_digestOnto cX2_digestOnto 6 (some .long) :: ([.fieldLink RX2 30 "UnderPromise$Things" "size" "I", .constantLong RX2 53 (31), .fieldLink RX2 9 "UnderPromise$Things" "batch" "[I", .fieldLink RX2 15 "UnderPromise$Things" "sold" "[I", .fieldLink RX2 18 "UnderPromise$Things" "miles" "[I", .fieldLink RX2 21 "UnderPromise$Things" "land" "[I", .methodLink RX2 55 yX2_lastCovered, .instanceMethod yX2_lastCovered, .selects RX2 yX2_lastCovered yX2_lastCovered, .initialized RX2, .code yX2_lastCovered cX2_lastCovered 5 (some .int), .fieldLink RX2 24 "UnderPromise$Things" "landMonths" "[I", .fieldLink RX2 27 "UnderPromise$Things" "landMiles" "[I", .methodLink RX2 35 Lib.Math.min.name, .static Lib.Math.min.name, .initialized "java/lang/Math", .code Lib.Math.min.name Lib.Math.min.code 2 (some .int)] ++ wsX20)
def wsX3_init : List Cond := .code yX3_init cX3_init 3 none :: ([.methodLink RX3 3 objectInit, .instanceMethod objectInit, .code objectInit ⟨#[0xb1]⟩ 1 none, .classLink RX3 9 "[[J", .arrayClass .long, .fieldLink RX3 11 "UnderPromise$Ways" "rows" "[[J"] ++ wsX30)
def wsX3_choose : List Cond := .code yX3_choose cX3_choose 3 (some .long) :: ([.fieldLink RX3 11 "UnderPromise$Ways" "rows" "[[J"] ++ wsX30)
def wsX3_withAtLeast : List Cond := .code yX3_withAtLeast cX3_withAtLeast 8 (some .long) :: ([.methodLink RX3 16 yX3_choose, .instanceMethod yX3_choose, .selects RX3 yX3_choose yX3_choose, .initialized RX3, .code yX3_choose cX3_choose 3 (some .long), .fieldLink RX3 11 "UnderPromise$Ways" "rows" "[[J"] ++ wsX30)
def wsX4_init_r1 : List Cond := [Cond.methodLink RX4 3 objectInit, Cond.instanceMethod objectInit, Cond.code objectInit ⟨#[0xb1]⟩ 1 none, Cond.classLink RX4 9 RX2, Cond.instantiable RX2 7, Cond.initialized RX2, Cond.fieldLink RX4 12 "UnderPromise" "things" "LUnderPromise$Things;", Cond.classLink RX4 16 RX0, Cond.instantiable RX0 8, Cond.initialized RX0, Cond.fieldLink RX4 19 "UnderPromise" "claims" "LUnderPromise$Claims;", Cond.classLink RX4 23 RX1, Cond.instantiable RX1 3, Cond.initialized RX1, Cond.fieldLink RX4 26 "UnderPromise" "parts" "LUnderPromise$Parts;", Cond.classLink RX4 30 RX3, Cond.instantiable RX3 1, Cond.initialized RX3, Cond.fieldLink RX4 33 "UnderPromise" "ways" "LUnderPromise$Ways;", Cond.fieldLink RX4 37 "UnderPromise" "monthsAhead" "I", Cond.methodLink RX4 11 yX2_init, Cond.instanceMethod yX2_init, Cond.code yX2_init cX2_init 2 none, Cond.methodLink RX2 3 objectInit]
def wsX4_init_r2 : List Cond := [Cond.arrayClass .int, Cond.fieldLink RX2 9 "UnderPromise$Things" "batch" "[I", Cond.fieldLink RX2 15 "UnderPromise$Things" "sold" "[I", Cond.fieldLink RX2 18 "UnderPromise$Things" "miles" "[I", Cond.fieldLink RX2 21 "UnderPromise$Things" "land" "[I", Cond.fieldLink RX2 24 "UnderPromise$Things" "landMonths" "[I", Cond.fieldLink RX2 27 "UnderPromise$Things" "landMiles" "[I", Cond.fieldLink RX2 30 "UnderPromise$Things" "size" "I", Cond.constant RX2 34 (60000), Cond.instanceMethod yX0_init, Cond.code yX0_init cX0_init 1 none, Cond.methodLink RX0 3 objectInit, Cond.fieldLink RX0 9 "UnderPromise$Claims" "thing" "[I", Cond.fieldLink RX0 15 "UnderPromise$Claims" "part" "[I", Cond.fieldLink RX0 18 "UnderPromise$Claims" "failed" "[I", Cond.fieldLink RX0 21 "UnderPromise$Claims" "told" "[I", Cond.fieldLink RX0 24 "UnderPromise$Claims" "cost" "[I", Cond.fieldLink RX0 27 "UnderPromise$Claims" "age" "[I", Cond.fieldLink RX0 30 "UnderPromise$Claims" "judged" "[I", Cond.fieldLink RX0 33 "UnderPromise$Claims" "size" "I", Cond.methodLink RX4 25 yX1_init, Cond.instanceMethod yX1_init, Cond.code yX1_init cX1_init 2 none, Cond.methodLink RX1 3 objectInit]
def wsX4_init_r3 : List Cond := [Cond.fieldLink RX1 9 "UnderPromise$Parts" "above" "[I", Cond.fieldLink RX1 15 "UnderPromise$Parts" "maker" "[I", Cond.fieldLink RX1 18 "UnderPromise$Parts" "share" "[I", Cond.methodLink RX4 32 yX3_init, Cond.instanceMethod yX3_init, Cond.code yX3_init cX3_init 3 none, Cond.methodLink RX3 3 objectInit, Cond.classLink RX3 9 "[[J", Cond.arrayClass .long, Cond.fieldLink RX3 11 "UnderPromise$Ways" "rows" "[[J"]
def wsX4_init : List Cond := .code yX4_init cX4_init 1 none :: ((wsX4_init_r1 ++ (wsX4_init_r2 ++ wsX4_init_r3)) ++ wsX20 ++ wsX40 ++ wsX00 ++ wsX10 ++ wsX30)
def wsX4_isBatch : List Cond := .code yX4_isBatch cX4_isBatch 1 (some .boolean) :: ([.methodLink RX4 48 yX4_isWithin, .static yX4_isWithin, .initialized RX4, .code yX4_isWithin cX4_isWithin 3 (some .boolean)])
def wsX4_isSaleMonth : List Cond := .code yX4_isSaleMonth cX4_isSaleMonth 1 (some .boolean) :: ([.methodLink RX4 48 yX4_isWithin, .static yX4_isWithin, .initialized RX4, .code yX4_isWithin cX4_isWithin 3 (some .boolean)])
def wsX4_isLand : List Cond := .code yX4_isLand cX4_isLand 1 (some .boolean) :: ([.methodLink RX4 48 yX4_isWithin, .static yX4_isWithin, .initialized RX4, .code yX4_isWithin cX4_isWithin 3 (some .boolean)])
def wsX4_thing : List Cond := .code yX4_thing cX4_thing 5 (some .int) :: ([.fieldLink RX4 12 "UnderPromise" "things" "LUnderPromise$Things;", .methodLink RX4 41 yX4_isBatch, .static yX4_isBatch, .initialized RX4, .code yX4_isBatch cX4_isBatch 1 (some .boolean), .methodLink RX4 48 yX4_isWithin, .static yX4_isWithin, .code yX4_isWithin cX4_isWithin 3 (some .boolean), .methodLink RX4 45 yX4_isSaleMonth, .static yX4_isSaleMonth, .code yX4_isSaleMonth cX4_isSaleMonth 1 (some .boolean), .methodLink RX4 52 yX4_isLand, .static yX4_isLand, .code yX4_isLand cX4_isLand 1 (some .boolean), .methodLink RX4 55 yX2_add, .instanceMethod yX2_add, .selects RX2 yX2_add yX2_add, .initialized RX2, .code yX2_add cX2_add 6 (some .int), .fieldLink RX2 30 "UnderPromise$Things" "size" "I", .fieldLink RX2 9 "UnderPromise$Things" "batch" "[I", .fieldLink RX2 15 "UnderPromise$Things" "sold" "[I", .fieldLink RX2 18 "UnderPromise$Things" "miles" "[I", .fieldLink RX2 21 "UnderPromise$Things" "land" "[I"] ++ wsX40 ++ wsX20)
def wsX4_promise : List Cond := .code yX4_promise cX4_promise 4 (some .int) :: ([.constant RX4 59 (600000), .fieldLink RX4 12 "UnderPromise" "things" "LUnderPromise$Things;", .methodLink RX4 52 yX4_isLand, .static yX4_isLand, .initialized RX4, .code yX4_isLand cX4_isLand 1 (some .boolean), .methodLink RX4 48 yX4_isWithin, .static yX4_isWithin, .code yX4_isWithin cX4_isWithin 3 (some .boolean)] ++ wsX40 ++ wsX20)
def wsX4_again : List Cond := .code yX4_again cX4_again 3 (some .int) :: ([.fieldLink RX4 37 "UnderPromise" "monthsAhead" "I", .methodLink RX4 48 yX4_isWithin, .static yX4_isWithin, .initialized RX4, .code yX4_isWithin cX4_isWithin 3 (some .boolean)] ++ wsX40)
def wsX4_isMonth : List Cond := .code yX4_isMonth cX4_isMonth 1 (some .boolean) :: ([.methodLink RX4 48 yX4_isWithin, .static yX4_isWithin, .initialized RX4, .code yX4_isWithin cX4_isWithin 3 (some .boolean)])
def wsX4_promised : List Cond := .code yX4_promised cX4_promised 3 (some .int) :: ([.fieldLink RX4 12 "UnderPromise" "things" "LUnderPromise$Things;", .methodLink RX4 67 yX2_has, .instanceMethod yX2_has, .selects RX2 yX2_has yX2_has, .initialized RX2, .code yX2_has cX2_has 2 (some .boolean), .fieldLink RX2 30 "UnderPromise$Things" "size" "I", .methodLink RX4 70 yX4_isMonth, .static yX4_isMonth, .initialized RX4, .code yX4_isMonth cX4_isMonth 1 (some .boolean), .methodLink RX4 48 yX4_isWithin, .static yX4_isWithin, .code yX4_isWithin cX4_isWithin 3 (some .boolean), .methodLink RX4 73 yX2_covers, .instanceMethod yX2_covers, .selects RX2 yX2_covers yX2_covers, .code yX2_covers cX2_covers 4 (some .boolean), .fieldLink RX2 15 "UnderPromise$Things" "sold" "[I", .fieldLink RX2 24 "UnderPromise$Things" "landMonths" "[I", .fieldLink RX2 21 "UnderPromise$Things" "land" "[I", .fieldLink RX2 18 "UnderPromise$Things" "miles" "[I", .fieldLink RX2 27 "UnderPromise$Things" "landMiles" "[I"] ++ wsX40 ++ wsX20)
def wsX4_last : List Cond := .code yX4_last cX4_last 2 (some .int) :: ([.fieldLink RX4 12 "UnderPromise" "things" "LUnderPromise$Things;", .methodLink RX4 67 yX2_has, .instanceMethod yX2_has, .selects RX2 yX2_has yX2_has, .initialized RX2, .code yX2_has cX2_has 2 (some .boolean), .fieldLink RX2 30 "UnderPromise$Things" "size" "I", .methodLink RX4 77 yX2_lastCovered, .instanceMethod yX2_lastCovered, .selects RX2 yX2_lastCovered yX2_lastCovered, .code yX2_lastCovered cX2_lastCovered 5 (some .int), .fieldLink RX2 24 "UnderPromise$Things" "landMonths" "[I", .fieldLink RX2 21 "UnderPromise$Things" "land" "[I", .fieldLink RX2 27 "UnderPromise$Things" "landMiles" "[I", .fieldLink RX2 18 "UnderPromise$Things" "miles" "[I", .methodLink RX2 35 Lib.Math.min.name, .static Lib.Math.min.name, .initialized "java/lang/Math", .code Lib.Math.min.name Lib.Math.min.code 2 (some .int), .fieldLink RX2 15 "UnderPromise$Things" "sold" "[I"] ++ wsX40 ++ wsX20)
def wsX4_judge : List Cond := .code yX4_judge cX4_judge 4 (some .int) :: ([.fieldLink RX4 12 "UnderPromise" "things" "LUnderPromise$Things;", .fieldLink RX4 19 "UnderPromise" "claims" "LUnderPromise$Claims;", .fieldLink RX4 37 "UnderPromise" "monthsAhead" "I", .methodLink RX4 206 yX0_anyLet, .instanceMethod yX0_anyLet, .selects RX0 yX0_anyLet yX0_anyLet, .initialized RX0, .code yX0_anyLet cX0_anyLet 7 (some .boolean), .fieldLink RX0 33 "UnderPromise$Claims" "size" "I", .fieldLink RX0 9 "UnderPromise$Claims" "thing" "[I", .fieldLink RX0 15 "UnderPromise$Claims" "part" "[I", .fieldLink RX0 30 "UnderPromise$Claims" "judged" "[I", .fieldLink RX0 18 "UnderPromise$Claims" "failed" "[I", .methodLink RX4 73 yX2_covers, .instanceMethod yX2_covers, .selects RX2 yX2_covers yX2_covers, .initialized RX2, .code yX2_covers cX2_covers 4 (some .boolean), .fieldLink RX2 15 "UnderPromise$Things" "sold" "[I", .fieldLink RX2 24 "UnderPromise$Things" "landMonths" "[I", .fieldLink RX2 21 "UnderPromise$Things" "land" "[I", .fieldLink RX2 18 "UnderPromise$Things" "miles" "[I", .fieldLink RX2 27 "UnderPromise$Things" "landMiles" "[I"] ++ wsX40 ++ wsX20 ++ wsX00)
def wsX4_claim_r1 : List Cond := [Cond.fieldLink RX4 12 "UnderPromise" "things" "LUnderPromise$Things;", Cond.fieldLink RX4 19 "UnderPromise" "claims" "LUnderPromise$Claims;", Cond.methodLink RX4 67 yX2_has, Cond.instanceMethod yX2_has, Cond.selects RX2 yX2_has yX2_has, Cond.initialized RX2, Cond.code yX2_has cX2_has 2 (some .boolean), Cond.fieldLink RX2 30 "UnderPromise$Things" "size" "I", Cond.methodLink RX4 81 yX4_isPart, Cond.static yX4_isPart, Cond.initialized RX4, Cond.code yX4_isPart cX4_isPart 1 (some .boolean), Cond.methodLink RX4 48 yX4_isWithin, Cond.static yX4_isWithin, Cond.code yX4_isWithin cX4_isWithin 3 (some .boolean), Cond.methodLink RX4 70 yX4_isMonth, Cond.static yX4_isMonth, Cond.code yX4_isMonth cX4_isMonth 1 (some .boolean), Cond.methodLink RX4 87 yX4_judge, Cond.instanceMethod yX4_judge, Cond.selects RX4 yX4_judge yX4_judge, Cond.code yX4_judge cX4_judge 4 (some .int), Cond.fieldLink RX4 37 "UnderPromise" "monthsAhead" "I", Cond.methodLink RX4 206 yX0_anyLet]
def wsX4_claim_r2 : List Cond := [Cond.instanceMethod yX0_anyLet, Cond.selects RX0 yX0_anyLet yX0_anyLet, Cond.initialized RX0, Cond.code yX0_anyLet cX0_anyLet 7 (some .boolean), Cond.fieldLink RX0 33 "UnderPromise$Claims" "size" "I", Cond.fieldLink RX0 9 "UnderPromise$Claims" "thing" "[I", Cond.fieldLink RX0 15 "UnderPromise$Claims" "part" "[I", Cond.fieldLink RX0 30 "UnderPromise$Claims" "judged" "[I", Cond.fieldLink RX0 18 "UnderPromise$Claims" "failed" "[I", Cond.methodLink RX4 73 yX2_covers, Cond.instanceMethod yX2_covers, Cond.selects RX2 yX2_covers yX2_covers, Cond.code yX2_covers cX2_covers 4 (some .boolean), Cond.fieldLink RX2 15 "UnderPromise$Things" "sold" "[I", Cond.fieldLink RX2 24 "UnderPromise$Things" "landMonths" "[I", Cond.fieldLink RX2 21 "UnderPromise$Things" "land" "[I", Cond.fieldLink RX2 18 "UnderPromise$Things" "miles" "[I", Cond.fieldLink RX2 27 "UnderPromise$Things" "landMiles" "[I", Cond.methodLink RX4 91 yX0_add, Cond.instanceMethod yX0_add, Cond.selects RX0 yX0_add yX0_add, Cond.code yX0_add cX0_add 8 (some .int), Cond.fieldLink RX0 21 "UnderPromise$Claims" "told" "[I", Cond.fieldLink RX0 24 "UnderPromise$Claims" "cost" "[I"]
def wsX4_claim_r3 : List Cond := [Cond.fieldLink RX0 27 "UnderPromise$Claims" "age" "[I"]
def wsX4_claim : List Cond := .code yX4_claim cX4_claim 7 (some .int) :: ((wsX4_claim_r1 ++ (wsX4_claim_r2 ++ wsX4_claim_r3)) ++ wsX40 ++ wsX20 ++ wsX00)
def wsX4_about : List Cond := .code yX4_about cX4_about 3 (some .int) :: ([.fieldLink RX4 19 "UnderPromise" "claims" "LUnderPromise$Claims;", .methodLink RX4 48 yX4_isWithin, .static yX4_isWithin, .initialized RX4, .code yX4_isWithin cX4_isWithin 3 (some .boolean), .methodLink RX4 97 yX0_tell, .instanceMethod yX0_tell, .selects RX0 yX0_tell yX0_tell, .initialized RX0, .code yX0_tell cX0_tell 3 (some .int), .fieldLink RX0 9 "UnderPromise$Claims" "thing" "[I", .fieldLink RX0 15 "UnderPromise$Claims" "part" "[I", .fieldLink RX0 18 "UnderPromise$Claims" "failed" "[I", .fieldLink RX0 21 "UnderPromise$Claims" "told" "[I", .fieldLink RX0 24 "UnderPromise$Claims" "cost" "[I", .fieldLink RX0 30 "UnderPromise$Claims" "judged" "[I", .methodLink RX0 37 yX0_delay, .instanceMethod yX0_delay, .selects RX0 yX0_delay yX0_delay, .code yX0_delay cX0_delay 2 (some .int)] ++ wsX40 ++ wsX00)
def wsX4_table_r1 : List Cond := [Cond.fieldLink RX4 19 "UnderPromise" "claims" "LUnderPromise$Claims;", Cond.methodLink RX4 45 yX4_isSaleMonth, Cond.static yX4_isSaleMonth, Cond.initialized RX4, Cond.code yX4_isSaleMonth cX4_isSaleMonth 1 (some .boolean), Cond.methodLink RX4 48 yX4_isWithin, Cond.static yX4_isWithin, Cond.code yX4_isWithin cX4_isWithin 3 (some .boolean), Cond.methodLink RX4 70 yX4_isMonth, Cond.static yX4_isMonth, Cond.code yX4_isMonth cX4_isMonth 1 (some .boolean), Cond.methodLink RX4 101 yX0_letSoldInAtAge, Cond.instanceMethod yX0_letSoldInAtAge, Cond.selects RX0 yX0_letSoldInAtAge yX0_letSoldInAtAge, Cond.initialized RX0, Cond.code yX0_letSoldInAtAge cX0_letSoldInAtAge 6 (some .int), Cond.fieldLink RX0 33 "UnderPromise$Claims" "size" "I", Cond.fieldLink RX0 27 "UnderPromise$Claims" "age" "[I", Cond.fieldLink RX0 18 "UnderPromise$Claims" "failed" "[I", Cond.methodLink RX0 41 yX0_isLetBy, Cond.instanceMethod yX0_isLetBy, Cond.selects RX0 yX0_isLetBy yX0_isLetBy, Cond.code yX0_isLetBy cX0_isLetBy 3 (some .boolean), Cond.fieldLink RX0 30 "UnderPromise$Claims" "judged" "[I"]
def wsX4_table_r2 : List Cond := [Cond.fieldLink RX0 21 "UnderPromise$Claims" "told" "[I"]
def wsX4_table : List Cond := .code yX4_table cX4_table 4 (some .int) :: ((wsX4_table_r1 ++ wsX4_table_r2) ++ wsX40 ++ wsX00)
def wsX4_exposed : List Cond := .code yX4_exposed cX4_exposed 3 (some .int) :: ([.fieldLink RX4 12 "UnderPromise" "things" "LUnderPromise$Things;", .methodLink RX4 70 yX4_isMonth, .static yX4_isMonth, .initialized RX4, .code yX4_isMonth cX4_isMonth 1 (some .boolean), .methodLink RX4 48 yX4_isWithin, .static yX4_isWithin, .code yX4_isWithin cX4_isWithin 3 (some .boolean), .methodLink RX4 104 yX2_coveredAtAge, .instanceMethod yX2_coveredAtAge, .selects RX2 yX2_coveredAtAge yX2_coveredAtAge, .initialized RX2, .code yX2_coveredAtAge cX2_coveredAtAge 6 (some .int), .fieldLink RX2 30 "UnderPromise$Things" "size" "I", .fieldLink RX2 15 "UnderPromise$Things" "sold" "[I", .methodLink RX2 41 yX2_covers, .instanceMethod yX2_covers, .selects RX2 yX2_covers yX2_covers, .code yX2_covers cX2_covers 4 (some .boolean), .fieldLink RX2 24 "UnderPromise$Things" "landMonths" "[I", .fieldLink RX2 21 "UnderPromise$Things" "land" "[I", .fieldLink RX2 18 "UnderPromise$Things" "miles" "[I", .fieldLink RX2 27 "UnderPromise$Things" "landMiles" "[I"] ++ wsX40 ++ wsX20)
def wsX4_isAboveOrBelow : List Cond := .code yX4_isAboveOrBelow cX4_isAboveOrBelow 1 (some .boolean) :: ([])
def wsX4_greatestCommonDivisor : List Cond := .code yX4_greatestCommonDivisor cX4_greatestCommonDivisor 11 (some .long) :: ([])
def wsX4_ofLowestTerms : List Cond := .code yX4_ofLowestTerms cX4_ofLowestTerms 7 (some .long) :: ([.constantLong RX4 129 (-3), .methodLink RX4 233 yX4_greatestCommonDivisor, .static yX4_greatestCommonDivisor, .initialized RX4, .code yX4_greatestCommonDivisor cX4_greatestCommonDivisor 11 (some .long)])
def wsX4_rate_r1 : List Cond := [Cond.fieldLink RX4 12 "UnderPromise" "things" "LUnderPromise$Things;", Cond.fieldLink RX4 19 "UnderPromise" "claims" "LUnderPromise$Claims;", Cond.methodLink RX4 70 yX4_isMonth, Cond.static yX4_isMonth, Cond.initialized RX4, Cond.code yX4_isMonth cX4_isMonth 1 (some .boolean), Cond.methodLink RX4 48 yX4_isWithin, Cond.static yX4_isWithin, Cond.code yX4_isWithin cX4_isWithin 3 (some .boolean), Cond.methodLink RX4 107 yX4_isAboveOrBelow, Cond.static yX4_isAboveOrBelow, Cond.code yX4_isAboveOrBelow cX4_isAboveOrBelow 1 (some .boolean), Cond.methodLink RX4 104 yX2_coveredAtAge, Cond.instanceMethod yX2_coveredAtAge, Cond.selects RX2 yX2_coveredAtAge yX2_coveredAtAge, Cond.initialized RX2, Cond.code yX2_coveredAtAge cX2_coveredAtAge 6 (some .int), Cond.fieldLink RX2 30 "UnderPromise$Things" "size" "I", Cond.fieldLink RX2 15 "UnderPromise$Things" "sold" "[I", Cond.methodLink RX2 41 yX2_covers, Cond.instanceMethod yX2_covers, Cond.selects RX2 yX2_covers yX2_covers, Cond.code yX2_covers cX2_covers 4 (some .boolean), Cond.fieldLink RX2 24 "UnderPromise$Things" "landMonths" "[I"]
def wsX4_rate_r2 : List Cond := [Cond.fieldLink RX2 21 "UnderPromise$Things" "land" "[I", Cond.fieldLink RX2 18 "UnderPromise$Things" "miles" "[I", Cond.fieldLink RX2 27 "UnderPromise$Things" "landMiles" "[I", Cond.methodLink RX4 110 yX0_letAtAge, Cond.instanceMethod yX0_letAtAge, Cond.selects RX0 yX0_letAtAge yX0_letAtAge, Cond.initialized RX0, Cond.code yX0_letAtAge cX0_letAtAge 5 (some .int), Cond.fieldLink RX0 33 "UnderPromise$Claims" "size" "I", Cond.fieldLink RX0 27 "UnderPromise$Claims" "age" "[I", Cond.methodLink RX0 41 yX0_isLetBy, Cond.instanceMethod yX0_isLetBy, Cond.selects RX0 yX0_isLetBy yX0_isLetBy, Cond.code yX0_isLetBy cX0_isLetBy 3 (some .boolean), Cond.fieldLink RX0 30 "UnderPromise$Claims" "judged" "[I", Cond.fieldLink RX0 21 "UnderPromise$Claims" "told" "[I", Cond.methodLink RX4 113 yX4_ofLowestTerms, Cond.static yX4_ofLowestTerms, Cond.code yX4_ofLowestTerms cX4_ofLowestTerms 7 (some .long), Cond.constantLong RX4 129 (-3), Cond.methodLink RX4 233 yX4_greatestCommonDivisor, Cond.static yX4_greatestCommonDivisor, Cond.code yX4_greatestCommonDivisor cX4_greatestCommonDivisor 11 (some .long)]
def wsX4_rate : List Cond := .code yX4_rate cX4_rate 5 (some .int) :: ((wsX4_rate_r1 ++ wsX4_rate_r2) ++ wsX40 ++ wsX20 ++ wsX00)
def wsX4_delays_r1 : List Cond := [Cond.fieldLink RX4 19 "UnderPromise" "claims" "LUnderPromise$Claims;", Cond.methodLink RX4 70 yX4_isMonth, Cond.static yX4_isMonth, Cond.initialized RX4, Cond.code yX4_isMonth cX4_isMonth 1 (some .boolean), Cond.methodLink RX4 48 yX4_isWithin, Cond.static yX4_isWithin, Cond.code yX4_isWithin cX4_isWithin 3 (some .boolean), Cond.methodLink RX4 117 yX0_letDelayed, Cond.instanceMethod yX0_letDelayed, Cond.selects RX0 yX0_letDelayed yX0_letDelayed, Cond.initialized RX0, Cond.code yX0_letDelayed cX0_letDelayed 7 (some .int), Cond.fieldLink RX0 33 "UnderPromise$Claims" "size" "I", Cond.fieldLink RX0 18 "UnderPromise$Claims" "failed" "[I", Cond.methodLink RX0 41 yX0_isLetBy, Cond.instanceMethod yX0_isLetBy, Cond.selects RX0 yX0_isLetBy yX0_isLetBy, Cond.code yX0_isLetBy cX0_isLetBy 3 (some .boolean), Cond.fieldLink RX0 30 "UnderPromise$Claims" "judged" "[I", Cond.fieldLink RX0 21 "UnderPromise$Claims" "told" "[I", Cond.methodLink RX0 37 yX0_delay, Cond.instanceMethod yX0_delay, Cond.selects RX0 yX0_delay yX0_delay]
def wsX4_delays_r2 : List Cond := [Cond.code yX0_delay cX0_delay 2 (some .int)]
def wsX4_delays : List Cond := .code yX4_delays cX4_delays 3 (some .int) :: ((wsX4_delays_r1 ++ wsX4_delays_r2) ++ wsX40 ++ wsX00)
def wsX4_undone_r1 : List Cond := [Cond.fieldLink RX4 19 "UnderPromise" "claims" "LUnderPromise$Claims;", Cond.methodLink RX4 70 yX4_isMonth, Cond.static yX4_isMonth, Cond.initialized RX4, Cond.code yX4_isMonth cX4_isMonth 1 (some .boolean), Cond.methodLink RX4 48 yX4_isWithin, Cond.static yX4_isWithin, Cond.code yX4_isWithin cX4_isWithin 3 (some .boolean), Cond.methodLink RX4 120 yX0_letFailedIn, Cond.instanceMethod yX0_letFailedIn, Cond.selects RX0 yX0_letFailedIn yX0_letFailedIn, Cond.initialized RX0, Cond.code yX0_letFailedIn cX0_letFailedIn 5 (some .int), Cond.fieldLink RX0 33 "UnderPromise$Claims" "size" "I", Cond.fieldLink RX0 18 "UnderPromise$Claims" "failed" "[I", Cond.methodLink RX0 41 yX0_isLetBy, Cond.instanceMethod yX0_isLetBy, Cond.selects RX0 yX0_isLetBy yX0_isLetBy, Cond.code yX0_isLetBy cX0_isLetBy 3 (some .boolean), Cond.fieldLink RX0 30 "UnderPromise$Claims" "judged" "[I", Cond.fieldLink RX0 21 "UnderPromise$Claims" "told" "[I", Cond.methodLink RX4 117 yX0_letDelayed, Cond.instanceMethod yX0_letDelayed, Cond.selects RX0 yX0_letDelayed yX0_letDelayed]
def wsX4_undone_r2 : List Cond := [Cond.code yX0_letDelayed cX0_letDelayed 7 (some .int), Cond.methodLink RX0 37 yX0_delay, Cond.instanceMethod yX0_delay, Cond.selects RX0 yX0_delay yX0_delay, Cond.code yX0_delay cX0_delay 2 (some .int)]
def wsX4_undone : List Cond := .code yX4_undone cX4_undone 5 (some .int) :: ((wsX4_undone_r1 ++ wsX4_undone_r2) ++ wsX40 ++ wsX00)
def wsJ13_bitCount_95d88 : List Cond := .code yJ13_bitCount_95d88 cJ13_bitCount_95d88 2 (some .int) :: ([.constantLong RJ13 314 (6148914691236517205), .constantLong RJ13 316 (3689348814741910323), .constantLong RJ13 318 (1085102592571150095)])
def wsX4_waysAsOddOrOdder : List Cond := .code yX4_waysAsOddOrOdder cX4_waysAsOddOrOdder 6 (some .long) :: ([.fieldLink RX4 33 "UnderPromise" "ways" "LUnderPromise$Ways;", .fieldLink RX4 12 "UnderPromise" "things" "LUnderPromise$Things;", .methodLink RX4 180 yJ13_bitCount_95d88, .static yJ13_bitCount_95d88, .initialized RJ13, .code yJ13_bitCount_95d88 cJ13_bitCount_95d88 2 (some .int), .constantLong RJ13 314 (6148914691236517205), .constantLong RJ13 316 (3689348814741910323), .constantLong RJ13 318 (1085102592571150095), .methodLink RX4 209 yX3_withAtLeast, .instanceMethod yX3_withAtLeast, .selects RX3 yX3_withAtLeast yX3_withAtLeast, .initialized RX3, .code yX3_withAtLeast cX3_withAtLeast 8 (some .long), .methodLink RX3 16 yX3_choose, .instanceMethod yX3_choose, .selects RX3 yX3_choose yX3_choose, .code yX3_choose cX3_choose 3 (some .long), .fieldLink RX3 11 "UnderPromise$Ways" "rows" "[[J"] ++ wsX40 ++ wsX20 ++ wsX30)
def wsX4_waysInAll : List Cond := .code yX4_waysInAll cX4_waysInAll 3 (some .long) :: ([.fieldLink RX4 33 "UnderPromise" "ways" "LUnderPromise$Ways;", .fieldLink RX4 12 "UnderPromise" "things" "LUnderPromise$Things;", .methodLink RX4 180 yJ13_bitCount_95d88, .static yJ13_bitCount_95d88, .initialized RJ13, .code yJ13_bitCount_95d88 cJ13_bitCount_95d88 2 (some .int), .constantLong RJ13 314 (6148914691236517205), .constantLong RJ13 316 (3689348814741910323), .constantLong RJ13 318 (1085102592571150095), .methodLink RX4 212 yX3_choose, .instanceMethod yX3_choose, .selects RX3 yX3_choose yX3_choose, .initialized RX3, .code yX3_choose cX3_choose 3 (some .long), .fieldLink RX3 11 "UnderPromise$Ways" "rows" "[[J"] ++ wsX40 ++ wsX20 ++ wsX30)
def wsX4_chance_r1 : List Cond := [Cond.constantLong RX4 123 (-2), Cond.fieldLink RX4 12 "UnderPromise" "things" "LUnderPromise$Things;", Cond.constantLong RX4 129 (-3), Cond.fieldLink RX4 19 "UnderPromise" "claims" "LUnderPromise$Claims;", Cond.methodLink RX4 41 yX4_isBatch, Cond.static yX4_isBatch, Cond.initialized RX4, Cond.code yX4_isBatch cX4_isBatch 1 (some .boolean), Cond.methodLink RX4 48 yX4_isWithin, Cond.static yX4_isWithin, Cond.code yX4_isWithin cX4_isWithin 3 (some .boolean), Cond.methodLink RX4 81 yX4_isPart, Cond.static yX4_isPart, Cond.code yX4_isPart cX4_isPart 1 (some .boolean), Cond.methodLink RX4 70 yX4_isMonth, Cond.static yX4_isMonth, Cond.code yX4_isMonth cX4_isMonth 1 (some .boolean), Cond.methodLink RX4 107 yX4_isAboveOrBelow, Cond.static yX4_isAboveOrBelow, Cond.code yX4_isAboveOrBelow cX4_isAboveOrBelow 1 (some .boolean), Cond.methodLink RX4 125 yX2_ofBatch, Cond.instanceMethod yX2_ofBatch, Cond.selects RX2 yX2_ofBatch yX2_ofBatch, Cond.initialized RX2]
def wsX4_chance_r2 : List Cond := [Cond.code yX2_ofBatch cX2_ofBatch 2 (some .long), Cond.methodLink RX2 45 yX2_soldOf, Cond.instanceMethod yX2_soldOf, Cond.selects RX2 yX2_soldOf yX2_soldOf, Cond.code yX2_soldOf cX2_soldOf 7 (some .long), Cond.fieldLink RX2 30 "UnderPromise$Things" "size" "I", Cond.fieldLink RX2 9 "UnderPromise$Things" "batch" "[I", Cond.fieldLink RX2 15 "UnderPromise$Things" "sold" "[I", Cond.static yX4_hasBit, Cond.code yX4_hasBit cX4_hasBit 3 (some .boolean), Cond.methodLink RX4 131 yX0_thingsLetFor, Cond.instanceMethod yX0_thingsLetFor, Cond.selects RX0 yX0_thingsLetFor yX0_thingsLetFor, Cond.initialized RX0, Cond.code yX0_thingsLetFor cX0_thingsLetFor 6 (some .long), Cond.fieldLink RX0 33 "UnderPromise$Claims" "size" "I", Cond.fieldLink RX0 15 "UnderPromise$Claims" "part" "[I", Cond.fieldLink RX0 9 "UnderPromise$Claims" "thing" "[I", Cond.methodLink RX0 41 yX0_isLetBy, Cond.instanceMethod yX0_isLetBy, Cond.selects RX0 yX0_isLetBy yX0_isLetBy, Cond.code yX0_isLetBy cX0_isLetBy 3 (some .boolean), Cond.fieldLink RX0 30 "UnderPromise$Claims" "judged" "[I", Cond.fieldLink RX0 21 "UnderPromise$Claims" "told" "[I"]
def wsX4_chance_r3 : List Cond := [Cond.methodLink RX4 135 yX4_waysAsOddOrOdder, Cond.instanceMethod yX4_waysAsOddOrOdder, Cond.selects RX4 yX4_waysAsOddOrOdder yX4_waysAsOddOrOdder, Cond.code yX4_waysAsOddOrOdder cX4_waysAsOddOrOdder 6 (some .long), Cond.fieldLink RX4 33 "UnderPromise" "ways" "LUnderPromise$Ways;", Cond.methodLink RX4 180 yJ13_bitCount_95d88, Cond.static yJ13_bitCount_95d88, Cond.initialized RJ13, Cond.code yJ13_bitCount_95d88 cJ13_bitCount_95d88 2 (some .int), Cond.constantLong RJ13 314 (6148914691236517205), Cond.constantLong RJ13 316 (3689348814741910323), Cond.constantLong RJ13 318 (1085102592571150095), Cond.methodLink RX4 209 yX3_withAtLeast, Cond.instanceMethod yX3_withAtLeast, Cond.selects RX3 yX3_withAtLeast yX3_withAtLeast, Cond.initialized RX3, Cond.code yX3_withAtLeast cX3_withAtLeast 8 (some .long), Cond.methodLink RX3 16 yX3_choose, Cond.instanceMethod yX3_choose, Cond.selects RX3 yX3_choose yX3_choose, Cond.code yX3_choose cX3_choose 3 (some .long), Cond.fieldLink RX3 11 "UnderPromise$Ways" "rows" "[[J", Cond.methodLink RX4 139 yX4_waysInAll, Cond.instanceMethod yX4_waysInAll]
def wsX4_chance_r4 : List Cond := [Cond.selects RX4 yX4_waysInAll yX4_waysInAll, Cond.code yX4_waysInAll cX4_waysInAll 3 (some .long), Cond.methodLink RX4 212 yX3_choose, Cond.methodLink RX4 113 yX4_ofLowestTerms, Cond.static yX4_ofLowestTerms, Cond.code yX4_ofLowestTerms cX4_ofLowestTerms 7 (some .long), Cond.methodLink RX4 233 yX4_greatestCommonDivisor, Cond.static yX4_greatestCommonDivisor, Cond.code yX4_greatestCommonDivisor cX4_greatestCommonDivisor 11 (some .long)]
def wsX4_chance : List Cond := .code yX4_chance cX4_chance 9 (some .long) :: ((wsX4_chance_r1 ++ (wsX4_chance_r2 ++ (wsX4_chance_r3 ++ wsX4_chance_r4))) ++ wsX40 ++ wsX20 ++ wsX00 ++ wsX30)
def wsX4_isLess : List Cond := .code yX4_isLess cX4_isLess 25 (some .boolean) :: ([])
def wsX4_oddest_r1 : List Cond := [Cond.fieldLink RX4 19 "UnderPromise" "claims" "LUnderPromise$Claims;", Cond.fieldLink RX4 12 "UnderPromise" "things" "LUnderPromise$Things;", Cond.methodLink RX4 81 yX4_isPart, Cond.static yX4_isPart, Cond.initialized RX4, Cond.code yX4_isPart cX4_isPart 1 (some .boolean), Cond.methodLink RX4 48 yX4_isWithin, Cond.static yX4_isWithin, Cond.code yX4_isWithin cX4_isWithin 3 (some .boolean), Cond.methodLink RX4 70 yX4_isMonth, Cond.static yX4_isMonth, Cond.code yX4_isMonth cX4_isMonth 1 (some .boolean), Cond.methodLink RX4 131 yX0_thingsLetFor, Cond.instanceMethod yX0_thingsLetFor, Cond.selects RX0 yX0_thingsLetFor yX0_thingsLetFor, Cond.initialized RX0, Cond.code yX0_thingsLetFor cX0_thingsLetFor 6 (some .long), Cond.fieldLink RX0 33 "UnderPromise$Claims" "size" "I", Cond.fieldLink RX0 15 "UnderPromise$Claims" "part" "[I", Cond.fieldLink RX0 9 "UnderPromise$Claims" "thing" "[I", Cond.methodLink RX0 41 yX0_isLetBy, Cond.instanceMethod yX0_isLetBy, Cond.selects RX0 yX0_isLetBy yX0_isLetBy, Cond.code yX0_isLetBy cX0_isLetBy 3 (some .boolean)]
def wsX4_oddest_r2 : List Cond := [Cond.fieldLink RX0 30 "UnderPromise$Claims" "judged" "[I", Cond.fieldLink RX0 21 "UnderPromise$Claims" "told" "[I", Cond.static yX4_hasBit, Cond.code yX4_hasBit cX4_hasBit 3 (some .boolean), Cond.methodLink RX4 125 yX2_ofBatch, Cond.instanceMethod yX2_ofBatch, Cond.selects RX2 yX2_ofBatch yX2_ofBatch, Cond.initialized RX2, Cond.code yX2_ofBatch cX2_ofBatch 2 (some .long), Cond.methodLink RX2 45 yX2_soldOf, Cond.instanceMethod yX2_soldOf, Cond.selects RX2 yX2_soldOf yX2_soldOf, Cond.code yX2_soldOf cX2_soldOf 7 (some .long), Cond.fieldLink RX2 30 "UnderPromise$Things" "size" "I", Cond.fieldLink RX2 9 "UnderPromise$Things" "batch" "[I", Cond.fieldLink RX2 15 "UnderPromise$Things" "sold" "[I", Cond.methodLink RX4 135 yX4_waysAsOddOrOdder, Cond.instanceMethod yX4_waysAsOddOrOdder, Cond.selects RX4 yX4_waysAsOddOrOdder yX4_waysAsOddOrOdder, Cond.code yX4_waysAsOddOrOdder cX4_waysAsOddOrOdder 6 (some .long), Cond.fieldLink RX4 33 "UnderPromise" "ways" "LUnderPromise$Ways;", Cond.methodLink RX4 180 yJ13_bitCount_95d88, Cond.static yJ13_bitCount_95d88, Cond.initialized RJ13]
def wsX4_oddest_r3 : List Cond := [Cond.code yJ13_bitCount_95d88 cJ13_bitCount_95d88 2 (some .int), Cond.constantLong RJ13 314 (6148914691236517205), Cond.constantLong RJ13 316 (3689348814741910323), Cond.constantLong RJ13 318 (1085102592571150095), Cond.methodLink RX4 209 yX3_withAtLeast, Cond.instanceMethod yX3_withAtLeast, Cond.selects RX3 yX3_withAtLeast yX3_withAtLeast, Cond.initialized RX3, Cond.code yX3_withAtLeast cX3_withAtLeast 8 (some .long), Cond.methodLink RX3 16 yX3_choose, Cond.instanceMethod yX3_choose, Cond.selects RX3 yX3_choose yX3_choose, Cond.code yX3_choose cX3_choose 3 (some .long), Cond.fieldLink RX3 11 "UnderPromise$Ways" "rows" "[[J", Cond.methodLink RX4 139 yX4_waysInAll, Cond.instanceMethod yX4_waysInAll, Cond.selects RX4 yX4_waysInAll yX4_waysInAll, Cond.code yX4_waysInAll cX4_waysInAll 3 (some .long), Cond.methodLink RX4 212 yX3_choose, Cond.methodLink RX4 143 yX4_isLess, Cond.static yX4_isLess, Cond.code yX4_isLess cX4_isLess 25 (some .boolean)]
def wsX4_oddest : List Cond := .code yX4_oddest cX4_oddest 17 (some .int) :: ((wsX4_oddest_r1 ++ (wsX4_oddest_r2 ++ wsX4_oddest_r3)) ++ wsX40 ++ wsX00 ++ wsX20 ++ wsX30)
def wsX4_under : List Cond := .code yX4_under cX4_under 3 (some .int) :: ([.fieldLink RX4 26 "UnderPromise" "parts" "LUnderPromise$Parts;", .methodLink RX4 81 yX4_isPart, .static yX4_isPart, .initialized RX4, .code yX4_isPart cX4_isPart 1 (some .boolean), .methodLink RX4 48 yX4_isWithin, .static yX4_isWithin, .code yX4_isWithin cX4_isWithin 3 (some .boolean), .methodLink RX4 147 yX1_standsInRowOf, .instanceMethod yX1_standsInRowOf, .selects RX1 yX1_standsInRowOf yX1_standsInRowOf, .initialized RX1, .code yX1_standsInRowOf cX1_standsInRowOf 5 (some .boolean), .fieldLink RX1 9 "UnderPromise$Parts" "above" "[I"] ++ wsX40 ++ wsX10)
def wsX4_isMaker : List Cond := .code yX4_isMaker cX4_isMaker 1 (some .boolean) :: ([.methodLink RX4 48 yX4_isWithin, .static yX4_isWithin, .initialized RX4, .code yX4_isWithin cX4_isWithin 3 (some .boolean)])
def wsX4_maker : List Cond := .code yX4_maker cX4_maker 4 (some .int) :: ([.fieldLink RX4 26 "UnderPromise" "parts" "LUnderPromise$Parts;", .methodLink RX4 81 yX4_isPart, .static yX4_isPart, .initialized RX4, .code yX4_isPart cX4_isPart 1 (some .boolean), .methodLink RX4 48 yX4_isWithin, .static yX4_isWithin, .code yX4_isWithin cX4_isWithin 3 (some .boolean), .methodLink RX4 153 yX4_isMaker, .static yX4_isMaker, .code yX4_isMaker cX4_isMaker 1 (some .boolean)] ++ wsX40 ++ wsX10)
def wsX4_payer : List Cond := .code yX4_payer cX4_payer 3 (some .int) :: ([.fieldLink RX4 26 "UnderPromise" "parts" "LUnderPromise$Parts;", .methodLink RX4 81 yX4_isPart, .static yX4_isPart, .initialized RX4, .code yX4_isPart cX4_isPart 1 (some .boolean), .methodLink RX4 48 yX4_isWithin, .static yX4_isWithin, .code yX4_isWithin cX4_isWithin 3 (some .boolean), .methodLink RX4 162 yX1_firstWithMaker, .instanceMethod yX1_firstWithMaker, .selects RX1 yX1_firstWithMaker yX1_firstWithMaker, .initialized RX1, .code yX1_firstWithMaker cX1_firstWithMaker 4 (some .int), .fieldLink RX1 15 "UnderPromise$Parts" "maker" "[I", .fieldLink RX1 9 "UnderPromise$Parts" "above" "[I"] ++ wsX40 ++ wsX10)
def wsX4_paidBy : List Cond := .code yX4_paidBy cX4_paidBy 5 (some .int) :: ([.fieldLink RX4 19 "UnderPromise" "claims" "LUnderPromise$Claims;", .fieldLink RX4 26 "UnderPromise" "parts" "LUnderPromise$Parts;", .methodLink RX4 162 yX1_firstWithMaker, .instanceMethod yX1_firstWithMaker, .selects RX1 yX1_firstWithMaker yX1_firstWithMaker, .initialized RX1, .code yX1_firstWithMaker cX1_firstWithMaker 4 (some .int), .fieldLink RX1 15 "UnderPromise$Parts" "maker" "[I", .fieldLink RX1 9 "UnderPromise$Parts" "above" "[I", .static yX4_isPart, .initialized RX4, .code yX4_isPart cX4_isPart 1 (some .boolean), .methodLink RX4 48 yX4_isWithin, .static yX4_isWithin, .code yX4_isWithin cX4_isWithin 3 (some .boolean), .methodLink RX4 81 yX4_isPart] ++ wsX40 ++ wsX00 ++ wsX10)
def wsX4_pays : List Cond := .code yX4_pays cX4_pays 2 (some .int) :: ([.methodLink RX4 153 yX4_isMaker, .static yX4_isMaker, .initialized RX4, .code yX4_isMaker cX4_isMaker 1 (some .boolean), .methodLink RX4 48 yX4_isWithin, .static yX4_isWithin, .code yX4_isWithin cX4_isWithin 3 (some .boolean), .methodLink RX4 165 yX4_paidBy, .instanceMethod yX4_paidBy, .selects RX4 yX4_paidBy yX4_paidBy, .code yX4_paidBy cX4_paidBy 5 (some .int), .fieldLink RX4 19 "UnderPromise" "claims" "LUnderPromise$Claims;", .fieldLink RX4 26 "UnderPromise" "parts" "LUnderPromise$Parts;", .methodLink RX4 162 yX1_firstWithMaker, .instanceMethod yX1_firstWithMaker, .selects RX1 yX1_firstWithMaker yX1_firstWithMaker, .initialized RX1, .code yX1_firstWithMaker cX1_firstWithMaker 4 (some .int), .fieldLink RX1 15 "UnderPromise$Parts" "maker" "[I", .fieldLink RX1 9 "UnderPromise$Parts" "above" "[I", .static yX4_isPart, .code yX4_isPart cX4_isPart 1 (some .boolean), .methodLink RX4 81 yX4_isPart] ++ wsX40 ++ wsX00 ++ wsX10)
def wsX4_left_r1 : List Cond := [Cond.fieldLink RX4 19 "UnderPromise" "claims" "LUnderPromise$Claims;", Cond.methodLink RX4 168 yX0_letCost, Cond.instanceMethod yX0_letCost, Cond.selects RX0 yX0_letCost yX0_letCost, Cond.initialized RX0, Cond.code yX0_letCost cX0_letCost 3 (some .int), Cond.fieldLink RX0 33 "UnderPromise$Claims" "size" "I", Cond.fieldLink RX0 30 "UnderPromise$Claims" "judged" "[I", Cond.fieldLink RX0 24 "UnderPromise$Claims" "cost" "[I", Cond.methodLink RX4 165 yX4_paidBy, Cond.instanceMethod yX4_paidBy, Cond.selects RX4 yX4_paidBy yX4_paidBy, Cond.initialized RX4, Cond.code yX4_paidBy cX4_paidBy 5 (some .int), Cond.fieldLink RX4 26 "UnderPromise" "parts" "LUnderPromise$Parts;", Cond.methodLink RX4 162 yX1_firstWithMaker, Cond.instanceMethod yX1_firstWithMaker, Cond.selects RX1 yX1_firstWithMaker yX1_firstWithMaker, Cond.initialized RX1, Cond.code yX1_firstWithMaker cX1_firstWithMaker 4 (some .int), Cond.fieldLink RX1 15 "UnderPromise$Parts" "maker" "[I", Cond.fieldLink RX1 9 "UnderPromise$Parts" "above" "[I", Cond.static yX4_isPart, Cond.code yX4_isPart cX4_isPart 1 (some .boolean)]
def wsX4_left_r2 : List Cond := [Cond.methodLink RX4 48 yX4_isWithin, Cond.static yX4_isWithin, Cond.code yX4_isWithin cX4_isWithin 3 (some .boolean), Cond.methodLink RX4 81 yX4_isPart]
def wsX4_left : List Cond := .code yX4_left cX4_left 3 (some .int) :: ((wsX4_left_r1 ++ wsX4_left_r2) ++ wsX40 ++ wsX00 ++ wsX10)
def wsX4_canBeCalled : List Cond := .code yX4_canBeCalled cX4_canBeCalled 4 (some .boolean) :: ([.methodLink RX4 81 yX4_isPart, .static yX4_isPart, .initialized RX4, .code yX4_isPart cX4_isPart 1 (some .boolean), .methodLink RX4 48 yX4_isWithin, .static yX4_isWithin, .code yX4_isWithin cX4_isWithin 3 (some .boolean), .methodLink RX4 45 yX4_isSaleMonth, .static yX4_isSaleMonth, .code yX4_isSaleMonth cX4_isSaleMonth 1 (some .boolean)])
def wsX4_thingsCalled_r1 : List Cond := [Cond.fieldLink RX4 19 "UnderPromise" "claims" "LUnderPromise$Claims;", Cond.fieldLink RX4 26 "UnderPromise" "parts" "LUnderPromise$Parts;", Cond.fieldLink RX4 12 "UnderPromise" "things" "LUnderPromise$Things;", Cond.constantLong RX4 231 (-1), Cond.methodLink RX4 224 yX1_withAllUnder, Cond.instanceMethod yX1_withAllUnder, Cond.selects RX1 yX1_withAllUnder yX1_withAllUnder, Cond.initialized RX1, Cond.code yX1_withAllUnder cX1_withAllUnder 4 (some .int), Cond.methodLink RX1 25 yX1_standsInRowOf, Cond.instanceMethod yX1_standsInRowOf, Cond.selects RX1 yX1_standsInRowOf yX1_standsInRowOf, Cond.code yX1_standsInRowOf cX1_standsInRowOf 5 (some .boolean), Cond.fieldLink RX1 9 "UnderPromise$Parts" "above" "[I", Cond.static yX4_isPart, Cond.initialized RX4, Cond.code yX4_isPart cX4_isPart 1 (some .boolean), Cond.methodLink RX4 48 yX4_isWithin, Cond.static yX4_isWithin, Cond.code yX4_isWithin cX4_isWithin 3 (some .boolean), Cond.methodLink RX4 131 yX0_thingsLetFor, Cond.instanceMethod yX0_thingsLetFor, Cond.selects RX0 yX0_thingsLetFor yX0_thingsLetFor, Cond.initialized RX0]
def wsX4_thingsCalled_r2 : List Cond := [Cond.code yX0_thingsLetFor cX0_thingsLetFor 6 (some .long), Cond.fieldLink RX0 33 "UnderPromise$Claims" "size" "I", Cond.fieldLink RX0 15 "UnderPromise$Claims" "part" "[I", Cond.fieldLink RX0 9 "UnderPromise$Claims" "thing" "[I", Cond.methodLink RX0 41 yX0_isLetBy, Cond.instanceMethod yX0_isLetBy, Cond.selects RX0 yX0_isLetBy yX0_isLetBy, Cond.code yX0_isLetBy cX0_isLetBy 3 (some .boolean), Cond.fieldLink RX0 30 "UnderPromise$Claims" "judged" "[I", Cond.fieldLink RX0 21 "UnderPromise$Claims" "told" "[I", Cond.static yX4_hasBit, Cond.code yX4_hasBit cX4_hasBit 3 (some .boolean), Cond.methodLink RX4 227 yX2_soldOf, Cond.instanceMethod yX2_soldOf, Cond.selects RX2 yX2_soldOf yX2_soldOf, Cond.initialized RX2, Cond.code yX2_soldOf cX2_soldOf 7 (some .long), Cond.fieldLink RX2 30 "UnderPromise$Things" "size" "I", Cond.fieldLink RX2 9 "UnderPromise$Things" "batch" "[I", Cond.fieldLink RX2 15 "UnderPromise$Things" "sold" "[I"]
def wsX4_thingsCalled : List Cond := .code yX4_thingsCalled cX4_thingsCalled 7 (some .long) :: ((wsX4_thingsCalled_r1 ++ wsX4_thingsCalled_r2) ++ wsX40 ++ wsX10 ++ wsX00 ++ wsX20)
def wsX4_called_r1 : List Cond := [Cond.methodLink RX4 172 yX4_canBeCalled, Cond.static yX4_canBeCalled, Cond.initialized RX4, Cond.code yX4_canBeCalled cX4_canBeCalled 4 (some .boolean), Cond.methodLink RX4 81 yX4_isPart, Cond.static yX4_isPart, Cond.code yX4_isPart cX4_isPart 1 (some .boolean), Cond.methodLink RX4 48 yX4_isWithin, Cond.static yX4_isWithin, Cond.code yX4_isWithin cX4_isWithin 3 (some .boolean), Cond.methodLink RX4 45 yX4_isSaleMonth, Cond.static yX4_isSaleMonth, Cond.code yX4_isSaleMonth cX4_isSaleMonth 1 (some .boolean), Cond.methodLink RX4 176 yX4_thingsCalled, Cond.instanceMethod yX4_thingsCalled, Cond.selects RX4 yX4_thingsCalled yX4_thingsCalled, Cond.code yX4_thingsCalled cX4_thingsCalled 7 (some .long), Cond.fieldLink RX4 19 "UnderPromise" "claims" "LUnderPromise$Claims;", Cond.fieldLink RX4 26 "UnderPromise" "parts" "LUnderPromise$Parts;", Cond.fieldLink RX4 12 "UnderPromise" "things" "LUnderPromise$Things;", Cond.constantLong RX4 231 (-1), Cond.methodLink RX4 224 yX1_withAllUnder, Cond.instanceMethod yX1_withAllUnder, Cond.selects RX1 yX1_withAllUnder yX1_withAllUnder]
def wsX4_called_r2 : List Cond := [Cond.initialized RX1, Cond.code yX1_withAllUnder cX1_withAllUnder 4 (some .int), Cond.methodLink RX1 25 yX1_standsInRowOf, Cond.instanceMethod yX1_standsInRowOf, Cond.selects RX1 yX1_standsInRowOf yX1_standsInRowOf, Cond.code yX1_standsInRowOf cX1_standsInRowOf 5 (some .boolean), Cond.fieldLink RX1 9 "UnderPromise$Parts" "above" "[I", Cond.methodLink RX4 131 yX0_thingsLetFor, Cond.instanceMethod yX0_thingsLetFor, Cond.selects RX0 yX0_thingsLetFor yX0_thingsLetFor, Cond.initialized RX0, Cond.code yX0_thingsLetFor cX0_thingsLetFor 6 (some .long), Cond.fieldLink RX0 33 "UnderPromise$Claims" "size" "I", Cond.fieldLink RX0 15 "UnderPromise$Claims" "part" "[I", Cond.fieldLink RX0 9 "UnderPromise$Claims" "thing" "[I", Cond.methodLink RX0 41 yX0_isLetBy, Cond.instanceMethod yX0_isLetBy, Cond.selects RX0 yX0_isLetBy yX0_isLetBy, Cond.code yX0_isLetBy cX0_isLetBy 3 (some .boolean), Cond.fieldLink RX0 30 "UnderPromise$Claims" "judged" "[I", Cond.fieldLink RX0 21 "UnderPromise$Claims" "told" "[I", Cond.static yX4_hasBit, Cond.code yX4_hasBit cX4_hasBit 3 (some .boolean), Cond.methodLink RX4 227 yX2_soldOf]
def wsX4_called_r3 : List Cond := [Cond.instanceMethod yX2_soldOf, Cond.selects RX2 yX2_soldOf yX2_soldOf, Cond.initialized RX2, Cond.code yX2_soldOf cX2_soldOf 7 (some .long), Cond.fieldLink RX2 30 "UnderPromise$Things" "size" "I", Cond.fieldLink RX2 9 "UnderPromise$Things" "batch" "[I", Cond.fieldLink RX2 15 "UnderPromise$Things" "sold" "[I", Cond.methodLink RX4 180 yJ13_bitCount_95d88, Cond.static yJ13_bitCount_95d88, Cond.initialized RJ13, Cond.code yJ13_bitCount_95d88 cJ13_bitCount_95d88 2 (some .int), Cond.constantLong RJ13 314 (6148914691236517205), Cond.constantLong RJ13 316 (3689348814741910323), Cond.constantLong RJ13 318 (1085102592571150095)]
def wsX4_called : List Cond := .code yX4_called cX4_called 5 (some .int) :: ((wsX4_called_r1 ++ (wsX4_called_r2 ++ wsX4_called_r3)) ++ wsX40 ++ wsX10 ++ wsX00 ++ wsX20)
def wsX4_calledAt_r1 : List Cond := [Cond.methodLink RX4 172 yX4_canBeCalled, Cond.static yX4_canBeCalled, Cond.initialized RX4, Cond.code yX4_canBeCalled cX4_canBeCalled 4 (some .boolean), Cond.methodLink RX4 81 yX4_isPart, Cond.static yX4_isPart, Cond.code yX4_isPart cX4_isPart 1 (some .boolean), Cond.methodLink RX4 48 yX4_isWithin, Cond.static yX4_isWithin, Cond.code yX4_isWithin cX4_isWithin 3 (some .boolean), Cond.methodLink RX4 45 yX4_isSaleMonth, Cond.static yX4_isSaleMonth, Cond.code yX4_isSaleMonth cX4_isSaleMonth 1 (some .boolean), Cond.methodLink RX4 176 yX4_thingsCalled, Cond.instanceMethod yX4_thingsCalled, Cond.selects RX4 yX4_thingsCalled yX4_thingsCalled, Cond.code yX4_thingsCalled cX4_thingsCalled 7 (some .long), Cond.fieldLink RX4 19 "UnderPromise" "claims" "LUnderPromise$Claims;", Cond.fieldLink RX4 26 "UnderPromise" "parts" "LUnderPromise$Parts;", Cond.fieldLink RX4 12 "UnderPromise" "things" "LUnderPromise$Things;", Cond.constantLong RX4 231 (-1), Cond.methodLink RX4 224 yX1_withAllUnder, Cond.instanceMethod yX1_withAllUnder, Cond.selects RX1 yX1_withAllUnder yX1_withAllUnder]
def wsX4_calledAt_r2 : List Cond := [Cond.initialized RX1, Cond.code yX1_withAllUnder cX1_withAllUnder 4 (some .int), Cond.methodLink RX1 25 yX1_standsInRowOf, Cond.instanceMethod yX1_standsInRowOf, Cond.selects RX1 yX1_standsInRowOf yX1_standsInRowOf, Cond.code yX1_standsInRowOf cX1_standsInRowOf 5 (some .boolean), Cond.fieldLink RX1 9 "UnderPromise$Parts" "above" "[I", Cond.methodLink RX4 131 yX0_thingsLetFor, Cond.instanceMethod yX0_thingsLetFor, Cond.selects RX0 yX0_thingsLetFor yX0_thingsLetFor, Cond.initialized RX0, Cond.code yX0_thingsLetFor cX0_thingsLetFor 6 (some .long), Cond.fieldLink RX0 33 "UnderPromise$Claims" "size" "I", Cond.fieldLink RX0 15 "UnderPromise$Claims" "part" "[I", Cond.fieldLink RX0 9 "UnderPromise$Claims" "thing" "[I", Cond.methodLink RX0 41 yX0_isLetBy, Cond.instanceMethod yX0_isLetBy, Cond.selects RX0 yX0_isLetBy yX0_isLetBy, Cond.code yX0_isLetBy cX0_isLetBy 3 (some .boolean), Cond.fieldLink RX0 30 "UnderPromise$Claims" "judged" "[I", Cond.fieldLink RX0 21 "UnderPromise$Claims" "told" "[I", Cond.static yX4_hasBit, Cond.code yX4_hasBit cX4_hasBit 3 (some .boolean), Cond.methodLink RX4 227 yX2_soldOf]
def wsX4_calledAt_r3 : List Cond := [Cond.instanceMethod yX2_soldOf, Cond.selects RX2 yX2_soldOf yX2_soldOf, Cond.initialized RX2, Cond.code yX2_soldOf cX2_soldOf 7 (some .long), Cond.fieldLink RX2 30 "UnderPromise$Things" "size" "I", Cond.fieldLink RX2 9 "UnderPromise$Things" "batch" "[I", Cond.fieldLink RX2 15 "UnderPromise$Things" "sold" "[I", Cond.methodLink RX4 186 yX4_hasBit]
def wsX4_calledAt : List Cond := .code yX4_calledAt cX4_calledAt 10 (some .int) :: ((wsX4_calledAt_r1 ++ (wsX4_calledAt_r2 ++ wsX4_calledAt_r3)) ++ wsX40 ++ wsX10 ++ wsX00 ++ wsX20)
def wsX4_count_r1 : List Cond := [Cond.fieldLink RX4 12 "UnderPromise" "things" "LUnderPromise$Things;", Cond.fieldLink RX4 19 "UnderPromise" "claims" "LUnderPromise$Claims;", Cond.methodLink RX4 48 yX4_isWithin, Cond.static yX4_isWithin, Cond.initialized RX4, Cond.code yX4_isWithin cX4_isWithin 3 (some .boolean), Cond.methodLink RX4 131 yX0_thingsLetFor, Cond.instanceMethod yX0_thingsLetFor, Cond.selects RX0 yX0_thingsLetFor yX0_thingsLetFor, Cond.initialized RX0, Cond.code yX0_thingsLetFor cX0_thingsLetFor 6 (some .long), Cond.fieldLink RX0 33 "UnderPromise$Claims" "size" "I", Cond.fieldLink RX0 15 "UnderPromise$Claims" "part" "[I", Cond.fieldLink RX0 9 "UnderPromise$Claims" "thing" "[I", Cond.methodLink RX0 41 yX0_isLetBy, Cond.instanceMethod yX0_isLetBy, Cond.selects RX0 yX0_isLetBy yX0_isLetBy, Cond.code yX0_isLetBy cX0_isLetBy 3 (some .boolean), Cond.fieldLink RX0 30 "UnderPromise$Claims" "judged" "[I", Cond.fieldLink RX0 21 "UnderPromise$Claims" "told" "[I", Cond.static yX4_hasBit, Cond.code yX4_hasBit cX4_hasBit 3 (some .boolean), Cond.methodLink RX4 180 yJ13_bitCount_95d88, Cond.static yJ13_bitCount_95d88]
def wsX4_count_r2 : List Cond := [Cond.initialized RJ13, Cond.code yJ13_bitCount_95d88 cJ13_bitCount_95d88 2 (some .int), Cond.constantLong RJ13 314 (6148914691236517205), Cond.constantLong RJ13 316 (3689348814741910323), Cond.constantLong RJ13 318 (1085102592571150095), Cond.methodLink RX4 168 yX0_letCost, Cond.instanceMethod yX0_letCost, Cond.selects RX0 yX0_letCost yX0_letCost, Cond.code yX0_letCost cX0_letCost 3 (some .int), Cond.fieldLink RX0 24 "UnderPromise$Claims" "cost" "[I", Cond.methodLink RX4 191 yX0_judgedAs, Cond.instanceMethod yX0_judgedAs, Cond.selects RX0 yX0_judgedAs yX0_judgedAs, Cond.code yX0_judgedAs cX0_judgedAs 4 (some .int)]
def wsX4_count : List Cond := .code yX4_count cX4_count 2 (some .int) :: ((wsX4_count_r1 ++ wsX4_count_r2) ++ wsX40 ++ wsX20 ++ wsX00)
def wsX4_digest_r1 : List Cond := [Cond.constantLong RX4 194 (199), Cond.constantLong RX4 196 (31), Cond.fieldLink RX4 12 "UnderPromise" "things" "LUnderPromise$Things;", Cond.fieldLink RX4 19 "UnderPromise" "claims" "LUnderPromise$Claims;", Cond.fieldLink RX4 26 "UnderPromise" "parts" "LUnderPromise$Parts;", Cond.methodLink RX4 198 yX4_count, Cond.instanceMethod yX4_count, Cond.selects RX4 yX4_count yX4_count, Cond.initialized RX4, Cond.code yX4_count cX4_count 2 (some .int), Cond.methodLink RX4 48 yX4_isWithin, Cond.static yX4_isWithin, Cond.code yX4_isWithin cX4_isWithin 3 (some .boolean), Cond.methodLink RX4 131 yX0_thingsLetFor, Cond.instanceMethod yX0_thingsLetFor, Cond.selects RX0 yX0_thingsLetFor yX0_thingsLetFor, Cond.initialized RX0, Cond.code yX0_thingsLetFor cX0_thingsLetFor 6 (some .long), Cond.fieldLink RX0 33 "UnderPromise$Claims" "size" "I", Cond.fieldLink RX0 15 "UnderPromise$Claims" "part" "[I", Cond.fieldLink RX0 9 "UnderPromise$Claims" "thing" "[I", Cond.methodLink RX0 41 yX0_isLetBy, Cond.instanceMethod yX0_isLetBy, Cond.selects RX0 yX0_isLetBy yX0_isLetBy]
def wsX4_digest_r2 : List Cond := [Cond.code yX0_isLetBy cX0_isLetBy 3 (some .boolean), Cond.fieldLink RX0 30 "UnderPromise$Claims" "judged" "[I", Cond.fieldLink RX0 21 "UnderPromise$Claims" "told" "[I", Cond.static yX4_hasBit, Cond.code yX4_hasBit cX4_hasBit 3 (some .boolean), Cond.methodLink RX4 180 yJ13_bitCount_95d88, Cond.static yJ13_bitCount_95d88, Cond.initialized RJ13, Cond.code yJ13_bitCount_95d88 cJ13_bitCount_95d88 2 (some .int), Cond.constantLong RJ13 314 (6148914691236517205), Cond.constantLong RJ13 316 (3689348814741910323), Cond.constantLong RJ13 318 (1085102592571150095), Cond.methodLink RX4 168 yX0_letCost, Cond.instanceMethod yX0_letCost, Cond.selects RX0 yX0_letCost yX0_letCost, Cond.code yX0_letCost cX0_letCost 3 (some .int), Cond.fieldLink RX0 24 "UnderPromise$Claims" "cost" "[I", Cond.methodLink RX4 191 yX0_judgedAs, Cond.instanceMethod yX0_judgedAs, Cond.selects RX0 yX0_judgedAs yX0_judgedAs, Cond.code yX0_judgedAs cX0_judgedAs 4 (some .int), Cond.methodLink RX4 201 yX2_digestOnto, Cond.instanceMethod yX2_digestOnto, Cond.selects RX2 yX2_digestOnto yX2_digestOnto]
def wsX4_digest_r3 : List Cond := [Cond.initialized RX2, Cond.code yX2_digestOnto cX2_digestOnto 6 (some .long), Cond.fieldLink RX2 30 "UnderPromise$Things" "size" "I", Cond.constantLong RX2 53 (31), Cond.fieldLink RX2 9 "UnderPromise$Things" "batch" "[I", Cond.fieldLink RX2 15 "UnderPromise$Things" "sold" "[I", Cond.fieldLink RX2 18 "UnderPromise$Things" "miles" "[I", Cond.fieldLink RX2 21 "UnderPromise$Things" "land" "[I", Cond.methodLink RX2 55 yX2_lastCovered, Cond.instanceMethod yX2_lastCovered, Cond.selects RX2 yX2_lastCovered yX2_lastCovered, Cond.code yX2_lastCovered cX2_lastCovered 5 (some .int), Cond.fieldLink RX2 24 "UnderPromise$Things" "landMonths" "[I", Cond.fieldLink RX2 27 "UnderPromise$Things" "landMiles" "[I", Cond.methodLink RX2 35 Lib.Math.min.name, Cond.static Lib.Math.min.name, Cond.initialized "java/lang/Math", Cond.code Lib.Math.min.name Lib.Math.min.code 2 (some .int), Cond.methodLink RX4 204 yX0_digestOnto, Cond.instanceMethod yX0_digestOnto, Cond.selects RX0 yX0_digestOnto yX0_digestOnto, Cond.code yX0_digestOnto cX0_digestOnto 7 (some .long), Cond.constantLong RX0 49 (31), Cond.methodLink RX0 51 yX0_tell]
def wsX4_digest_r4 : List Cond := [Cond.instanceMethod yX0_tell, Cond.selects RX0 yX0_tell yX0_tell, Cond.code yX0_tell cX0_tell 3 (some .int), Cond.fieldLink RX0 18 "UnderPromise$Claims" "failed" "[I", Cond.methodLink RX0 37 yX0_delay, Cond.instanceMethod yX0_delay, Cond.selects RX0 yX0_delay yX0_delay, Cond.code yX0_delay cX0_delay 2 (some .int), Cond.methodLink RX4 205 yX1_digestOnto, Cond.instanceMethod yX1_digestOnto, Cond.selects RX1 yX1_digestOnto yX1_digestOnto, Cond.initialized RX1, Cond.code yX1_digestOnto cX1_digestOnto 6 (some .long), Cond.constantLong RX1 29 (31), Cond.fieldLink RX1 9 "UnderPromise$Parts" "above" "[I", Cond.fieldLink RX1 15 "UnderPromise$Parts" "maker" "[I", Cond.fieldLink RX1 18 "UnderPromise$Parts" "share" "[I"]
def wsX4_digest : List Cond := .code yX4_digest cX4_digest 4 (some .long) :: ((wsX4_digest_r1 ++ (wsX4_digest_r2 ++ (wsX4_digest_r3 ++ wsX4_digest_r4))) ++ wsX40 ++ wsX20 ++ wsX00 ++ wsX10)
def wsX5_init : List Cond := .code yX5_init cX5_init 3 none :: ([.methodLink RX5 1 objectInit, .instanceMethod objectInit, .code objectInit ⟨#[0xb1]⟩ 1 none, .arrayClass .int, .fieldLink RX5 7 "UnderPromiseModel" "months" "[I", .fieldLink RX5 13 "UnderPromiseModel" "miles" "[I", .fieldLink RX5 16 "UnderPromiseModel" "batchOf" "[I", .fieldLink RX5 19 "UnderPromiseModel" "soldIn" "[I", .fieldLink RX5 22 "UnderPromiseModel" "runs" "[I", .fieldLink RX5 25 "UnderPromiseModel" "landOf" "[I", .fieldLink RX5 28 "UnderPromiseModel" "ago" "I", .fieldLink RX5 32 "UnderPromiseModel" "ofThing" "[I", .fieldLink RX5 35 "UnderPromiseModel" "ofPart" "[I", .fieldLink RX5 38 "UnderPromiseModel" "failed" "[I", .fieldLink RX5 41 "UnderPromiseModel" "toldIn" "[I", .fieldLink RX5 44 "UnderPromiseModel" "costs" "[I", .fieldLink RX5 47 "UnderPromiseModel" "judged" "[I", .arrayClass .long, .fieldLink RX5 50 "UnderPromiseModel" "ways" "[J", .fieldLink RX5 54 "UnderPromiseModel" "above" "[I", .fieldLink RX5 57 "UnderPromiseModel" "maker" "[I", .fieldLink RX5 60 "UnderPromiseModel" "share" "[I", .constant RX5 63 (60000)] ++ wsX50)
def wsX5_in : List Cond := .code yX5_in cX5_in 6 (some .boolean) :: ([])
def wsX5_isMonth : List Cond := .code yX5_isMonth cX5_isMonth 1 (some .boolean) :: ([.constantLong RX5 64 (300), .methodLink RX5 66 yX5_in, .static yX5_in, .initialized RX5, .code yX5_in cX5_in 6 (some .boolean)])
def wsX5_noThing : List Cond := .code yX5_noThing cX5_noThing 2 (some .boolean) :: ([.fieldLink RX5 70 "UnderPromiseModel" "things" "I", .methodLink RX5 66 yX5_in, .static yX5_in, .initialized RX5, .code yX5_in cX5_in 6 (some .boolean)] ++ wsX50)
def wsX5_thing : List Cond := .code yX5_thing cX5_thing 5 (some .int) :: ([.constantLong RX5 73 (7), .constantLong RX5 75 (119), .constantLong RX5 77 (5000), .constantLong RX5 79 (3), .fieldLink RX5 70 "UnderPromiseModel" "things" "I", .fieldLink RX5 16 "UnderPromiseModel" "batchOf" "[I", .fieldLink RX5 19 "UnderPromiseModel" "soldIn" "[I", .fieldLink RX5 22 "UnderPromiseModel" "runs" "[I", .fieldLink RX5 25 "UnderPromiseModel" "landOf" "[I", .methodLink RX5 66 yX5_in, .static yX5_in, .initialized RX5, .code yX5_in cX5_in 6 (some .boolean)] ++ wsX50)
def wsX5_promise : List Cond := .code yX5_promise cX5_promise 4 (some .int) :: ([.constantLong RX5 79 (3), .constantLong RX5 81 (120), .constantLong RX5 83 (600000), .fieldLink RX5 7 "UnderPromiseModel" "months" "[I", .fieldLink RX5 13 "UnderPromiseModel" "miles" "[I", .methodLink RX5 66 yX5_in, .static yX5_in, .initialized RX5, .code yX5_in cX5_in 6 (some .boolean)] ++ wsX50)
def wsX5_again : List Cond := .code yX5_again cX5_again 3 (some .int) :: ([.constantLong RX5 85 (12), .fieldLink RX5 28 "UnderPromiseModel" "ago" "I", .methodLink RX5 66 yX5_in, .static yX5_in, .initialized RX5, .code yX5_in cX5_in 6 (some .boolean)] ++ wsX50)
def wsX5_isPromised : List Cond := .code yX5_isPromised cX5_isPromised 4 (some .boolean) :: ([.fieldLink RX5 19 "UnderPromiseModel" "soldIn" "[I", .fieldLink RX5 7 "UnderPromiseModel" "months" "[I", .fieldLink RX5 25 "UnderPromiseModel" "landOf" "[I", .fieldLink RX5 22 "UnderPromiseModel" "runs" "[I", .fieldLink RX5 13 "UnderPromiseModel" "miles" "[I"] ++ wsX50)
def wsX5_promised : List Cond := .code yX5_promised cX5_promised 3 (some .int) :: ([.methodLink RX5 87 yX5_noThing, .instanceMethod yX5_noThing, .selects RX5 yX5_noThing yX5_noThing, .initialized RX5, .code yX5_noThing cX5_noThing 2 (some .boolean), .fieldLink RX5 70 "UnderPromiseModel" "things" "I", .methodLink RX5 66 yX5_in, .static yX5_in, .code yX5_in cX5_in 6 (some .boolean), .methodLink RX5 91 yX5_isMonth, .static yX5_isMonth, .code yX5_isMonth cX5_isMonth 1 (some .boolean), .constantLong RX5 64 (300), .methodLink RX5 94 yX5_isPromised, .instanceMethod yX5_isPromised, .selects RX5 yX5_isPromised yX5_isPromised, .code yX5_isPromised cX5_isPromised 4 (some .boolean), .fieldLink RX5 19 "UnderPromiseModel" "soldIn" "[I", .fieldLink RX5 7 "UnderPromiseModel" "months" "[I", .fieldLink RX5 25 "UnderPromiseModel" "landOf" "[I", .fieldLink RX5 22 "UnderPromiseModel" "runs" "[I", .fieldLink RX5 13 "UnderPromiseModel" "miles" "[I"] ++ wsX50)
def wsX5_lastOf : List Cond := .code yX5_lastOf cX5_lastOf 4 (some .int) :: ([.fieldLink RX5 19 "UnderPromiseModel" "soldIn" "[I", .methodLink RX5 94 yX5_isPromised, .instanceMethod yX5_isPromised, .selects RX5 yX5_isPromised yX5_isPromised, .initialized RX5, .code yX5_isPromised cX5_isPromised 4 (some .boolean), .fieldLink RX5 7 "UnderPromiseModel" "months" "[I", .fieldLink RX5 25 "UnderPromiseModel" "landOf" "[I", .fieldLink RX5 22 "UnderPromiseModel" "runs" "[I", .fieldLink RX5 13 "UnderPromiseModel" "miles" "[I"] ++ wsX50)
def wsX5_last : List Cond := .code yX5_last cX5_last 2 (some .int) :: ([.methodLink RX5 87 yX5_noThing, .instanceMethod yX5_noThing, .selects RX5 yX5_noThing yX5_noThing, .initialized RX5, .code yX5_noThing cX5_noThing 2 (some .boolean), .fieldLink RX5 70 "UnderPromiseModel" "things" "I", .methodLink RX5 66 yX5_in, .static yX5_in, .code yX5_in cX5_in 6 (some .boolean), .methodLink RX5 98 yX5_lastOf, .instanceMethod yX5_lastOf, .selects RX5 yX5_lastOf yX5_lastOf, .code yX5_lastOf cX5_lastOf 4 (some .int), .fieldLink RX5 19 "UnderPromiseModel" "soldIn" "[I", .methodLink RX5 94 yX5_isPromised, .instanceMethod yX5_isPromised, .selects RX5 yX5_isPromised yX5_isPromised, .code yX5_isPromised cX5_isPromised 4 (some .boolean), .fieldLink RX5 7 "UnderPromiseModel" "months" "[I", .fieldLink RX5 25 "UnderPromiseModel" "landOf" "[I", .fieldLink RX5 22 "UnderPromiseModel" "runs" "[I", .fieldLink RX5 13 "UnderPromiseModel" "miles" "[I"] ++ wsX50)
def wsX5_wasLet : List Cond := .code yX5_wasLet cX5_wasLet 7 (some .boolean) :: ([.fieldLink RX5 102 "UnderPromiseModel" "claims" "I", .fieldLink RX5 47 "UnderPromiseModel" "judged" "[I", .fieldLink RX5 32 "UnderPromiseModel" "ofThing" "[I", .fieldLink RX5 35 "UnderPromiseModel" "ofPart" "[I", .fieldLink RX5 38 "UnderPromiseModel" "failed" "[I", .methodLink RX5 66 yX5_in, .static yX5_in, .initialized RX5, .code yX5_in cX5_in 6 (some .boolean)] ++ wsX50)
def wsX5_judge : List Cond := .code yX5_judge cX5_judge 4 (some .int) :: ([.fieldLink RX5 19 "UnderPromiseModel" "soldIn" "[I", .fieldLink RX5 28 "UnderPromiseModel" "ago" "I", .methodLink RX5 105 yX5_wasLet, .instanceMethod yX5_wasLet, .selects RX5 yX5_wasLet yX5_wasLet, .initialized RX5, .code yX5_wasLet cX5_wasLet 7 (some .boolean), .fieldLink RX5 102 "UnderPromiseModel" "claims" "I", .fieldLink RX5 47 "UnderPromiseModel" "judged" "[I", .fieldLink RX5 32 "UnderPromiseModel" "ofThing" "[I", .fieldLink RX5 35 "UnderPromiseModel" "ofPart" "[I", .fieldLink RX5 38 "UnderPromiseModel" "failed" "[I", .methodLink RX5 66 yX5_in, .static yX5_in, .code yX5_in cX5_in 6 (some .boolean), .methodLink RX5 94 yX5_isPromised, .instanceMethod yX5_isPromised, .selects RX5 yX5_isPromised yX5_isPromised, .code yX5_isPromised cX5_isPromised 4 (some .boolean), .fieldLink RX5 7 "UnderPromiseModel" "months" "[I", .fieldLink RX5 25 "UnderPromiseModel" "landOf" "[I", .fieldLink RX5 22 "UnderPromiseModel" "runs" "[I", .fieldLink RX5 13 "UnderPromiseModel" "miles" "[I"] ++ wsX50)
def wsX5_claim_r1 : List Cond := [Cond.constantLong RX5 109 (9), Cond.constantLong RX5 111 (10000), Cond.fieldLink RX5 102 "UnderPromiseModel" "claims" "I", Cond.fieldLink RX5 32 "UnderPromiseModel" "ofThing" "[I", Cond.fieldLink RX5 35 "UnderPromiseModel" "ofPart" "[I", Cond.fieldLink RX5 38 "UnderPromiseModel" "failed" "[I", Cond.fieldLink RX5 41 "UnderPromiseModel" "toldIn" "[I", Cond.fieldLink RX5 44 "UnderPromiseModel" "costs" "[I", Cond.fieldLink RX5 47 "UnderPromiseModel" "judged" "[I", Cond.methodLink RX5 87 yX5_noThing, Cond.instanceMethod yX5_noThing, Cond.selects RX5 yX5_noThing yX5_noThing, Cond.initialized RX5, Cond.code yX5_noThing cX5_noThing 2 (some .boolean), Cond.fieldLink RX5 70 "UnderPromiseModel" "things" "I", Cond.methodLink RX5 66 yX5_in, Cond.static yX5_in, Cond.code yX5_in cX5_in 6 (some .boolean), Cond.methodLink RX5 91 yX5_isMonth, Cond.static yX5_isMonth, Cond.code yX5_isMonth cX5_isMonth 1 (some .boolean), Cond.constantLong RX5 64 (300), Cond.methodLink RX5 113 yX5_judge, Cond.instanceMethod yX5_judge]
def wsX5_claim_r2 : List Cond := [Cond.selects RX5 yX5_judge yX5_judge, Cond.code yX5_judge cX5_judge 4 (some .int), Cond.fieldLink RX5 19 "UnderPromiseModel" "soldIn" "[I", Cond.fieldLink RX5 28 "UnderPromiseModel" "ago" "I", Cond.methodLink RX5 105 yX5_wasLet, Cond.instanceMethod yX5_wasLet, Cond.selects RX5 yX5_wasLet yX5_wasLet, Cond.code yX5_wasLet cX5_wasLet 7 (some .boolean), Cond.methodLink RX5 94 yX5_isPromised, Cond.instanceMethod yX5_isPromised, Cond.selects RX5 yX5_isPromised yX5_isPromised, Cond.code yX5_isPromised cX5_isPromised 4 (some .boolean), Cond.fieldLink RX5 7 "UnderPromiseModel" "months" "[I", Cond.fieldLink RX5 25 "UnderPromiseModel" "landOf" "[I", Cond.fieldLink RX5 22 "UnderPromiseModel" "runs" "[I", Cond.fieldLink RX5 13 "UnderPromiseModel" "miles" "[I"]
def wsX5_claim : List Cond := .code yX5_claim cX5_claim 7 (some .int) :: ((wsX5_claim_r1 ++ wsX5_claim_r2) ++ wsX50)
def wsX5_aboutOf : List Cond := .code yX5_aboutOf cX5_aboutOf 3 (some .int) :: ([.fieldLink RX5 32 "UnderPromiseModel" "ofThing" "[I", .fieldLink RX5 35 "UnderPromiseModel" "ofPart" "[I", .fieldLink RX5 38 "UnderPromiseModel" "failed" "[I", .fieldLink RX5 41 "UnderPromiseModel" "toldIn" "[I", .fieldLink RX5 44 "UnderPromiseModel" "costs" "[I", .fieldLink RX5 47 "UnderPromiseModel" "judged" "[I"] ++ wsX50)
def wsX5_about : List Cond := .code yX5_about cX5_about 3 (some .int) :: ([.constantLong RX5 117 (6), .fieldLink RX5 102 "UnderPromiseModel" "claims" "I", .methodLink RX5 66 yX5_in, .static yX5_in, .initialized RX5, .code yX5_in cX5_in 6 (some .boolean), .methodLink RX5 119 yX5_aboutOf, .instanceMethod yX5_aboutOf, .selects RX5 yX5_aboutOf yX5_aboutOf, .code yX5_aboutOf cX5_aboutOf 3 (some .int), .fieldLink RX5 32 "UnderPromiseModel" "ofThing" "[I", .fieldLink RX5 35 "UnderPromiseModel" "ofPart" "[I", .fieldLink RX5 38 "UnderPromiseModel" "failed" "[I", .fieldLink RX5 41 "UnderPromiseModel" "toldIn" "[I", .fieldLink RX5 44 "UnderPromiseModel" "costs" "[I", .fieldLink RX5 47 "UnderPromiseModel" "judged" "[I"] ++ wsX50)
def wsX5_counts : List Cond := .code yX5_counts cX5_counts 3 (some .boolean) :: ([.fieldLink RX5 47 "UnderPromiseModel" "judged" "[I", .fieldLink RX5 41 "UnderPromiseModel" "toldIn" "[I"] ++ wsX50)
def wsX5_table : List Cond := .code yX5_table cX5_table 6 (some .int) :: ([.constantLong RX5 75 (119), .fieldLink RX5 102 "UnderPromiseModel" "claims" "I", .fieldLink RX5 19 "UnderPromiseModel" "soldIn" "[I", .fieldLink RX5 32 "UnderPromiseModel" "ofThing" "[I", .fieldLink RX5 38 "UnderPromiseModel" "failed" "[I", .methodLink RX5 66 yX5_in, .static yX5_in, .initialized RX5, .code yX5_in cX5_in 6 (some .boolean), .methodLink RX5 91 yX5_isMonth, .static yX5_isMonth, .code yX5_isMonth cX5_isMonth 1 (some .boolean), .constantLong RX5 64 (300), .methodLink RX5 123 yX5_counts, .instanceMethod yX5_counts, .selects RX5 yX5_counts yX5_counts, .code yX5_counts cX5_counts 3 (some .boolean), .fieldLink RX5 47 "UnderPromiseModel" "judged" "[I", .fieldLink RX5 41 "UnderPromiseModel" "toldIn" "[I"] ++ wsX50)
def wsX5_exposedAt : List Cond := .code yX5_exposedAt cX5_exposedAt 5 (some .int) :: ([.fieldLink RX5 70 "UnderPromiseModel" "things" "I", .fieldLink RX5 19 "UnderPromiseModel" "soldIn" "[I", .methodLink RX5 94 yX5_isPromised, .instanceMethod yX5_isPromised, .selects RX5 yX5_isPromised yX5_isPromised, .initialized RX5, .code yX5_isPromised cX5_isPromised 4 (some .boolean), .fieldLink RX5 7 "UnderPromiseModel" "months" "[I", .fieldLink RX5 25 "UnderPromiseModel" "landOf" "[I", .fieldLink RX5 22 "UnderPromiseModel" "runs" "[I", .fieldLink RX5 13 "UnderPromiseModel" "miles" "[I"] ++ wsX50)
def wsX5_exposed : List Cond := .code yX5_exposed cX5_exposed 3 (some .int) :: ([.methodLink RX5 91 yX5_isMonth, .static yX5_isMonth, .initialized RX5, .code yX5_isMonth cX5_isMonth 1 (some .boolean), .constantLong RX5 64 (300), .methodLink RX5 66 yX5_in, .static yX5_in, .code yX5_in cX5_in 6 (some .boolean), .methodLink RX5 126 yX5_exposedAt, .instanceMethod yX5_exposedAt, .selects RX5 yX5_exposedAt yX5_exposedAt, .code yX5_exposedAt cX5_exposedAt 5 (some .int), .fieldLink RX5 70 "UnderPromiseModel" "things" "I", .fieldLink RX5 19 "UnderPromiseModel" "soldIn" "[I", .methodLink RX5 94 yX5_isPromised, .instanceMethod yX5_isPromised, .selects RX5 yX5_isPromised yX5_isPromised, .code yX5_isPromised cX5_isPromised 4 (some .boolean), .fieldLink RX5 7 "UnderPromiseModel" "months" "[I", .fieldLink RX5 25 "UnderPromiseModel" "landOf" "[I", .fieldLink RX5 22 "UnderPromiseModel" "runs" "[I", .fieldLink RX5 13 "UnderPromiseModel" "miles" "[I"] ++ wsX50)
def wsX5_gcd : List Cond := .code yX5_gcd cX5_gcd 10 (some .long) :: ([])
def wsX5_rate_r1 : List Cond := [Cond.fieldLink RX5 102 "UnderPromiseModel" "claims" "I", Cond.fieldLink RX5 38 "UnderPromiseModel" "failed" "[I", Cond.fieldLink RX5 19 "UnderPromiseModel" "soldIn" "[I", Cond.fieldLink RX5 32 "UnderPromiseModel" "ofThing" "[I", Cond.methodLink RX5 91 yX5_isMonth, Cond.static yX5_isMonth, Cond.initialized RX5, Cond.code yX5_isMonth cX5_isMonth 1 (some .boolean), Cond.constantLong RX5 64 (300), Cond.methodLink RX5 66 yX5_in, Cond.static yX5_in, Cond.code yX5_in cX5_in 6 (some .boolean), Cond.methodLink RX5 126 yX5_exposedAt, Cond.instanceMethod yX5_exposedAt, Cond.selects RX5 yX5_exposedAt yX5_exposedAt, Cond.code yX5_exposedAt cX5_exposedAt 5 (some .int), Cond.fieldLink RX5 70 "UnderPromiseModel" "things" "I", Cond.methodLink RX5 94 yX5_isPromised, Cond.instanceMethod yX5_isPromised, Cond.selects RX5 yX5_isPromised yX5_isPromised, Cond.code yX5_isPromised cX5_isPromised 4 (some .boolean), Cond.fieldLink RX5 7 "UnderPromiseModel" "months" "[I", Cond.fieldLink RX5 25 "UnderPromiseModel" "landOf" "[I", Cond.fieldLink RX5 22 "UnderPromiseModel" "runs" "[I"]
def wsX5_rate_r2 : List Cond := [Cond.fieldLink RX5 13 "UnderPromiseModel" "miles" "[I", Cond.methodLink RX5 123 yX5_counts, Cond.instanceMethod yX5_counts, Cond.selects RX5 yX5_counts yX5_counts, Cond.code yX5_counts cX5_counts 3 (some .boolean), Cond.fieldLink RX5 47 "UnderPromiseModel" "judged" "[I", Cond.fieldLink RX5 41 "UnderPromiseModel" "toldIn" "[I", Cond.methodLink RX5 129 yX5_gcd, Cond.static yX5_gcd, Cond.code yX5_gcd cX5_gcd 10 (some .long)]
def wsX5_rate : List Cond := .code yX5_rate cX5_rate 7 (some .int) :: ((wsX5_rate_r1 ++ wsX5_rate_r2) ++ wsX50)
def wsX5_delaysOf : List Cond := .code yX5_delaysOf cX5_delaysOf 5 (some .int) :: ([.fieldLink RX5 102 "UnderPromiseModel" "claims" "I", .fieldLink RX5 41 "UnderPromiseModel" "toldIn" "[I", .fieldLink RX5 38 "UnderPromiseModel" "failed" "[I", .methodLink RX5 123 yX5_counts, .instanceMethod yX5_counts, .selects RX5 yX5_counts yX5_counts, .initialized RX5, .code yX5_counts cX5_counts 3 (some .boolean), .fieldLink RX5 47 "UnderPromiseModel" "judged" "[I"] ++ wsX50)
def wsX5_delays : List Cond := .code yX5_delays cX5_delays 3 (some .int) :: ([.constantLong RX5 133 (11), .methodLink RX5 91 yX5_isMonth, .static yX5_isMonth, .initialized RX5, .code yX5_isMonth cX5_isMonth 1 (some .boolean), .constantLong RX5 64 (300), .methodLink RX5 66 yX5_in, .static yX5_in, .code yX5_in cX5_in 6 (some .boolean), .methodLink RX5 135 yX5_delaysOf, .instanceMethod yX5_delaysOf, .selects RX5 yX5_delaysOf yX5_delaysOf, .code yX5_delaysOf cX5_delaysOf 5 (some .int), .fieldLink RX5 102 "UnderPromiseModel" "claims" "I", .fieldLink RX5 41 "UnderPromiseModel" "toldIn" "[I", .fieldLink RX5 38 "UnderPromiseModel" "failed" "[I", .methodLink RX5 123 yX5_counts, .instanceMethod yX5_counts, .selects RX5 yX5_counts yX5_counts, .code yX5_counts cX5_counts 3 (some .boolean), .fieldLink RX5 47 "UnderPromiseModel" "judged" "[I"] ++ wsX50)
def wsX5_undone : List Cond := .code yX5_undone cX5_undone 7 (some .int) :: ([.fieldLink RX5 102 "UnderPromiseModel" "claims" "I", .fieldLink RX5 38 "UnderPromiseModel" "failed" "[I", .methodLink RX5 91 yX5_isMonth, .static yX5_isMonth, .initialized RX5, .code yX5_isMonth cX5_isMonth 1 (some .boolean), .constantLong RX5 64 (300), .methodLink RX5 66 yX5_in, .static yX5_in, .code yX5_in cX5_in 6 (some .boolean), .methodLink RX5 123 yX5_counts, .instanceMethod yX5_counts, .selects RX5 yX5_counts yX5_counts, .code yX5_counts cX5_counts 3 (some .boolean), .fieldLink RX5 47 "UnderPromiseModel" "judged" "[I", .fieldLink RX5 41 "UnderPromiseModel" "toldIn" "[I", .methodLink RX5 135 yX5_delaysOf, .instanceMethod yX5_delaysOf, .selects RX5 yX5_delaysOf yX5_delaysOf, .code yX5_delaysOf cX5_delaysOf 5 (some .int)] ++ wsX50)
def wsX5_hasClaim : List Cond := .code yX5_hasClaim cX5_hasClaim 6 (some .boolean) :: ([.fieldLink RX5 102 "UnderPromiseModel" "claims" "I", .fieldLink RX5 32 "UnderPromiseModel" "ofThing" "[I", .fieldLink RX5 35 "UnderPromiseModel" "ofPart" "[I", .methodLink RX5 123 yX5_counts, .instanceMethod yX5_counts, .selects RX5 yX5_counts yX5_counts, .initialized RX5, .code yX5_counts cX5_counts 3 (some .boolean), .fieldLink RX5 47 "UnderPromiseModel" "judged" "[I", .fieldLink RX5 41 "UnderPromiseModel" "toldIn" "[I"] ++ wsX50)
def wsX5_choose : List Cond := .code yX5_choose cX5_choose 3 (some .long) :: ([.fieldLink RX5 50 "UnderPromiseModel" "ways" "[J", .methodLink RX5 66 yX5_in, .static yX5_in, .initialized RX5, .code yX5_in cX5_in 6 (some .boolean)] ++ wsX50)
def wsX5_findChance_r1 : List Cond := [Cond.fieldLink RX5 70 "UnderPromiseModel" "things" "I", Cond.fieldLink RX5 16 "UnderPromiseModel" "batchOf" "[I", Cond.fieldLink RX5 142 "UnderPromiseModel" "upper" "J", Cond.fieldLink RX5 150 "UnderPromiseModel" "lower" "J", Cond.methodLink RX5 138 yX5_hasClaim, Cond.instanceMethod yX5_hasClaim, Cond.selects RX5 yX5_hasClaim yX5_hasClaim, Cond.initialized RX5, Cond.code yX5_hasClaim cX5_hasClaim 6 (some .boolean), Cond.fieldLink RX5 102 "UnderPromiseModel" "claims" "I", Cond.fieldLink RX5 32 "UnderPromiseModel" "ofThing" "[I", Cond.fieldLink RX5 35 "UnderPromiseModel" "ofPart" "[I", Cond.methodLink RX5 123 yX5_counts, Cond.instanceMethod yX5_counts, Cond.selects RX5 yX5_counts yX5_counts, Cond.code yX5_counts cX5_counts 3 (some .boolean), Cond.fieldLink RX5 47 "UnderPromiseModel" "judged" "[I", Cond.fieldLink RX5 41 "UnderPromiseModel" "toldIn" "[I", Cond.methodLink RX5 146 yX5_choose, Cond.instanceMethod yX5_choose, Cond.selects RX5 yX5_choose yX5_choose, Cond.code yX5_choose cX5_choose 3 (some .long), Cond.fieldLink RX5 50 "UnderPromiseModel" "ways" "[J", Cond.methodLink RX5 66 yX5_in]
def wsX5_findChance_r2 : List Cond := [Cond.static yX5_in, Cond.code yX5_in cX5_in 6 (some .boolean), Cond.methodLink RX5 129 yX5_gcd, Cond.static yX5_gcd, Cond.code yX5_gcd cX5_gcd 10 (some .long)]
def wsX5_findChance : List Cond := .code yX5_findChance cX5_findChance 10 (some .boolean) :: ((wsX5_findChance_r1 ++ wsX5_findChance_r2) ++ wsX50)
def wsX5_chance_r1 : List Cond := [Cond.constantLong RX5 73 (7), Cond.constantLong RX5 109 (9), Cond.constantLong RX5 153 (-2), Cond.constantLong RX5 158 (-3), Cond.fieldLink RX5 142 "UnderPromiseModel" "upper" "J", Cond.fieldLink RX5 150 "UnderPromiseModel" "lower" "J", Cond.methodLink RX5 66 yX5_in, Cond.static yX5_in, Cond.initialized RX5, Cond.code yX5_in cX5_in 6 (some .boolean), Cond.methodLink RX5 91 yX5_isMonth, Cond.static yX5_isMonth, Cond.code yX5_isMonth cX5_isMonth 1 (some .boolean), Cond.constantLong RX5 64 (300), Cond.methodLink RX5 155 yX5_findChance, Cond.instanceMethod yX5_findChance, Cond.selects RX5 yX5_findChance yX5_findChance, Cond.code yX5_findChance cX5_findChance 10 (some .boolean), Cond.fieldLink RX5 70 "UnderPromiseModel" "things" "I", Cond.fieldLink RX5 16 "UnderPromiseModel" "batchOf" "[I", Cond.methodLink RX5 138 yX5_hasClaim, Cond.instanceMethod yX5_hasClaim, Cond.selects RX5 yX5_hasClaim yX5_hasClaim, Cond.code yX5_hasClaim cX5_hasClaim 6 (some .boolean)]
def wsX5_chance_r2 : List Cond := [Cond.fieldLink RX5 102 "UnderPromiseModel" "claims" "I", Cond.fieldLink RX5 32 "UnderPromiseModel" "ofThing" "[I", Cond.fieldLink RX5 35 "UnderPromiseModel" "ofPart" "[I", Cond.methodLink RX5 123 yX5_counts, Cond.instanceMethod yX5_counts, Cond.selects RX5 yX5_counts yX5_counts, Cond.code yX5_counts cX5_counts 3 (some .boolean), Cond.fieldLink RX5 47 "UnderPromiseModel" "judged" "[I", Cond.fieldLink RX5 41 "UnderPromiseModel" "toldIn" "[I", Cond.methodLink RX5 146 yX5_choose, Cond.instanceMethod yX5_choose, Cond.selects RX5 yX5_choose yX5_choose, Cond.code yX5_choose cX5_choose 3 (some .long), Cond.fieldLink RX5 50 "UnderPromiseModel" "ways" "[J", Cond.methodLink RX5 129 yX5_gcd, Cond.static yX5_gcd, Cond.code yX5_gcd cX5_gcd 10 (some .long)]
def wsX5_chance : List Cond := .code yX5_chance cX5_chance 6 (some .long) :: ((wsX5_chance_r1 ++ wsX5_chance_r2) ++ wsX50)
def wsX5_isLess : List Cond := .code yX5_isLess cX5_isLess 22 (some .boolean) :: ([])
def wsX5_oddest_r1 : List Cond := [Cond.constantLong RX5 109 (9), Cond.fieldLink RX5 142 "UnderPromiseModel" "upper" "J", Cond.fieldLink RX5 150 "UnderPromiseModel" "lower" "J", Cond.methodLink RX5 66 yX5_in, Cond.static yX5_in, Cond.initialized RX5, Cond.code yX5_in cX5_in 6 (some .boolean), Cond.methodLink RX5 91 yX5_isMonth, Cond.static yX5_isMonth, Cond.code yX5_isMonth cX5_isMonth 1 (some .boolean), Cond.constantLong RX5 64 (300), Cond.methodLink RX5 155 yX5_findChance, Cond.instanceMethod yX5_findChance, Cond.selects RX5 yX5_findChance yX5_findChance, Cond.code yX5_findChance cX5_findChance 10 (some .boolean), Cond.fieldLink RX5 70 "UnderPromiseModel" "things" "I", Cond.fieldLink RX5 16 "UnderPromiseModel" "batchOf" "[I", Cond.methodLink RX5 138 yX5_hasClaim, Cond.instanceMethod yX5_hasClaim, Cond.selects RX5 yX5_hasClaim yX5_hasClaim, Cond.code yX5_hasClaim cX5_hasClaim 6 (some .boolean), Cond.fieldLink RX5 102 "UnderPromiseModel" "claims" "I", Cond.fieldLink RX5 32 "UnderPromiseModel" "ofThing" "[I", Cond.fieldLink RX5 35 "UnderPromiseModel" "ofPart" "[I"]
def wsX5_oddest_r2 : List Cond := [Cond.methodLink RX5 123 yX5_counts, Cond.instanceMethod yX5_counts, Cond.selects RX5 yX5_counts yX5_counts, Cond.code yX5_counts cX5_counts 3 (some .boolean), Cond.fieldLink RX5 47 "UnderPromiseModel" "judged" "[I", Cond.fieldLink RX5 41 "UnderPromiseModel" "toldIn" "[I", Cond.methodLink RX5 146 yX5_choose, Cond.instanceMethod yX5_choose, Cond.selects RX5 yX5_choose yX5_choose, Cond.code yX5_choose cX5_choose 3 (some .long), Cond.fieldLink RX5 50 "UnderPromiseModel" "ways" "[J", Cond.methodLink RX5 129 yX5_gcd, Cond.static yX5_gcd, Cond.code yX5_gcd cX5_gcd 10 (some .long), Cond.methodLink RX5 160 yX5_isLess, Cond.static yX5_isLess, Cond.code yX5_isLess cX5_isLess 22 (some .boolean)]
def wsX5_oddest : List Cond := .code yX5_oddest cX5_oddest 9 (some .int) :: ((wsX5_oddest_r1 ++ wsX5_oddest_r2) ++ wsX50)
def wsX5_isUnder : List Cond := .code yX5_isUnder cX5_isUnder 4 (some .boolean) :: ([.fieldLink RX5 54 "UnderPromiseModel" "above" "[I"] ++ wsX50)
def wsX5_under : List Cond := .code yX5_under cX5_under 3 (some .int) :: ([.constantLong RX5 109 (9), .constantLong RX5 164 (-1), .fieldLink RX5 54 "UnderPromiseModel" "above" "[I", .methodLink RX5 66 yX5_in, .static yX5_in, .initialized RX5, .code yX5_in cX5_in 6 (some .boolean), .methodLink RX5 166 yX5_isUnder, .instanceMethod yX5_isUnder, .selects RX5 yX5_isUnder yX5_isUnder, .code yX5_isUnder cX5_isUnder 4 (some .boolean)] ++ wsX50)
def wsX5_maker : List Cond := .code yX5_maker cX5_maker 4 (some .int) :: ([.constantLong RX5 109 (9), .constantLong RX5 164 (-1), .constantLong RX5 169 (5), .constantLong RX5 171 (100), .fieldLink RX5 57 "UnderPromiseModel" "maker" "[I", .fieldLink RX5 60 "UnderPromiseModel" "share" "[I", .methodLink RX5 66 yX5_in, .static yX5_in, .initialized RX5, .code yX5_in cX5_in 6 (some .boolean)] ++ wsX50)
def wsX5_payingPart : List Cond := .code yX5_payingPart cX5_payingPart 3 (some .int) :: ([.fieldLink RX5 57 "UnderPromiseModel" "maker" "[I", .fieldLink RX5 54 "UnderPromiseModel" "above" "[I"] ++ wsX50)
def wsX5_payer : List Cond := .code yX5_payer cX5_payer 3 (some .int) :: ([.constantLong RX5 109 (9), .fieldLink RX5 57 "UnderPromiseModel" "maker" "[I", .methodLink RX5 66 yX5_in, .static yX5_in, .initialized RX5, .code yX5_in cX5_in 6 (some .boolean), .methodLink RX5 173 yX5_payingPart, .instanceMethod yX5_payingPart, .selects RX5 yX5_payingPart yX5_payingPart, .code yX5_payingPart cX5_payingPart 3 (some .int), .fieldLink RX5 54 "UnderPromiseModel" "above" "[I"] ++ wsX50)
def wsX5_paidFor : List Cond := .code yX5_paidFor cX5_paidFor 5 (some .int) :: ([.fieldLink RX5 35 "UnderPromiseModel" "ofPart" "[I", .fieldLink RX5 47 "UnderPromiseModel" "judged" "[I", .fieldLink RX5 57 "UnderPromiseModel" "maker" "[I", .fieldLink RX5 44 "UnderPromiseModel" "costs" "[I", .fieldLink RX5 60 "UnderPromiseModel" "share" "[I", .methodLink RX5 173 yX5_payingPart, .instanceMethod yX5_payingPart, .selects RX5 yX5_payingPart yX5_payingPart, .initialized RX5, .code yX5_payingPart cX5_payingPart 3 (some .int), .fieldLink RX5 54 "UnderPromiseModel" "above" "[I"] ++ wsX50)
def wsX5_pays : List Cond := .code yX5_pays cX5_pays 4 (some .int) :: ([.constantLong RX5 169 (5), .fieldLink RX5 102 "UnderPromiseModel" "claims" "I", .methodLink RX5 66 yX5_in, .static yX5_in, .initialized RX5, .code yX5_in cX5_in 6 (some .boolean), .methodLink RX5 176 yX5_paidFor, .instanceMethod yX5_paidFor, .selects RX5 yX5_paidFor yX5_paidFor, .code yX5_paidFor cX5_paidFor 5 (some .int), .fieldLink RX5 35 "UnderPromiseModel" "ofPart" "[I", .fieldLink RX5 47 "UnderPromiseModel" "judged" "[I", .fieldLink RX5 57 "UnderPromiseModel" "maker" "[I", .fieldLink RX5 44 "UnderPromiseModel" "costs" "[I", .fieldLink RX5 60 "UnderPromiseModel" "share" "[I", .methodLink RX5 173 yX5_payingPart, .instanceMethod yX5_payingPart, .selects RX5 yX5_payingPart yX5_payingPart, .code yX5_payingPart cX5_payingPart 3 (some .int), .fieldLink RX5 54 "UnderPromiseModel" "above" "[I"] ++ wsX50)
def wsX5_letCosts : List Cond := .code yX5_letCosts cX5_letCosts 3 (some .int) :: ([.fieldLink RX5 102 "UnderPromiseModel" "claims" "I", .fieldLink RX5 47 "UnderPromiseModel" "judged" "[I", .fieldLink RX5 44 "UnderPromiseModel" "costs" "[I"] ++ wsX50)
def wsX5_left : List Cond := .code yX5_left cX5_left 3 (some .int) :: ([.fieldLink RX5 102 "UnderPromiseModel" "claims" "I", .methodLink RX5 179 yX5_letCosts, .instanceMethod yX5_letCosts, .selects RX5 yX5_letCosts yX5_letCosts, .initialized RX5, .code yX5_letCosts cX5_letCosts 3 (some .int), .fieldLink RX5 47 "UnderPromiseModel" "judged" "[I", .fieldLink RX5 44 "UnderPromiseModel" "costs" "[I", .methodLink RX5 176 yX5_paidFor, .instanceMethod yX5_paidFor, .selects RX5 yX5_paidFor yX5_paidFor, .code yX5_paidFor cX5_paidFor 5 (some .int), .fieldLink RX5 35 "UnderPromiseModel" "ofPart" "[I", .fieldLink RX5 57 "UnderPromiseModel" "maker" "[I", .fieldLink RX5 60 "UnderPromiseModel" "share" "[I", .methodLink RX5 173 yX5_payingPart, .instanceMethod yX5_payingPart, .selects RX5 yX5_payingPart yX5_payingPart, .code yX5_payingPart cX5_payingPart 3 (some .int), .fieldLink RX5 54 "UnderPromiseModel" "above" "[I"] ++ wsX50)
def wsX5_isCalled : List Cond := .code yX5_isCalled cX5_isCalled 8 (some .boolean) :: ([.fieldLink RX5 16 "UnderPromiseModel" "batchOf" "[I", .fieldLink RX5 19 "UnderPromiseModel" "soldIn" "[I", .fieldLink RX5 102 "UnderPromiseModel" "claims" "I", .fieldLink RX5 47 "UnderPromiseModel" "judged" "[I", .fieldLink RX5 32 "UnderPromiseModel" "ofThing" "[I", .fieldLink RX5 35 "UnderPromiseModel" "ofPart" "[I", .methodLink RX5 66 yX5_in, .static yX5_in, .initialized RX5, .code yX5_in cX5_in 6 (some .boolean), .methodLink RX5 166 yX5_isUnder, .instanceMethod yX5_isUnder, .selects RX5 yX5_isUnder yX5_isUnder, .code yX5_isUnder cX5_isUnder 4 (some .boolean), .fieldLink RX5 54 "UnderPromiseModel" "above" "[I"] ++ wsX50)
def wsX5_isCall : List Cond := .code yX5_isCall cX5_isCall 4 (some .boolean) :: ([.constantLong RX5 109 (9), .constantLong RX5 183 (255), .constantLong RX5 75 (119), .methodLink RX5 66 yX5_in, .static yX5_in, .initialized RX5, .code yX5_in cX5_in 6 (some .boolean)])
def wsX5_called_r1 : List Cond := [Cond.fieldLink RX5 70 "UnderPromiseModel" "things" "I", Cond.methodLink RX5 185 yX5_isCall, Cond.static yX5_isCall, Cond.initialized RX5, Cond.code yX5_isCall cX5_isCall 4 (some .boolean), Cond.constantLong RX5 109 (9), Cond.constantLong RX5 183 (255), Cond.constantLong RX5 75 (119), Cond.methodLink RX5 66 yX5_in, Cond.static yX5_in, Cond.code yX5_in cX5_in 6 (some .boolean), Cond.methodLink RX5 188 yX5_isCalled, Cond.instanceMethod yX5_isCalled, Cond.selects RX5 yX5_isCalled yX5_isCalled, Cond.code yX5_isCalled cX5_isCalled 8 (some .boolean), Cond.fieldLink RX5 16 "UnderPromiseModel" "batchOf" "[I", Cond.fieldLink RX5 19 "UnderPromiseModel" "soldIn" "[I", Cond.fieldLink RX5 102 "UnderPromiseModel" "claims" "I", Cond.fieldLink RX5 47 "UnderPromiseModel" "judged" "[I", Cond.fieldLink RX5 32 "UnderPromiseModel" "ofThing" "[I", Cond.fieldLink RX5 35 "UnderPromiseModel" "ofPart" "[I", Cond.methodLink RX5 166 yX5_isUnder, Cond.instanceMethod yX5_isUnder, Cond.selects RX5 yX5_isUnder yX5_isUnder]
def wsX5_called_r2 : List Cond := [Cond.code yX5_isUnder cX5_isUnder 4 (some .boolean), Cond.fieldLink RX5 54 "UnderPromiseModel" "above" "[I"]
def wsX5_called : List Cond := .code yX5_called cX5_called 7 (some .int) :: ((wsX5_called_r1 ++ wsX5_called_r2) ++ wsX50)
def wsX5_calledAt_r1 : List Cond := [Cond.fieldLink RX5 70 "UnderPromiseModel" "things" "I", Cond.methodLink RX5 185 yX5_isCall, Cond.static yX5_isCall, Cond.initialized RX5, Cond.code yX5_isCall cX5_isCall 4 (some .boolean), Cond.constantLong RX5 109 (9), Cond.constantLong RX5 183 (255), Cond.constantLong RX5 75 (119), Cond.methodLink RX5 66 yX5_in, Cond.static yX5_in, Cond.code yX5_in cX5_in 6 (some .boolean), Cond.methodLink RX5 188 yX5_isCalled, Cond.instanceMethod yX5_isCalled, Cond.selects RX5 yX5_isCalled yX5_isCalled, Cond.code yX5_isCalled cX5_isCalled 8 (some .boolean), Cond.fieldLink RX5 16 "UnderPromiseModel" "batchOf" "[I", Cond.fieldLink RX5 19 "UnderPromiseModel" "soldIn" "[I", Cond.fieldLink RX5 102 "UnderPromiseModel" "claims" "I", Cond.fieldLink RX5 47 "UnderPromiseModel" "judged" "[I", Cond.fieldLink RX5 32 "UnderPromiseModel" "ofThing" "[I", Cond.fieldLink RX5 35 "UnderPromiseModel" "ofPart" "[I", Cond.methodLink RX5 166 yX5_isUnder, Cond.instanceMethod yX5_isUnder, Cond.selects RX5 yX5_isUnder yX5_isUnder]
def wsX5_calledAt_r2 : List Cond := [Cond.code yX5_isUnder cX5_isUnder 4 (some .boolean), Cond.fieldLink RX5 54 "UnderPromiseModel" "above" "[I"]
def wsX5_calledAt : List Cond := .code yX5_calledAt cX5_calledAt 9 (some .int) :: ((wsX5_calledAt_r1 ++ wsX5_calledAt_r2) ++ wsX50)
def wsX5_judgedAs : List Cond := .code yX5_judgedAs cX5_judgedAs 4 (some .int) :: ([.fieldLink RX5 102 "UnderPromiseModel" "claims" "I", .fieldLink RX5 47 "UnderPromiseModel" "judged" "[I"] ++ wsX50)
def wsX5_thingsWithClaims : List Cond := .code yX5_thingsWithClaims cX5_thingsWithClaims 5 (some .int) :: ([.fieldLink RX5 70 "UnderPromiseModel" "things" "I", .fieldLink RX5 102 "UnderPromiseModel" "claims" "I", .fieldLink RX5 47 "UnderPromiseModel" "judged" "[I", .fieldLink RX5 32 "UnderPromiseModel" "ofThing" "[I"] ++ wsX50)
def wsX5_count : List Cond := .code yX5_count cX5_count 2 (some .int) :: ([.fieldLink RX5 70 "UnderPromiseModel" "things" "I", .fieldLink RX5 102 "UnderPromiseModel" "claims" "I", .methodLink RX5 192 yX5_judgedAs, .instanceMethod yX5_judgedAs, .selects RX5 yX5_judgedAs yX5_judgedAs, .initialized RX5, .code yX5_judgedAs cX5_judgedAs 4 (some .int), .fieldLink RX5 47 "UnderPromiseModel" "judged" "[I", .methodLink RX5 195 yX5_thingsWithClaims, .instanceMethod yX5_thingsWithClaims, .selects RX5 yX5_thingsWithClaims yX5_thingsWithClaims, .code yX5_thingsWithClaims cX5_thingsWithClaims 5 (some .int), .fieldLink RX5 32 "UnderPromiseModel" "ofThing" "[I", .methodLink RX5 179 yX5_letCosts, .instanceMethod yX5_letCosts, .selects RX5 yX5_letCosts yX5_letCosts, .code yX5_letCosts cX5_letCosts 3 (some .int), .fieldLink RX5 44 "UnderPromiseModel" "costs" "[I"] ++ wsX50)
def wsX5_digest_r1 : List Cond := [Cond.constantLong RX5 198 (199), Cond.constantLong RX5 200 (31), Cond.fieldLink RX5 70 "UnderPromiseModel" "things" "I", Cond.fieldLink RX5 16 "UnderPromiseModel" "batchOf" "[I", Cond.fieldLink RX5 19 "UnderPromiseModel" "soldIn" "[I", Cond.fieldLink RX5 22 "UnderPromiseModel" "runs" "[I", Cond.fieldLink RX5 25 "UnderPromiseModel" "landOf" "[I", Cond.fieldLink RX5 102 "UnderPromiseModel" "claims" "I", Cond.fieldLink RX5 54 "UnderPromiseModel" "above" "[I", Cond.fieldLink RX5 57 "UnderPromiseModel" "maker" "[I", Cond.fieldLink RX5 60 "UnderPromiseModel" "share" "[I", Cond.methodLink RX5 202 yX5_count, Cond.instanceMethod yX5_count, Cond.selects RX5 yX5_count yX5_count, Cond.initialized RX5, Cond.code yX5_count cX5_count 2 (some .int), Cond.methodLink RX5 192 yX5_judgedAs, Cond.instanceMethod yX5_judgedAs, Cond.selects RX5 yX5_judgedAs yX5_judgedAs, Cond.code yX5_judgedAs cX5_judgedAs 4 (some .int), Cond.fieldLink RX5 47 "UnderPromiseModel" "judged" "[I", Cond.methodLink RX5 195 yX5_thingsWithClaims, Cond.instanceMethod yX5_thingsWithClaims, Cond.selects RX5 yX5_thingsWithClaims yX5_thingsWithClaims]
def wsX5_digest_r2 : List Cond := [Cond.code yX5_thingsWithClaims cX5_thingsWithClaims 5 (some .int), Cond.fieldLink RX5 32 "UnderPromiseModel" "ofThing" "[I", Cond.methodLink RX5 179 yX5_letCosts, Cond.instanceMethod yX5_letCosts, Cond.selects RX5 yX5_letCosts yX5_letCosts, Cond.code yX5_letCosts cX5_letCosts 3 (some .int), Cond.fieldLink RX5 44 "UnderPromiseModel" "costs" "[I", Cond.methodLink RX5 98 yX5_lastOf, Cond.instanceMethod yX5_lastOf, Cond.selects RX5 yX5_lastOf yX5_lastOf, Cond.code yX5_lastOf cX5_lastOf 4 (some .int), Cond.methodLink RX5 94 yX5_isPromised, Cond.instanceMethod yX5_isPromised, Cond.selects RX5 yX5_isPromised yX5_isPromised, Cond.code yX5_isPromised cX5_isPromised 4 (some .boolean), Cond.fieldLink RX5 7 "UnderPromiseModel" "months" "[I", Cond.fieldLink RX5 13 "UnderPromiseModel" "miles" "[I", Cond.methodLink RX5 119 yX5_aboutOf, Cond.instanceMethod yX5_aboutOf, Cond.selects RX5 yX5_aboutOf yX5_aboutOf, Cond.code yX5_aboutOf cX5_aboutOf 3 (some .int), Cond.fieldLink RX5 35 "UnderPromiseModel" "ofPart" "[I", Cond.fieldLink RX5 38 "UnderPromiseModel" "failed" "[I", Cond.fieldLink RX5 41 "UnderPromiseModel" "toldIn" "[I"]
def wsX5_digest : List Cond := .code yX5_digest cX5_digest 5 (some .long) :: ((wsX5_digest_r1 ++ wsX5_digest_r2) ++ wsX50)
def wsJ9_min_7cf53 : List Cond := .code yJ9_min_7cf53 cJ9_min_7cf53 2 (some .int) :: ([])
abbrev vwCl : List vw_C := [(RX0, TX0, 8), (RX1, TX1, 3), (RX2, TX2, 7), (RX3, TX3, 1), (RX4, TX4, 5), (RX5, TX5, 21)]
end
section
theorem dX0_init_0 : decode cX0_init 0 = .ok (.aload_n 0, 1) := by decide +kernel
theorem dX0_init_1 : decode cX0_init 1 = .ok (.invokespecial 3, 3) := by decide +kernel
theorem dX0_init_4 : decode cX0_init 4 = .ok (.aload_n 0, 1) := by decide +kernel
theorem dX0_init_5 : decode cX0_init 5 = .ok (.bipush 100, 2) := by decide +kernel
theorem dX0_init_7 : decode cX0_init 7 = .ok (.newarray .int, 2) := by decide +kernel
theorem dX0_init_9 : decode cX0_init 9 = .ok (.putfield 9, 3) := by decide +kernel
theorem dX0_init_12 : decode cX0_init 12 = .ok (.aload_n 0, 1) := by decide +kernel
theorem dX0_init_13 : decode cX0_init 13 = .ok (.bipush 100, 2) := by decide +kernel
theorem dX0_init_15 : decode cX0_init 15 = .ok (.newarray .int, 2) := by decide +kernel
theorem dX0_init_17 : decode cX0_init 17 = .ok (.putfield 15, 3) := by decide +kernel
theorem dX0_init_20 : decode cX0_init 20 = .ok (.aload_n 0, 1) := by decide +kernel
theorem dX0_init_21 : decode cX0_init 21 = .ok (.bipush 100, 2) := by decide +kernel
theorem dX0_init_23 : decode cX0_init 23 = .ok (.newarray .int, 2) := by decide +kernel
theorem dX0_init_25 : decode cX0_init 25 = .ok (.putfield 18, 3) := by decide +kernel
theorem dX0_init_28 : decode cX0_init 28 = .ok (.aload_n 0, 1) := by decide +kernel
theorem dX0_init_29 : decode cX0_init 29 = .ok (.bipush 100, 2) := by decide +kernel
theorem dX0_init_31 : decode cX0_init 31 = .ok (.newarray .int, 2) := by decide +kernel
theorem dX0_init_33 : decode cX0_init 33 = .ok (.putfield 21, 3) := by decide +kernel
theorem dX0_init_36 : decode cX0_init 36 = .ok (.aload_n 0, 1) := by decide +kernel
theorem dX0_init_37 : decode cX0_init 37 = .ok (.bipush 100, 2) := by decide +kernel
theorem dX0_init_39 : decode cX0_init 39 = .ok (.newarray .int, 2) := by decide +kernel
theorem dX0_init_41 : decode cX0_init 41 = .ok (.putfield 24, 3) := by decide +kernel
theorem dX0_init_44 : decode cX0_init 44 = .ok (.aload_n 0, 1) := by decide +kernel
theorem dX0_init_45 : decode cX0_init 45 = .ok (.bipush 100, 2) := by decide +kernel
theorem dX0_init_47 : decode cX0_init 47 = .ok (.newarray .int, 2) := by decide +kernel
theorem dX0_init_49 : decode cX0_init 49 = .ok (.putfield 27, 3) := by decide +kernel
theorem dX0_init_52 : decode cX0_init 52 = .ok (.aload_n 0, 1) := by decide +kernel
theorem dX0_init_53 : decode cX0_init 53 = .ok (.bipush 100, 2) := by decide +kernel
theorem dX0_init_55 : decode cX0_init 55 = .ok (.newarray .int, 2) := by decide +kernel
theorem dX0_init_57 : decode cX0_init 57 = .ok (.putfield 30, 3) := by decide +kernel
theorem dX0_init_60 : decode cX0_init 60 = .ok (.aload_n 0, 1) := by decide +kernel
theorem dX0_init_61 : decode cX0_init 61 = .ok (.iconst 0, 1) := by decide +kernel
theorem dX0_init_62 : decode cX0_init 62 = .ok (.putfield 33, 3) := by decide +kernel
theorem dX0_init_65 : decode cX0_init 65 = .ok (.return_, 1) := by decide +kernel
theorem dX0_add_0 : decode cX0_add 0 = .ok (.aload_n 0, 1) := by decide +kernel
theorem dX0_add_1 : decode cX0_add 1 = .ok (.getfield 33, 3) := by decide +kernel
theorem dX0_add_4 : decode cX0_add 4 = .ok (.bipush 100, 2) := by decide +kernel
theorem dX0_add_6 : decode cX0_add 6 = .ok (.if_icmp .lt 6, 3) := by decide +kernel
theorem dX0_add_9 : decode cX0_add 9 = .ok (.bipush (-4), 2) := by decide +kernel
theorem dX0_add_11 : decode cX0_add 11 = .ok (.ireturn, 1) := by decide +kernel
theorem dX0_add_12 : decode cX0_add 12 = .ok (.aload_n 0, 1) := by decide +kernel
theorem dX0_add_13 : decode cX0_add 13 = .ok (.getfield 9, 3) := by decide +kernel
theorem dX0_add_16 : decode cX0_add 16 = .ok (.aload_n 0, 1) := by decide +kernel
theorem dX0_add_17 : decode cX0_add 17 = .ok (.getfield 33, 3) := by decide +kernel
theorem dX0_add_20 : decode cX0_add 20 = .ok (.iload_n 1, 1) := by decide +kernel
theorem dX0_add_21 : decode cX0_add 21 = .ok (.iastore, 1) := by decide +kernel
theorem dX0_add_22 : decode cX0_add 22 = .ok (.aload_n 0, 1) := by decide +kernel
theorem dX0_add_23 : decode cX0_add 23 = .ok (.getfield 15, 3) := by decide +kernel
theorem dX0_add_26 : decode cX0_add 26 = .ok (.aload_n 0, 1) := by decide +kernel
theorem dX0_add_27 : decode cX0_add 27 = .ok (.getfield 33, 3) := by decide +kernel
theorem dX0_add_30 : decode cX0_add 30 = .ok (.iload_n 2, 1) := by decide +kernel
theorem dX0_add_31 : decode cX0_add 31 = .ok (.iastore, 1) := by decide +kernel
theorem dX0_add_32 : decode cX0_add 32 = .ok (.aload_n 0, 1) := by decide +kernel
theorem dX0_add_33 : decode cX0_add 33 = .ok (.getfield 18, 3) := by decide +kernel
theorem dX0_add_36 : decode cX0_add 36 = .ok (.aload_n 0, 1) := by decide +kernel
theorem dX0_add_37 : decode cX0_add 37 = .ok (.getfield 33, 3) := by decide +kernel
theorem dX0_add_40 : decode cX0_add 40 = .ok (.iload_n 3, 1) := by decide +kernel
theorem dX0_add_41 : decode cX0_add 41 = .ok (.iastore, 1) := by decide +kernel
theorem dX0_add_42 : decode cX0_add 42 = .ok (.aload_n 0, 1) := by decide +kernel
theorem dX0_add_43 : decode cX0_add 43 = .ok (.getfield 21, 3) := by decide +kernel
theorem dX0_add_46 : decode cX0_add 46 = .ok (.aload_n 0, 1) := by decide +kernel
theorem dX0_add_47 : decode cX0_add 47 = .ok (.getfield 33, 3) := by decide +kernel
theorem dX0_add_50 : decode cX0_add 50 = .ok (.iload 4, 2) := by decide +kernel
theorem dX0_add_52 : decode cX0_add 52 = .ok (.iastore, 1) := by decide +kernel
theorem dX0_add_53 : decode cX0_add 53 = .ok (.aload_n 0, 1) := by decide +kernel
theorem dX0_add_54 : decode cX0_add 54 = .ok (.getfield 24, 3) := by decide +kernel
theorem dX0_add_57 : decode cX0_add 57 = .ok (.aload_n 0, 1) := by decide +kernel
theorem dX0_add_58 : decode cX0_add 58 = .ok (.getfield 33, 3) := by decide +kernel
theorem dX0_add_61 : decode cX0_add 61 = .ok (.iload 5, 2) := by decide +kernel
theorem dX0_add_63 : decode cX0_add 63 = .ok (.iastore, 1) := by decide +kernel
theorem dX0_add_64 : decode cX0_add 64 = .ok (.aload_n 0, 1) := by decide +kernel
theorem dX0_add_65 : decode cX0_add 65 = .ok (.getfield 27, 3) := by decide +kernel
theorem dX0_add_68 : decode cX0_add 68 = .ok (.aload_n 0, 1) := by decide +kernel
theorem dX0_add_69 : decode cX0_add 69 = .ok (.getfield 33, 3) := by decide +kernel
theorem dX0_add_72 : decode cX0_add 72 = .ok (.iload 6, 2) := by decide +kernel
theorem dX0_add_74 : decode cX0_add 74 = .ok (.iastore, 1) := by decide +kernel
theorem dX0_add_75 : decode cX0_add 75 = .ok (.aload_n 0, 1) := by decide +kernel
theorem dX0_add_76 : decode cX0_add 76 = .ok (.getfield 30, 3) := by decide +kernel
theorem dX0_add_79 : decode cX0_add 79 = .ok (.aload_n 0, 1) := by decide +kernel
theorem dX0_add_80 : decode cX0_add 80 = .ok (.getfield 33, 3) := by decide +kernel
theorem dX0_add_83 : decode cX0_add 83 = .ok (.iload 7, 2) := by decide +kernel
theorem dX0_add_85 : decode cX0_add 85 = .ok (.iastore, 1) := by decide +kernel
theorem dX0_add_86 : decode cX0_add 86 = .ok (.aload_n 0, 1) := by decide +kernel
theorem dX0_add_87 : decode cX0_add 87 = .ok (.dup, 1) := by decide +kernel
theorem dX0_add_88 : decode cX0_add 88 = .ok (.getfield 33, 3) := by decide +kernel
theorem dX0_add_91 : decode cX0_add 91 = .ok (.iconst 1, 1) := by decide +kernel
theorem dX0_add_92 : decode cX0_add 92 = .ok (.iadd, 1) := by decide +kernel
theorem dX0_add_93 : decode cX0_add 93 = .ok (.putfield 33, 3) := by decide +kernel
theorem dX0_add_96 : decode cX0_add 96 = .ok (.iload 7, 2) := by decide +kernel
theorem dX0_add_98 : decode cX0_add 98 = .ok (.ireturn, 1) := by decide +kernel
set_option maxRecDepth 20000 in
theorem ggX0_tell_X0_delay : GoodIn wsX0_tell wsX0_delay := goodIn_r _ [11, 4, 3, 12, 13, 14, 15, 16, 17, 18, 19] (by decide +kernel) (by decide +kernel)
set_option maxRecDepth 20000 in
theorem gX0_tell_X0_delay : GoodIn wsX0_tell (wsV RX0 37 RX0 yX0_delay wsX0_delay) := goodIn_app (goodIn_of _ (by decide +kernel)) ggX0_tell_X0_delay
theorem dX0_tell_0 : decode cX0_tell 0 = .ok (.iload_n 2, 1) := by decide +kernel
theorem dX0_tell_1 : decode cX0_tell 1 = .ok (.tableswitch 81 0 5 #[39, 46, 53, 60, 67, 74], 39) := by decide +kernel
theorem dX0_tell_40 : decode cX0_tell 40 = .ok (.aload_n 0, 1) := by decide +kernel
theorem dX0_tell_41 : decode cX0_tell 41 = .ok (.getfield 9, 3) := by decide +kernel
theorem dX0_tell_44 : decode cX0_tell 44 = .ok (.iload_n 1, 1) := by decide +kernel
theorem dX0_tell_45 : decode cX0_tell 45 = .ok (.iaload, 1) := by decide +kernel
theorem dX0_tell_46 : decode cX0_tell 46 = .ok (.ireturn, 1) := by decide +kernel
theorem dX0_tell_47 : decode cX0_tell 47 = .ok (.aload_n 0, 1) := by decide +kernel
theorem dX0_tell_48 : decode cX0_tell 48 = .ok (.getfield 15, 3) := by decide +kernel
theorem dX0_tell_51 : decode cX0_tell 51 = .ok (.iload_n 1, 1) := by decide +kernel
theorem dX0_tell_52 : decode cX0_tell 52 = .ok (.iaload, 1) := by decide +kernel
theorem dX0_tell_53 : decode cX0_tell 53 = .ok (.ireturn, 1) := by decide +kernel
theorem dX0_tell_54 : decode cX0_tell 54 = .ok (.aload_n 0, 1) := by decide +kernel
theorem dX0_tell_55 : decode cX0_tell 55 = .ok (.getfield 18, 3) := by decide +kernel
theorem dX0_tell_58 : decode cX0_tell 58 = .ok (.iload_n 1, 1) := by decide +kernel
theorem dX0_tell_59 : decode cX0_tell 59 = .ok (.iaload, 1) := by decide +kernel
theorem dX0_tell_60 : decode cX0_tell 60 = .ok (.ireturn, 1) := by decide +kernel
theorem dX0_tell_61 : decode cX0_tell 61 = .ok (.aload_n 0, 1) := by decide +kernel
theorem dX0_tell_62 : decode cX0_tell 62 = .ok (.getfield 21, 3) := by decide +kernel
theorem dX0_tell_65 : decode cX0_tell 65 = .ok (.iload_n 1, 1) := by decide +kernel
theorem dX0_tell_66 : decode cX0_tell 66 = .ok (.iaload, 1) := by decide +kernel
theorem dX0_tell_67 : decode cX0_tell 67 = .ok (.ireturn, 1) := by decide +kernel
theorem dX0_tell_68 : decode cX0_tell 68 = .ok (.aload_n 0, 1) := by decide +kernel
theorem dX0_tell_69 : decode cX0_tell 69 = .ok (.getfield 24, 3) := by decide +kernel
theorem dX0_tell_72 : decode cX0_tell 72 = .ok (.iload_n 1, 1) := by decide +kernel
theorem dX0_tell_73 : decode cX0_tell 73 = .ok (.iaload, 1) := by decide +kernel
theorem dX0_tell_74 : decode cX0_tell 74 = .ok (.ireturn, 1) := by decide +kernel
theorem dX0_tell_75 : decode cX0_tell 75 = .ok (.aload_n 0, 1) := by decide +kernel
theorem dX0_tell_76 : decode cX0_tell 76 = .ok (.getfield 30, 3) := by decide +kernel
theorem dX0_tell_79 : decode cX0_tell 79 = .ok (.iload_n 1, 1) := by decide +kernel
theorem dX0_tell_80 : decode cX0_tell 80 = .ok (.iaload, 1) := by decide +kernel
theorem dX0_tell_81 : decode cX0_tell 81 = .ok (.ireturn, 1) := by decide +kernel
theorem dX0_tell_82 : decode cX0_tell 82 = .ok (.aload_n 0, 1) := by decide +kernel
theorem dX0_tell_83 : decode cX0_tell 83 = .ok (.iload_n 1, 1) := by decide +kernel
theorem dX0_tell_84 : decode cX0_tell 84 = .ok (.invokevirtual 37, 3) := by decide +kernel
theorem dX0_tell_87 : decode cX0_tell 87 = .ok (.ireturn, 1) := by decide +kernel
theorem dX0_delay_0 : decode cX0_delay 0 = .ok (.aload_n 0, 1) := by decide +kernel
theorem dX0_delay_1 : decode cX0_delay 1 = .ok (.getfield 21, 3) := by decide +kernel
theorem dX0_delay_4 : decode cX0_delay 4 = .ok (.iload_n 1, 1) := by decide +kernel
theorem dX0_delay_5 : decode cX0_delay 5 = .ok (.iaload, 1) := by decide +kernel
theorem dX0_delay_6 : decode cX0_delay 6 = .ok (.aload_n 0, 1) := by decide +kernel
theorem dX0_delay_7 : decode cX0_delay 7 = .ok (.getfield 18, 3) := by decide +kernel
theorem dX0_delay_10 : decode cX0_delay 10 = .ok (.iload_n 1, 1) := by decide +kernel
theorem dX0_delay_11 : decode cX0_delay 11 = .ok (.iaload, 1) := by decide +kernel
theorem dX0_delay_12 : decode cX0_delay 12 = .ok (.isub, 1) := by decide +kernel
theorem dX0_delay_13 : decode cX0_delay 13 = .ok (.ireturn, 1) := by decide +kernel
theorem dX0_isLetBy_0 : decode cX0_isLetBy 0 = .ok (.aload_n 0, 1) := by decide +kernel
theorem dX0_isLetBy_1 : decode cX0_isLetBy 1 = .ok (.getfield 30, 3) := by decide +kernel
theorem dX0_isLetBy_4 : decode cX0_isLetBy 4 = .ok (.iload_n 1, 1) := by decide +kernel
theorem dX0_isLetBy_5 : decode cX0_isLetBy 5 = .ok (.iaload, 1) := by decide +kernel
theorem dX0_isLetBy_6 : decode cX0_isLetBy 6 = .ok (.ifCond .ne 17, 3) := by decide +kernel
theorem dX0_isLetBy_9 : decode cX0_isLetBy 9 = .ok (.aload_n 0, 1) := by decide +kernel
theorem dX0_isLetBy_10 : decode cX0_isLetBy 10 = .ok (.getfield 21, 3) := by decide +kernel
theorem dX0_isLetBy_13 : decode cX0_isLetBy 13 = .ok (.iload_n 1, 1) := by decide +kernel
theorem dX0_isLetBy_14 : decode cX0_isLetBy 14 = .ok (.iaload, 1) := by decide +kernel
theorem dX0_isLetBy_15 : decode cX0_isLetBy 15 = .ok (.iload_n 2, 1) := by decide +kernel
theorem dX0_isLetBy_16 : decode cX0_isLetBy 16 = .ok (.if_icmp .gt 7, 3) := by decide +kernel
theorem dX0_isLetBy_19 : decode cX0_isLetBy 19 = .ok (.iconst 1, 1) := by decide +kernel
theorem dX0_isLetBy_20 : decode cX0_isLetBy 20 = .ok (.goto 4, 3) := by decide +kernel
theorem dX0_isLetBy_23 : decode cX0_isLetBy 23 = .ok (.iconst 0, 1) := by decide +kernel
theorem dX0_isLetBy_24 : decode cX0_isLetBy 24 = .ok (.ireturn, 1) := by decide +kernel
theorem dX0_anyLet_0 : decode cX0_anyLet 0 = .ok (.iconst 0, 1) := by decide +kernel
theorem dX0_anyLet_1 : decode cX0_anyLet 1 = .ok (.istore 5, 2) := by decide +kernel
theorem dX0_anyLet_3 : decode cX0_anyLet 3 = .ok (.iload 5, 2) := by decide +kernel
theorem dX0_anyLet_5 : decode cX0_anyLet 5 = .ok (.aload_n 0, 1) := by decide +kernel
theorem dX0_anyLet_6 : decode cX0_anyLet 6 = .ok (.getfield 33, 3) := by decide +kernel
theorem dX0_anyLet_9 : decode cX0_anyLet 9 = .ok (.if_icmp .ge 78, 3) := by decide +kernel
theorem dX0_anyLet_12 : decode cX0_anyLet 12 = .ok (.aload_n 0, 1) := by decide +kernel
theorem dX0_anyLet_13 : decode cX0_anyLet 13 = .ok (.getfield 9, 3) := by decide +kernel
theorem dX0_anyLet_16 : decode cX0_anyLet 16 = .ok (.iload 5, 2) := by decide +kernel
theorem dX0_anyLet_18 : decode cX0_anyLet 18 = .ok (.iaload, 1) := by decide +kernel
theorem dX0_anyLet_19 : decode cX0_anyLet 19 = .ok (.iload_n 1, 1) := by decide +kernel
theorem dX0_anyLet_20 : decode cX0_anyLet 20 = .ok (.if_icmp .ne 18, 3) := by decide +kernel
theorem dX0_anyLet_23 : decode cX0_anyLet 23 = .ok (.aload_n 0, 1) := by decide +kernel
theorem dX0_anyLet_24 : decode cX0_anyLet 24 = .ok (.getfield 15, 3) := by decide +kernel
theorem dX0_anyLet_27 : decode cX0_anyLet 27 = .ok (.iload 5, 2) := by decide +kernel
theorem dX0_anyLet_29 : decode cX0_anyLet 29 = .ok (.iaload, 1) := by decide +kernel
theorem dX0_anyLet_30 : decode cX0_anyLet 30 = .ok (.iload_n 2, 1) := by decide +kernel
theorem dX0_anyLet_31 : decode cX0_anyLet 31 = .ok (.if_icmp .ne 7, 3) := by decide +kernel
theorem dX0_anyLet_34 : decode cX0_anyLet 34 = .ok (.iconst 1, 1) := by decide +kernel
theorem dX0_anyLet_35 : decode cX0_anyLet 35 = .ok (.goto 4, 3) := by decide +kernel
theorem dX0_anyLet_38 : decode cX0_anyLet 38 = .ok (.iconst 0, 1) := by decide +kernel
theorem dX0_anyLet_39 : decode cX0_anyLet 39 = .ok (.istore 6, 2) := by decide +kernel
theorem dX0_anyLet_41 : decode cX0_anyLet 41 = .ok (.iload 6, 2) := by decide +kernel
theorem dX0_anyLet_43 : decode cX0_anyLet 43 = .ok (.ifCond .eq 38, 3) := by decide +kernel
theorem dX0_anyLet_46 : decode cX0_anyLet 46 = .ok (.aload_n 0, 1) := by decide +kernel
theorem dX0_anyLet_47 : decode cX0_anyLet 47 = .ok (.getfield 30, 3) := by decide +kernel
theorem dX0_anyLet_50 : decode cX0_anyLet 50 = .ok (.iload 5, 2) := by decide +kernel
theorem dX0_anyLet_52 : decode cX0_anyLet 52 = .ok (.iaload, 1) := by decide +kernel
theorem dX0_anyLet_53 : decode cX0_anyLet 53 = .ok (.ifCond .ne 28, 3) := by decide +kernel
theorem dX0_anyLet_56 : decode cX0_anyLet 56 = .ok (.aload_n 0, 1) := by decide +kernel
theorem dX0_anyLet_57 : decode cX0_anyLet 57 = .ok (.getfield 18, 3) := by decide +kernel
theorem dX0_anyLet_60 : decode cX0_anyLet 60 = .ok (.iload 5, 2) := by decide +kernel
theorem dX0_anyLet_62 : decode cX0_anyLet 62 = .ok (.iaload, 1) := by decide +kernel
theorem dX0_anyLet_63 : decode cX0_anyLet 63 = .ok (.iload_n 3, 1) := by decide +kernel
theorem dX0_anyLet_64 : decode cX0_anyLet 64 = .ok (.if_icmp .lt 17, 3) := by decide +kernel
theorem dX0_anyLet_67 : decode cX0_anyLet 67 = .ok (.aload_n 0, 1) := by decide +kernel
theorem dX0_anyLet_68 : decode cX0_anyLet 68 = .ok (.getfield 18, 3) := by decide +kernel
theorem dX0_anyLet_71 : decode cX0_anyLet 71 = .ok (.iload 5, 2) := by decide +kernel
theorem dX0_anyLet_73 : decode cX0_anyLet 73 = .ok (.iaload, 1) := by decide +kernel
theorem dX0_anyLet_74 : decode cX0_anyLet 74 = .ok (.iload 4, 2) := by decide +kernel
theorem dX0_anyLet_76 : decode cX0_anyLet 76 = .ok (.if_icmp .gt 5, 3) := by decide +kernel
theorem dX0_anyLet_79 : decode cX0_anyLet 79 = .ok (.iconst 1, 1) := by decide +kernel
theorem dX0_anyLet_80 : decode cX0_anyLet 80 = .ok (.ireturn, 1) := by decide +kernel
theorem dX0_anyLet_81 : decode cX0_anyLet 81 = .ok (.iinc 5 1, 3) := by decide +kernel
theorem dX0_anyLet_84 : decode cX0_anyLet 84 = .ok (.goto (-81), 3) := by decide +kernel
theorem dX0_anyLet_87 : decode cX0_anyLet 87 = .ok (.iconst 0, 1) := by decide +kernel
theorem dX0_anyLet_88 : decode cX0_anyLet 88 = .ok (.ireturn, 1) := by decide +kernel
set_option maxRecDepth 20000 in
theorem ggX0_letAtAge_X0_isLetBy : GoodIn wsX0_letAtAge wsX0_isLetBy := goodIn_r _ [7, 8, 9, 10, 11, 12, 13, 14, 15, 16, 17] (by decide +kernel) (by decide +kernel)
set_option maxRecDepth 20000 in
theorem gX0_letAtAge_X0_isLetBy : GoodIn wsX0_letAtAge (wsV RX0 41 RX0 yX0_isLetBy wsX0_isLetBy) := goodIn_app (goodIn_of _ (by decide +kernel)) ggX0_letAtAge_X0_isLetBy
theorem dX0_letAtAge_0 : decode cX0_letAtAge 0 = .ok (.iconst 0, 1) := by decide +kernel
theorem dX0_letAtAge_1 : decode cX0_letAtAge 1 = .ok (.istore_n 3, 1) := by decide +kernel
theorem dX0_letAtAge_2 : decode cX0_letAtAge 2 = .ok (.iconst 0, 1) := by decide +kernel
theorem dX0_letAtAge_3 : decode cX0_letAtAge 3 = .ok (.istore 4, 2) := by decide +kernel
theorem dX0_letAtAge_5 : decode cX0_letAtAge 5 = .ok (.iload 4, 2) := by decide +kernel
theorem dX0_letAtAge_7 : decode cX0_letAtAge 7 = .ok (.aload_n 0, 1) := by decide +kernel
theorem dX0_letAtAge_8 : decode cX0_letAtAge 8 = .ok (.getfield 33, 3) := by decide +kernel
theorem dX0_letAtAge_11 : decode cX0_letAtAge 11 = .ok (.if_icmp .ge 33, 3) := by decide +kernel
theorem dX0_letAtAge_14 : decode cX0_letAtAge 14 = .ok (.aload_n 0, 1) := by decide +kernel
theorem dX0_letAtAge_15 : decode cX0_letAtAge 15 = .ok (.iload 4, 2) := by decide +kernel
theorem dX0_letAtAge_17 : decode cX0_letAtAge 17 = .ok (.iload_n 2, 1) := by decide +kernel
theorem dX0_letAtAge_18 : decode cX0_letAtAge 18 = .ok (.invokevirtual 41, 3) := by decide +kernel
theorem dX0_letAtAge_21 : decode cX0_letAtAge 21 = .ok (.ifCond .eq 17, 3) := by decide +kernel
theorem dX0_letAtAge_24 : decode cX0_letAtAge 24 = .ok (.aload_n 0, 1) := by decide +kernel
theorem dX0_letAtAge_25 : decode cX0_letAtAge 25 = .ok (.getfield 27, 3) := by decide +kernel
theorem dX0_letAtAge_28 : decode cX0_letAtAge 28 = .ok (.iload 4, 2) := by decide +kernel
theorem dX0_letAtAge_30 : decode cX0_letAtAge 30 = .ok (.iaload, 1) := by decide +kernel
theorem dX0_letAtAge_31 : decode cX0_letAtAge 31 = .ok (.iload_n 1, 1) := by decide +kernel
theorem dX0_letAtAge_32 : decode cX0_letAtAge 32 = .ok (.if_icmp .ne 6, 3) := by decide +kernel
theorem dX0_letAtAge_35 : decode cX0_letAtAge 35 = .ok (.iinc 3 1, 3) := by decide +kernel
theorem dX0_letAtAge_38 : decode cX0_letAtAge 38 = .ok (.iinc 4 1, 3) := by decide +kernel
theorem dX0_letAtAge_41 : decode cX0_letAtAge 41 = .ok (.goto (-36), 3) := by decide +kernel
theorem dX0_letAtAge_44 : decode cX0_letAtAge 44 = .ok (.iload_n 3, 1) := by decide +kernel
theorem dX0_letAtAge_45 : decode cX0_letAtAge 45 = .ok (.ireturn, 1) := by decide +kernel
set_option maxRecDepth 20000 in
theorem ggX0_letSoldInAtAge_X0_isLetBy : GoodIn wsX0_letSoldInAtAge wsX0_isLetBy := goodIn_r _ [8, 9, 10, 11, 12, 13, 14, 15, 16, 17, 18] (by decide +kernel) (by decide +kernel)
set_option maxRecDepth 20000 in
theorem gX0_letSoldInAtAge_X0_isLetBy : GoodIn wsX0_letSoldInAtAge (wsV RX0 41 RX0 yX0_isLetBy wsX0_isLetBy) := goodIn_app (goodIn_of _ (by decide +kernel)) ggX0_letSoldInAtAge_X0_isLetBy
theorem dX0_letSoldInAtAge_0 : decode cX0_letSoldInAtAge 0 = .ok (.iconst 0, 1) := by decide +kernel
theorem dX0_letSoldInAtAge_1 : decode cX0_letSoldInAtAge 1 = .ok (.istore 4, 2) := by decide +kernel
theorem dX0_letSoldInAtAge_3 : decode cX0_letSoldInAtAge 3 = .ok (.iconst 0, 1) := by decide +kernel
theorem dX0_letSoldInAtAge_4 : decode cX0_letSoldInAtAge 4 = .ok (.istore 5, 2) := by decide +kernel
theorem dX0_letSoldInAtAge_6 : decode cX0_letSoldInAtAge 6 = .ok (.iload 5, 2) := by decide +kernel
theorem dX0_letSoldInAtAge_8 : decode cX0_letSoldInAtAge 8 = .ok (.aload_n 0, 1) := by decide +kernel
theorem dX0_letSoldInAtAge_9 : decode cX0_letSoldInAtAge 9 = .ok (.getfield 33, 3) := by decide +kernel
theorem dX0_letSoldInAtAge_12 : decode cX0_letSoldInAtAge 12 = .ok (.if_icmp .ge 46, 3) := by decide +kernel
theorem dX0_letSoldInAtAge_15 : decode cX0_letSoldInAtAge 15 = .ok (.aload_n 0, 1) := by decide +kernel
theorem dX0_letSoldInAtAge_16 : decode cX0_letSoldInAtAge 16 = .ok (.iload 5, 2) := by decide +kernel
theorem dX0_letSoldInAtAge_18 : decode cX0_letSoldInAtAge 18 = .ok (.iload_n 3, 1) := by decide +kernel
theorem dX0_letSoldInAtAge_19 : decode cX0_letSoldInAtAge 19 = .ok (.invokevirtual 41, 3) := by decide +kernel
theorem dX0_letSoldInAtAge_22 : decode cX0_letSoldInAtAge 22 = .ok (.ifCond .eq 30, 3) := by decide +kernel
theorem dX0_letSoldInAtAge_25 : decode cX0_letSoldInAtAge 25 = .ok (.aload_n 0, 1) := by decide +kernel
theorem dX0_letSoldInAtAge_26 : decode cX0_letSoldInAtAge 26 = .ok (.getfield 27, 3) := by decide +kernel
theorem dX0_letSoldInAtAge_29 : decode cX0_letSoldInAtAge 29 = .ok (.iload 5, 2) := by decide +kernel
theorem dX0_letSoldInAtAge_31 : decode cX0_letSoldInAtAge 31 = .ok (.iaload, 1) := by decide +kernel
theorem dX0_letSoldInAtAge_32 : decode cX0_letSoldInAtAge 32 = .ok (.iload_n 2, 1) := by decide +kernel
theorem dX0_letSoldInAtAge_33 : decode cX0_letSoldInAtAge 33 = .ok (.if_icmp .ne 19, 3) := by decide +kernel
theorem dX0_letSoldInAtAge_36 : decode cX0_letSoldInAtAge 36 = .ok (.aload_n 0, 1) := by decide +kernel
theorem dX0_letSoldInAtAge_37 : decode cX0_letSoldInAtAge 37 = .ok (.getfield 18, 3) := by decide +kernel
theorem dX0_letSoldInAtAge_40 : decode cX0_letSoldInAtAge 40 = .ok (.iload 5, 2) := by decide +kernel
theorem dX0_letSoldInAtAge_42 : decode cX0_letSoldInAtAge 42 = .ok (.iaload, 1) := by decide +kernel
theorem dX0_letSoldInAtAge_43 : decode cX0_letSoldInAtAge 43 = .ok (.iload_n 1, 1) := by decide +kernel
theorem dX0_letSoldInAtAge_44 : decode cX0_letSoldInAtAge 44 = .ok (.iload_n 2, 1) := by decide +kernel
theorem dX0_letSoldInAtAge_45 : decode cX0_letSoldInAtAge 45 = .ok (.iadd, 1) := by decide +kernel
theorem dX0_letSoldInAtAge_46 : decode cX0_letSoldInAtAge 46 = .ok (.if_icmp .ne 6, 3) := by decide +kernel
theorem dX0_letSoldInAtAge_49 : decode cX0_letSoldInAtAge 49 = .ok (.iinc 4 1, 3) := by decide +kernel
theorem dX0_letSoldInAtAge_52 : decode cX0_letSoldInAtAge 52 = .ok (.iinc 5 1, 3) := by decide +kernel
theorem dX0_letSoldInAtAge_55 : decode cX0_letSoldInAtAge 55 = .ok (.goto (-49), 3) := by decide +kernel
theorem dX0_letSoldInAtAge_58 : decode cX0_letSoldInAtAge 58 = .ok (.iload 4, 2) := by decide +kernel
theorem dX0_letSoldInAtAge_60 : decode cX0_letSoldInAtAge 60 = .ok (.ireturn, 1) := by decide +kernel
set_option maxRecDepth 20000 in
theorem ggX0_letFailedIn_X0_isLetBy : GoodIn wsX0_letFailedIn wsX0_isLetBy := goodIn_r _ [7, 8, 9, 10, 11, 12, 13, 14, 15, 16, 17] (by decide +kernel) (by decide +kernel)
set_option maxRecDepth 20000 in
theorem gX0_letFailedIn_X0_isLetBy : GoodIn wsX0_letFailedIn (wsV RX0 41 RX0 yX0_isLetBy wsX0_isLetBy) := goodIn_app (goodIn_of _ (by decide +kernel)) ggX0_letFailedIn_X0_isLetBy
theorem dX0_letFailedIn_0 : decode cX0_letFailedIn 0 = .ok (.iconst 0, 1) := by decide +kernel
theorem dX0_letFailedIn_1 : decode cX0_letFailedIn 1 = .ok (.istore_n 3, 1) := by decide +kernel
theorem dX0_letFailedIn_2 : decode cX0_letFailedIn 2 = .ok (.iconst 0, 1) := by decide +kernel
theorem dX0_letFailedIn_3 : decode cX0_letFailedIn 3 = .ok (.istore 4, 2) := by decide +kernel
theorem dX0_letFailedIn_5 : decode cX0_letFailedIn 5 = .ok (.iload 4, 2) := by decide +kernel
theorem dX0_letFailedIn_7 : decode cX0_letFailedIn 7 = .ok (.aload_n 0, 1) := by decide +kernel
theorem dX0_letFailedIn_8 : decode cX0_letFailedIn 8 = .ok (.getfield 33, 3) := by decide +kernel
theorem dX0_letFailedIn_11 : decode cX0_letFailedIn 11 = .ok (.if_icmp .ge 33, 3) := by decide +kernel
theorem dX0_letFailedIn_14 : decode cX0_letFailedIn 14 = .ok (.aload_n 0, 1) := by decide +kernel
theorem dX0_letFailedIn_15 : decode cX0_letFailedIn 15 = .ok (.iload 4, 2) := by decide +kernel
theorem dX0_letFailedIn_17 : decode cX0_letFailedIn 17 = .ok (.iload_n 2, 1) := by decide +kernel
theorem dX0_letFailedIn_18 : decode cX0_letFailedIn 18 = .ok (.invokevirtual 41, 3) := by decide +kernel
theorem dX0_letFailedIn_21 : decode cX0_letFailedIn 21 = .ok (.ifCond .eq 17, 3) := by decide +kernel
theorem dX0_letFailedIn_24 : decode cX0_letFailedIn 24 = .ok (.aload_n 0, 1) := by decide +kernel
theorem dX0_letFailedIn_25 : decode cX0_letFailedIn 25 = .ok (.getfield 18, 3) := by decide +kernel
theorem dX0_letFailedIn_28 : decode cX0_letFailedIn 28 = .ok (.iload 4, 2) := by decide +kernel
theorem dX0_letFailedIn_30 : decode cX0_letFailedIn 30 = .ok (.iaload, 1) := by decide +kernel
theorem dX0_letFailedIn_31 : decode cX0_letFailedIn 31 = .ok (.iload_n 1, 1) := by decide +kernel
theorem dX0_letFailedIn_32 : decode cX0_letFailedIn 32 = .ok (.if_icmp .ne 6, 3) := by decide +kernel
theorem dX0_letFailedIn_35 : decode cX0_letFailedIn 35 = .ok (.iinc 3 1, 3) := by decide +kernel
theorem dX0_letFailedIn_38 : decode cX0_letFailedIn 38 = .ok (.iinc 4 1, 3) := by decide +kernel
theorem dX0_letFailedIn_41 : decode cX0_letFailedIn 41 = .ok (.goto (-36), 3) := by decide +kernel
theorem dX0_letFailedIn_44 : decode cX0_letFailedIn 44 = .ok (.iload_n 3, 1) := by decide +kernel
theorem dX0_letFailedIn_45 : decode cX0_letFailedIn 45 = .ok (.ireturn, 1) := by decide +kernel
set_option maxRecDepth 20000 in
theorem ggX0_letDelayed_X0_isLetBy : GoodIn wsX0_letDelayed wsX0_isLetBy := goodIn_r _ [7, 8, 9, 14, 15, 16, 17, 18, 19, 20, 21] (by decide +kernel) (by decide +kernel)
set_option maxRecDepth 20000 in
theorem gX0_letDelayed_X0_isLetBy : GoodIn wsX0_letDelayed (wsV RX0 41 RX0 yX0_isLetBy wsX0_isLetBy) := goodIn_app (goodIn_of _ (by decide +kernel)) ggX0_letDelayed_X0_isLetBy
set_option maxRecDepth 20000 in
theorem ggX0_letDelayed_X0_delay : GoodIn wsX0_letDelayed wsX0_delay := goodIn_r _ [13, 9, 2, 14, 15, 16, 17, 18, 19, 20, 21] (by decide +kernel) (by decide +kernel)
set_option maxRecDepth 20000 in
theorem gX0_letDelayed_X0_delay : GoodIn wsX0_letDelayed (wsV RX0 37 RX0 yX0_delay wsX0_delay) := goodIn_app (goodIn_of _ (by decide +kernel)) ggX0_letDelayed_X0_delay
theorem dX0_letDelayed_0 : decode cX0_letDelayed 0 = .ok (.iconst 0, 1) := by decide +kernel
theorem dX0_letDelayed_1 : decode cX0_letDelayed 1 = .ok (.istore 4, 2) := by decide +kernel
theorem dX0_letDelayed_3 : decode cX0_letDelayed 3 = .ok (.iconst 0, 1) := by decide +kernel
theorem dX0_letDelayed_4 : decode cX0_letDelayed 4 = .ok (.istore 5, 2) := by decide +kernel
theorem dX0_letDelayed_6 : decode cX0_letDelayed 6 = .ok (.iload 5, 2) := by decide +kernel
theorem dX0_letDelayed_8 : decode cX0_letDelayed 8 = .ok (.aload_n 0, 1) := by decide +kernel
theorem dX0_letDelayed_9 : decode cX0_letDelayed 9 = .ok (.getfield 33, 3) := by decide +kernel
theorem dX0_letDelayed_12 : decode cX0_letDelayed 12 = .ok (.if_icmp .ge 68, 3) := by decide +kernel
theorem dX0_letDelayed_15 : decode cX0_letDelayed 15 = .ok (.aload_n 0, 1) := by decide +kernel
theorem dX0_letDelayed_16 : decode cX0_letDelayed 16 = .ok (.getfield 18, 3) := by decide +kernel
theorem dX0_letDelayed_19 : decode cX0_letDelayed 19 = .ok (.iload 5, 2) := by decide +kernel
theorem dX0_letDelayed_21 : decode cX0_letDelayed 21 = .ok (.iaload, 1) := by decide +kernel
theorem dX0_letDelayed_22 : decode cX0_letDelayed 22 = .ok (.iload_n 3, 1) := by decide +kernel
theorem dX0_letDelayed_23 : decode cX0_letDelayed 23 = .ok (.bipush 11, 2) := by decide +kernel
theorem dX0_letDelayed_25 : decode cX0_letDelayed 25 = .ok (.isub, 1) := by decide +kernel
theorem dX0_letDelayed_26 : decode cX0_letDelayed 26 = .ok (.if_icmp .gt 7, 3) := by decide +kernel
theorem dX0_letDelayed_29 : decode cX0_letDelayed 29 = .ok (.iconst 1, 1) := by decide +kernel
theorem dX0_letDelayed_30 : decode cX0_letDelayed 30 = .ok (.goto 4, 3) := by decide +kernel
theorem dX0_letDelayed_33 : decode cX0_letDelayed 33 = .ok (.iconst 0, 1) := by decide +kernel
theorem dX0_letDelayed_34 : decode cX0_letDelayed 34 = .ok (.istore 6, 2) := by decide +kernel
theorem dX0_letDelayed_36 : decode cX0_letDelayed 36 = .ok (.iload 6, 2) := by decide +kernel
theorem dX0_letDelayed_38 : decode cX0_letDelayed 38 = .ok (.ifCond .eq 36, 3) := by decide +kernel
theorem dX0_letDelayed_41 : decode cX0_letDelayed 41 = .ok (.aload_n 0, 1) := by decide +kernel
theorem dX0_letDelayed_42 : decode cX0_letDelayed 42 = .ok (.iload 5, 2) := by decide +kernel
theorem dX0_letDelayed_44 : decode cX0_letDelayed 44 = .ok (.iload_n 3, 1) := by decide +kernel
theorem dX0_letDelayed_45 : decode cX0_letDelayed 45 = .ok (.invokevirtual 41, 3) := by decide +kernel
theorem dX0_letDelayed_48 : decode cX0_letDelayed 48 = .ok (.ifCond .eq 26, 3) := by decide +kernel
theorem dX0_letDelayed_51 : decode cX0_letDelayed 51 = .ok (.aload_n 0, 1) := by decide +kernel
theorem dX0_letDelayed_52 : decode cX0_letDelayed 52 = .ok (.iload 5, 2) := by decide +kernel
theorem dX0_letDelayed_54 : decode cX0_letDelayed 54 = .ok (.invokevirtual 37, 3) := by decide +kernel
theorem dX0_letDelayed_57 : decode cX0_letDelayed 57 = .ok (.iload_n 1, 1) := by decide +kernel
theorem dX0_letDelayed_58 : decode cX0_letDelayed 58 = .ok (.if_icmp .lt 16, 3) := by decide +kernel
theorem dX0_letDelayed_61 : decode cX0_letDelayed 61 = .ok (.aload_n 0, 1) := by decide +kernel
theorem dX0_letDelayed_62 : decode cX0_letDelayed 62 = .ok (.iload 5, 2) := by decide +kernel
theorem dX0_letDelayed_64 : decode cX0_letDelayed 64 = .ok (.invokevirtual 37, 3) := by decide +kernel
theorem dX0_letDelayed_67 : decode cX0_letDelayed 67 = .ok (.iload_n 2, 1) := by decide +kernel
theorem dX0_letDelayed_68 : decode cX0_letDelayed 68 = .ok (.if_icmp .gt 6, 3) := by decide +kernel
theorem dX0_letDelayed_71 : decode cX0_letDelayed 71 = .ok (.iinc 4 1, 3) := by decide +kernel
theorem dX0_letDelayed_74 : decode cX0_letDelayed 74 = .ok (.iinc 5 1, 3) := by decide +kernel
theorem dX0_letDelayed_77 : decode cX0_letDelayed 77 = .ok (.goto (-71), 3) := by decide +kernel
theorem dX0_letDelayed_80 : decode cX0_letDelayed 80 = .ok (.iload 4, 2) := by decide +kernel
theorem dX0_letDelayed_82 : decode cX0_letDelayed 82 = .ok (.ireturn, 1) := by decide +kernel
set_option maxRecDepth 20000 in
theorem ggX0_thingsLetFor_X0_isLetBy : GoodIn wsX0_thingsLetFor wsX0_isLetBy := goodIn_r _ [8, 9, 10, 14, 15, 16, 17, 18, 19, 20, 21] (by decide +kernel) (by decide +kernel)
set_option maxRecDepth 20000 in
theorem gX0_thingsLetFor_X0_isLetBy : GoodIn wsX0_thingsLetFor (wsV RX0 41 RX0 yX0_isLetBy wsX0_isLetBy) := goodIn_app (goodIn_of _ (by decide +kernel)) ggX0_thingsLetFor_X0_isLetBy
set_option maxRecDepth 20000 in
theorem ggX0_thingsLetFor_X4_hasBit : GoodIn wsX0_thingsLetFor wsX4_hasBit := goodIn_r _ [13] (by decide +kernel) (by decide +kernel)
set_option maxRecDepth 20000 in
theorem gX0_thingsLetFor_X4_hasBit_n45 : GoodIn wsX0_thingsLetFor (wsX4_hasBit) := ggX0_thingsLetFor_X4_hasBit
theorem dX0_thingsLetFor_0 : decode cX0_thingsLetFor 0 = .ok (.lconst 0, 1) := by decide +kernel
theorem dX0_thingsLetFor_1 : decode cX0_thingsLetFor 1 = .ok (.lstore_n 3, 1) := by decide +kernel
theorem dX0_thingsLetFor_2 : decode cX0_thingsLetFor 2 = .ok (.iconst 0, 1) := by decide +kernel
theorem dX0_thingsLetFor_3 : decode cX0_thingsLetFor 3 = .ok (.istore 5, 2) := by decide +kernel
theorem dX0_thingsLetFor_5 : decode cX0_thingsLetFor 5 = .ok (.iload 5, 2) := by decide +kernel
theorem dX0_thingsLetFor_7 : decode cX0_thingsLetFor 7 = .ok (.aload_n 0, 1) := by decide +kernel
theorem dX0_thingsLetFor_8 : decode cX0_thingsLetFor 8 = .ok (.getfield 33, 3) := by decide +kernel
theorem dX0_thingsLetFor_11 : decode cX0_thingsLetFor 11 = .ok (.if_icmp .ge 46, 3) := by decide +kernel
theorem dX0_thingsLetFor_14 : decode cX0_thingsLetFor 14 = .ok (.aload_n 0, 1) := by decide +kernel
theorem dX0_thingsLetFor_15 : decode cX0_thingsLetFor 15 = .ok (.iload 5, 2) := by decide +kernel
theorem dX0_thingsLetFor_17 : decode cX0_thingsLetFor 17 = .ok (.iload_n 2, 1) := by decide +kernel
theorem dX0_thingsLetFor_18 : decode cX0_thingsLetFor 18 = .ok (.invokevirtual 41, 3) := by decide +kernel
theorem dX0_thingsLetFor_21 : decode cX0_thingsLetFor 21 = .ok (.ifCond .eq 30, 3) := by decide +kernel
theorem dX0_thingsLetFor_24 : decode cX0_thingsLetFor 24 = .ok (.iload_n 1, 1) := by decide +kernel
theorem dX0_thingsLetFor_25 : decode cX0_thingsLetFor 25 = .ok (.i2l, 1) := by decide +kernel
theorem dX0_thingsLetFor_26 : decode cX0_thingsLetFor 26 = .ok (.aload_n 0, 1) := by decide +kernel
theorem dX0_thingsLetFor_27 : decode cX0_thingsLetFor 27 = .ok (.getfield 15, 3) := by decide +kernel
theorem dX0_thingsLetFor_30 : decode cX0_thingsLetFor 30 = .ok (.iload 5, 2) := by decide +kernel
theorem dX0_thingsLetFor_32 : decode cX0_thingsLetFor 32 = .ok (.iaload, 1) := by decide +kernel
theorem dX0_thingsLetFor_33 : decode cX0_thingsLetFor 33 = .ok (.invokestatic 45, 3) := by decide +kernel
theorem dX0_thingsLetFor_36 : decode cX0_thingsLetFor 36 = .ok (.ifCond .eq 15, 3) := by decide +kernel
theorem dX0_thingsLetFor_39 : decode cX0_thingsLetFor 39 = .ok (.lload_n 3, 1) := by decide +kernel
theorem dX0_thingsLetFor_40 : decode cX0_thingsLetFor 40 = .ok (.lconst 1, 1) := by decide +kernel
theorem dX0_thingsLetFor_41 : decode cX0_thingsLetFor 41 = .ok (.aload_n 0, 1) := by decide +kernel
theorem dX0_thingsLetFor_42 : decode cX0_thingsLetFor 42 = .ok (.getfield 9, 3) := by decide +kernel
theorem dX0_thingsLetFor_45 : decode cX0_thingsLetFor 45 = .ok (.iload 5, 2) := by decide +kernel
theorem dX0_thingsLetFor_47 : decode cX0_thingsLetFor 47 = .ok (.iaload, 1) := by decide +kernel
theorem dX0_thingsLetFor_48 : decode cX0_thingsLetFor 48 = .ok (.lshl, 1) := by decide +kernel
theorem dX0_thingsLetFor_49 : decode cX0_thingsLetFor 49 = .ok (.lor, 1) := by decide +kernel
theorem dX0_thingsLetFor_50 : decode cX0_thingsLetFor 50 = .ok (.lstore_n 3, 1) := by decide +kernel
theorem dX0_thingsLetFor_51 : decode cX0_thingsLetFor 51 = .ok (.iinc 5 1, 3) := by decide +kernel
theorem dX0_thingsLetFor_54 : decode cX0_thingsLetFor 54 = .ok (.goto (-49), 3) := by decide +kernel
theorem dX0_thingsLetFor_57 : decode cX0_thingsLetFor 57 = .ok (.lload_n 3, 1) := by decide +kernel
theorem dX0_thingsLetFor_58 : decode cX0_thingsLetFor 58 = .ok (.lreturn, 1) := by decide +kernel
theorem dX0_judgedAs_0 : decode cX0_judgedAs 0 = .ok (.iconst 0, 1) := by decide +kernel
theorem dX0_judgedAs_1 : decode cX0_judgedAs 1 = .ok (.istore_n 2, 1) := by decide +kernel
theorem dX0_judgedAs_2 : decode cX0_judgedAs 2 = .ok (.iconst 0, 1) := by decide +kernel
theorem dX0_judgedAs_3 : decode cX0_judgedAs 3 = .ok (.istore_n 3, 1) := by decide +kernel
theorem dX0_judgedAs_4 : decode cX0_judgedAs 4 = .ok (.iload_n 3, 1) := by decide +kernel
theorem dX0_judgedAs_5 : decode cX0_judgedAs 5 = .ok (.aload_n 0, 1) := by decide +kernel
theorem dX0_judgedAs_6 : decode cX0_judgedAs 6 = .ok (.getfield 33, 3) := by decide +kernel
theorem dX0_judgedAs_9 : decode cX0_judgedAs 9 = .ok (.if_icmp .ge 22, 3) := by decide +kernel
theorem dX0_judgedAs_12 : decode cX0_judgedAs 12 = .ok (.aload_n 0, 1) := by decide +kernel
theorem dX0_judgedAs_13 : decode cX0_judgedAs 13 = .ok (.getfield 30, 3) := by decide +kernel
theorem dX0_judgedAs_16 : decode cX0_judgedAs 16 = .ok (.iload_n 3, 1) := by decide +kernel
theorem dX0_judgedAs_17 : decode cX0_judgedAs 17 = .ok (.iaload, 1) := by decide +kernel
theorem dX0_judgedAs_18 : decode cX0_judgedAs 18 = .ok (.iload_n 1, 1) := by decide +kernel
theorem dX0_judgedAs_19 : decode cX0_judgedAs 19 = .ok (.if_icmp .ne 6, 3) := by decide +kernel
theorem dX0_judgedAs_22 : decode cX0_judgedAs 22 = .ok (.iinc 2 1, 3) := by decide +kernel
theorem dX0_judgedAs_25 : decode cX0_judgedAs 25 = .ok (.iinc 3 1, 3) := by decide +kernel
theorem dX0_judgedAs_28 : decode cX0_judgedAs 28 = .ok (.goto (-24), 3) := by decide +kernel
theorem dX0_judgedAs_31 : decode cX0_judgedAs 31 = .ok (.iload_n 2, 1) := by decide +kernel
theorem dX0_judgedAs_32 : decode cX0_judgedAs 32 = .ok (.ireturn, 1) := by decide +kernel
theorem dX0_letCost_0 : decode cX0_letCost 0 = .ok (.iconst 0, 1) := by decide +kernel
theorem dX0_letCost_1 : decode cX0_letCost 1 = .ok (.istore_n 1, 1) := by decide +kernel
theorem dX0_letCost_2 : decode cX0_letCost 2 = .ok (.iconst 0, 1) := by decide +kernel
theorem dX0_letCost_3 : decode cX0_letCost 3 = .ok (.istore_n 2, 1) := by decide +kernel
theorem dX0_letCost_4 : decode cX0_letCost 4 = .ok (.iload_n 2, 1) := by decide +kernel
theorem dX0_letCost_5 : decode cX0_letCost 5 = .ok (.aload_n 0, 1) := by decide +kernel
theorem dX0_letCost_6 : decode cX0_letCost 6 = .ok (.getfield 33, 3) := by decide +kernel
theorem dX0_letCost_9 : decode cX0_letCost 9 = .ok (.if_icmp .ge 27, 3) := by decide +kernel
theorem dX0_letCost_12 : decode cX0_letCost 12 = .ok (.aload_n 0, 1) := by decide +kernel
theorem dX0_letCost_13 : decode cX0_letCost 13 = .ok (.getfield 30, 3) := by decide +kernel
theorem dX0_letCost_16 : decode cX0_letCost 16 = .ok (.iload_n 2, 1) := by decide +kernel
theorem dX0_letCost_17 : decode cX0_letCost 17 = .ok (.iaload, 1) := by decide +kernel
theorem dX0_letCost_18 : decode cX0_letCost 18 = .ok (.ifCond .ne 12, 3) := by decide +kernel
theorem dX0_letCost_21 : decode cX0_letCost 21 = .ok (.iload_n 1, 1) := by decide +kernel
theorem dX0_letCost_22 : decode cX0_letCost 22 = .ok (.aload_n 0, 1) := by decide +kernel
theorem dX0_letCost_23 : decode cX0_letCost 23 = .ok (.getfield 24, 3) := by decide +kernel
theorem dX0_letCost_26 : decode cX0_letCost 26 = .ok (.iload_n 2, 1) := by decide +kernel
theorem dX0_letCost_27 : decode cX0_letCost 27 = .ok (.iaload, 1) := by decide +kernel
theorem dX0_letCost_28 : decode cX0_letCost 28 = .ok (.iadd, 1) := by decide +kernel
theorem dX0_letCost_29 : decode cX0_letCost 29 = .ok (.istore_n 1, 1) := by decide +kernel
theorem dX0_letCost_30 : decode cX0_letCost 30 = .ok (.iinc 2 1, 3) := by decide +kernel
theorem dX0_letCost_33 : decode cX0_letCost 33 = .ok (.goto (-29), 3) := by decide +kernel
theorem dX0_letCost_36 : decode cX0_letCost 36 = .ok (.iload_n 1, 1) := by decide +kernel
theorem dX0_letCost_37 : decode cX0_letCost 37 = .ok (.ireturn, 1) := by decide +kernel
set_option maxRecDepth 20000 in
theorem ggX0_digestOnto_X0_tell : GoodIn wsX0_digestOnto wsX0_tell := goodIn_r _ [7, 8, 9, 10, 11, 12, 13, 14, 15, 16, 6, 17, 18, 19, 20, 21, 22, 23, 24, 25] (by decide +kernel) (by decide +kernel)
set_option maxRecDepth 20000 in
theorem gX0_digestOnto_X0_tell : GoodIn wsX0_digestOnto (wsV RX0 51 RX0 yX0_tell wsX0_tell) := goodIn_app (goodIn_of _ (by decide +kernel)) ggX0_digestOnto_X0_tell
theorem dX0_digestOnto_0 : decode cX0_digestOnto 0 = .ok (.lload_n 1, 1) := by decide +kernel
theorem dX0_digestOnto_1 : decode cX0_digestOnto 1 = .ok (.lstore_n 3, 1) := by decide +kernel
theorem dX0_digestOnto_2 : decode cX0_digestOnto 2 = .ok (.iconst 0, 1) := by decide +kernel
theorem dX0_digestOnto_3 : decode cX0_digestOnto 3 = .ok (.istore 5, 2) := by decide +kernel
theorem dX0_digestOnto_5 : decode cX0_digestOnto 5 = .ok (.iload 5, 2) := by decide +kernel
theorem dX0_digestOnto_7 : decode cX0_digestOnto 7 = .ok (.aload_n 0, 1) := by decide +kernel
theorem dX0_digestOnto_8 : decode cX0_digestOnto 8 = .ok (.getfield 33, 3) := by decide +kernel
theorem dX0_digestOnto_11 : decode cX0_digestOnto 11 = .ok (.if_icmp .ge 41, 3) := by decide +kernel
theorem dX0_digestOnto_14 : decode cX0_digestOnto 14 = .ok (.iconst 0, 1) := by decide +kernel
theorem dX0_digestOnto_15 : decode cX0_digestOnto 15 = .ok (.istore 6, 2) := by decide +kernel
theorem dX0_digestOnto_17 : decode cX0_digestOnto 17 = .ok (.iload 6, 2) := by decide +kernel
theorem dX0_digestOnto_19 : decode cX0_digestOnto 19 = .ok (.bipush 6, 2) := by decide +kernel
theorem dX0_digestOnto_21 : decode cX0_digestOnto 21 = .ok (.if_icmp .gt 25, 3) := by decide +kernel
theorem dX0_digestOnto_24 : decode cX0_digestOnto 24 = .ok (.ldc2_w 49, 3) := by decide +kernel
theorem dX0_digestOnto_27 : decode cX0_digestOnto 27 = .ok (.lload_n 3, 1) := by decide +kernel
theorem dX0_digestOnto_28 : decode cX0_digestOnto 28 = .ok (.lmul, 1) := by decide +kernel
theorem dX0_digestOnto_29 : decode cX0_digestOnto 29 = .ok (.aload_n 0, 1) := by decide +kernel
theorem dX0_digestOnto_30 : decode cX0_digestOnto 30 = .ok (.iload 5, 2) := by decide +kernel
theorem dX0_digestOnto_32 : decode cX0_digestOnto 32 = .ok (.iload 6, 2) := by decide +kernel
theorem dX0_digestOnto_34 : decode cX0_digestOnto 34 = .ok (.invokevirtual 51, 3) := by decide +kernel
theorem dX0_digestOnto_37 : decode cX0_digestOnto 37 = .ok (.i2l, 1) := by decide +kernel
theorem dX0_digestOnto_38 : decode cX0_digestOnto 38 = .ok (.ladd, 1) := by decide +kernel
theorem dX0_digestOnto_39 : decode cX0_digestOnto 39 = .ok (.lstore_n 3, 1) := by decide +kernel
theorem dX0_digestOnto_40 : decode cX0_digestOnto 40 = .ok (.iinc 6 1, 3) := by decide +kernel
theorem dX0_digestOnto_43 : decode cX0_digestOnto 43 = .ok (.goto (-26), 3) := by decide +kernel
theorem dX0_digestOnto_46 : decode cX0_digestOnto 46 = .ok (.iinc 5 1, 3) := by decide +kernel
theorem dX0_digestOnto_49 : decode cX0_digestOnto 49 = .ok (.goto (-44), 3) := by decide +kernel
theorem dX0_digestOnto_52 : decode cX0_digestOnto 52 = .ok (.lload_n 3, 1) := by decide +kernel
theorem dX0_digestOnto_53 : decode cX0_digestOnto 53 = .ok (.lreturn, 1) := by decide +kernel
theorem dX1_init_0 : decode cX1_init 0 = .ok (.aload_n 0, 1) := by decide +kernel
theorem dX1_init_1 : decode cX1_init 1 = .ok (.invokespecial 3, 3) := by decide +kernel
theorem dX1_init_4 : decode cX1_init 4 = .ok (.aload_n 0, 1) := by decide +kernel
theorem dX1_init_5 : decode cX1_init 5 = .ok (.bipush 10, 2) := by decide +kernel
theorem dX1_init_7 : decode cX1_init 7 = .ok (.newarray .int, 2) := by decide +kernel
theorem dX1_init_9 : decode cX1_init 9 = .ok (.putfield 9, 3) := by decide +kernel
theorem dX1_init_12 : decode cX1_init 12 = .ok (.aload_n 0, 1) := by decide +kernel
theorem dX1_init_13 : decode cX1_init 13 = .ok (.bipush 10, 2) := by decide +kernel
theorem dX1_init_15 : decode cX1_init 15 = .ok (.newarray .int, 2) := by decide +kernel
theorem dX1_init_17 : decode cX1_init 17 = .ok (.putfield 15, 3) := by decide +kernel
theorem dX1_init_20 : decode cX1_init 20 = .ok (.aload_n 0, 1) := by decide +kernel
theorem dX1_init_21 : decode cX1_init 21 = .ok (.bipush 10, 2) := by decide +kernel
theorem dX1_init_23 : decode cX1_init 23 = .ok (.newarray .int, 2) := by decide +kernel
theorem dX1_init_25 : decode cX1_init 25 = .ok (.putfield 18, 3) := by decide +kernel
theorem dX1_init_28 : decode cX1_init 28 = .ok (.iconst 0, 1) := by decide +kernel
theorem dX1_init_29 : decode cX1_init 29 = .ok (.istore_n 1, 1) := by decide +kernel
theorem dX1_init_30 : decode cX1_init 30 = .ok (.iload_n 1, 1) := by decide +kernel
theorem dX1_init_31 : decode cX1_init 31 = .ok (.bipush 10, 2) := by decide +kernel
theorem dX1_init_33 : decode cX1_init 33 = .ok (.if_icmp .ge 23, 3) := by decide +kernel
theorem dX1_init_36 : decode cX1_init 36 = .ok (.aload_n 0, 1) := by decide +kernel
theorem dX1_init_37 : decode cX1_init 37 = .ok (.getfield 9, 3) := by decide +kernel
theorem dX1_init_40 : decode cX1_init 40 = .ok (.iload_n 1, 1) := by decide +kernel
theorem dX1_init_41 : decode cX1_init 41 = .ok (.iconst (-1), 1) := by decide +kernel
theorem dX1_init_42 : decode cX1_init 42 = .ok (.iastore, 1) := by decide +kernel
theorem dX1_init_43 : decode cX1_init 43 = .ok (.aload_n 0, 1) := by decide +kernel
theorem dX1_init_44 : decode cX1_init 44 = .ok (.getfield 15, 3) := by decide +kernel
theorem dX1_init_47 : decode cX1_init 47 = .ok (.iload_n 1, 1) := by decide +kernel
theorem dX1_init_48 : decode cX1_init 48 = .ok (.iconst (-1), 1) := by decide +kernel
theorem dX1_init_49 : decode cX1_init 49 = .ok (.iastore, 1) := by decide +kernel
theorem dX1_init_50 : decode cX1_init 50 = .ok (.iinc 1 1, 3) := by decide +kernel
theorem dX1_init_53 : decode cX1_init 53 = .ok (.goto (-23), 3) := by decide +kernel
theorem dX1_init_56 : decode cX1_init 56 = .ok (.return_, 1) := by decide +kernel
set_option maxRecDepth 20000 in
theorem ggX1_standsInRowOf_X4_isPart : GoodIn wsX1_standsInRowOf wsX4_isPart := goodIn_r _ [4, 5, 6, 3, 7] (by decide +kernel) (by decide +kernel)
set_option maxRecDepth 20000 in
theorem gX1_standsInRowOf_X4_isPart_n21 : GoodIn wsX1_standsInRowOf (wsX4_isPart) := ggX1_standsInRowOf_X4_isPart
theorem dX1_standsInRowOf_0 : decode cX1_standsInRowOf 0 = .ok (.iload_n 1, 1) := by decide +kernel
theorem dX1_standsInRowOf_1 : decode cX1_standsInRowOf 1 = .ok (.istore_n 3, 1) := by decide +kernel
theorem dX1_standsInRowOf_2 : decode cX1_standsInRowOf 2 = .ok (.iconst 0, 1) := by decide +kernel
theorem dX1_standsInRowOf_3 : decode cX1_standsInRowOf 3 = .ok (.istore 4, 2) := by decide +kernel
theorem dX1_standsInRowOf_5 : decode cX1_standsInRowOf 5 = .ok (.iload 4, 2) := by decide +kernel
theorem dX1_standsInRowOf_7 : decode cX1_standsInRowOf 7 = .ok (.bipush 10, 2) := by decide +kernel
theorem dX1_standsInRowOf_9 : decode cX1_standsInRowOf 9 = .ok (.if_icmp .ge 30, 3) := by decide +kernel
theorem dX1_standsInRowOf_12 : decode cX1_standsInRowOf 12 = .ok (.iload_n 3, 1) := by decide +kernel
theorem dX1_standsInRowOf_13 : decode cX1_standsInRowOf 13 = .ok (.invokestatic 21, 3) := by decide +kernel
theorem dX1_standsInRowOf_16 : decode cX1_standsInRowOf 16 = .ok (.ifCond .eq 23, 3) := by decide +kernel
theorem dX1_standsInRowOf_19 : decode cX1_standsInRowOf 19 = .ok (.iload_n 3, 1) := by decide +kernel
theorem dX1_standsInRowOf_20 : decode cX1_standsInRowOf 20 = .ok (.iload_n 2, 1) := by decide +kernel
theorem dX1_standsInRowOf_21 : decode cX1_standsInRowOf 21 = .ok (.if_icmp .ne 5, 3) := by decide +kernel
theorem dX1_standsInRowOf_24 : decode cX1_standsInRowOf 24 = .ok (.iconst 1, 1) := by decide +kernel
theorem dX1_standsInRowOf_25 : decode cX1_standsInRowOf 25 = .ok (.ireturn, 1) := by decide +kernel
theorem dX1_standsInRowOf_26 : decode cX1_standsInRowOf 26 = .ok (.aload_n 0, 1) := by decide +kernel
theorem dX1_standsInRowOf_27 : decode cX1_standsInRowOf 27 = .ok (.getfield 9, 3) := by decide +kernel
theorem dX1_standsInRowOf_30 : decode cX1_standsInRowOf 30 = .ok (.iload_n 3, 1) := by decide +kernel
theorem dX1_standsInRowOf_31 : decode cX1_standsInRowOf 31 = .ok (.iaload, 1) := by decide +kernel
theorem dX1_standsInRowOf_32 : decode cX1_standsInRowOf 32 = .ok (.istore_n 3, 1) := by decide +kernel
theorem dX1_standsInRowOf_33 : decode cX1_standsInRowOf 33 = .ok (.iinc 4 1, 3) := by decide +kernel
theorem dX1_standsInRowOf_36 : decode cX1_standsInRowOf 36 = .ok (.goto (-31), 3) := by decide +kernel
theorem dX1_standsInRowOf_39 : decode cX1_standsInRowOf 39 = .ok (.iconst 0, 1) := by decide +kernel
theorem dX1_standsInRowOf_40 : decode cX1_standsInRowOf 40 = .ok (.ireturn, 1) := by decide +kernel
set_option maxRecDepth 20000 in
theorem ggX1_withAllUnder_X1_standsInRowOf : GoodIn wsX1_withAllUnder wsX1_standsInRowOf := goodIn_r _ [5, 6, 7, 8, 9, 10, 11, 12, 13, 14, 15] (by decide +kernel) (by decide +kernel)
set_option maxRecDepth 20000 in
theorem gX1_withAllUnder_X1_standsInRowOf : GoodIn wsX1_withAllUnder (wsV RX1 25 RX1 yX1_standsInRowOf wsX1_standsInRowOf) := goodIn_app (goodIn_of _ (by decide +kernel)) ggX1_withAllUnder_X1_standsInRowOf
theorem dX1_withAllUnder_0 : decode cX1_withAllUnder 0 = .ok (.iconst 0, 1) := by decide +kernel
theorem dX1_withAllUnder_1 : decode cX1_withAllUnder 1 = .ok (.istore_n 2, 1) := by decide +kernel
theorem dX1_withAllUnder_2 : decode cX1_withAllUnder 2 = .ok (.iconst 0, 1) := by decide +kernel
theorem dX1_withAllUnder_3 : decode cX1_withAllUnder 3 = .ok (.istore_n 3, 1) := by decide +kernel
theorem dX1_withAllUnder_4 : decode cX1_withAllUnder 4 = .ok (.iload_n 3, 1) := by decide +kernel
theorem dX1_withAllUnder_5 : decode cX1_withAllUnder 5 = .ok (.bipush 10, 2) := by decide +kernel
theorem dX1_withAllUnder_7 : decode cX1_withAllUnder 7 = .ok (.if_icmp .ge 24, 3) := by decide +kernel
theorem dX1_withAllUnder_10 : decode cX1_withAllUnder 10 = .ok (.aload_n 0, 1) := by decide +kernel
theorem dX1_withAllUnder_11 : decode cX1_withAllUnder 11 = .ok (.iload_n 3, 1) := by decide +kernel
theorem dX1_withAllUnder_12 : decode cX1_withAllUnder 12 = .ok (.iload_n 1, 1) := by decide +kernel
theorem dX1_withAllUnder_13 : decode cX1_withAllUnder 13 = .ok (.invokevirtual 25, 3) := by decide +kernel
theorem dX1_withAllUnder_16 : decode cX1_withAllUnder 16 = .ok (.ifCond .eq 9, 3) := by decide +kernel
theorem dX1_withAllUnder_19 : decode cX1_withAllUnder 19 = .ok (.iload_n 2, 1) := by decide +kernel
theorem dX1_withAllUnder_20 : decode cX1_withAllUnder 20 = .ok (.iconst 1, 1) := by decide +kernel
theorem dX1_withAllUnder_21 : decode cX1_withAllUnder 21 = .ok (.iload_n 3, 1) := by decide +kernel
theorem dX1_withAllUnder_22 : decode cX1_withAllUnder 22 = .ok (.ishl, 1) := by decide +kernel
theorem dX1_withAllUnder_23 : decode cX1_withAllUnder 23 = .ok (.ior, 1) := by decide +kernel
theorem dX1_withAllUnder_24 : decode cX1_withAllUnder 24 = .ok (.istore_n 2, 1) := by decide +kernel
theorem dX1_withAllUnder_25 : decode cX1_withAllUnder 25 = .ok (.iinc 3 1, 3) := by decide +kernel
theorem dX1_withAllUnder_28 : decode cX1_withAllUnder 28 = .ok (.goto (-24), 3) := by decide +kernel
theorem dX1_withAllUnder_31 : decode cX1_withAllUnder 31 = .ok (.iload_n 2, 1) := by decide +kernel
theorem dX1_withAllUnder_32 : decode cX1_withAllUnder 32 = .ok (.ireturn, 1) := by decide +kernel
set_option maxRecDepth 20000 in
theorem ggX1_firstWithMaker_X4_isPart : GoodIn wsX1_firstWithMaker wsX4_isPart := goodIn_r _ [5, 6, 7, 4, 8] (by decide +kernel) (by decide +kernel)
set_option maxRecDepth 20000 in
theorem gX1_firstWithMaker_X4_isPart_n21 : GoodIn wsX1_firstWithMaker (wsX4_isPart) := ggX1_firstWithMaker_X4_isPart
theorem dX1_firstWithMaker_0 : decode cX1_firstWithMaker 0 = .ok (.iload_n 1, 1) := by decide +kernel
theorem dX1_firstWithMaker_1 : decode cX1_firstWithMaker 1 = .ok (.istore_n 2, 1) := by decide +kernel
theorem dX1_firstWithMaker_2 : decode cX1_firstWithMaker 2 = .ok (.iconst 0, 1) := by decide +kernel
theorem dX1_firstWithMaker_3 : decode cX1_firstWithMaker 3 = .ok (.istore_n 3, 1) := by decide +kernel
theorem dX1_firstWithMaker_4 : decode cX1_firstWithMaker 4 = .ok (.iload_n 3, 1) := by decide +kernel
theorem dX1_firstWithMaker_5 : decode cX1_firstWithMaker 5 = .ok (.bipush 10, 2) := by decide +kernel
theorem dX1_firstWithMaker_7 : decode cX1_firstWithMaker 7 = .ok (.if_icmp .ge 35, 3) := by decide +kernel
theorem dX1_firstWithMaker_10 : decode cX1_firstWithMaker 10 = .ok (.iload_n 2, 1) := by decide +kernel
theorem dX1_firstWithMaker_11 : decode cX1_firstWithMaker 11 = .ok (.invokestatic 21, 3) := by decide +kernel
theorem dX1_firstWithMaker_14 : decode cX1_firstWithMaker 14 = .ok (.ifCond .eq 28, 3) := by decide +kernel
theorem dX1_firstWithMaker_17 : decode cX1_firstWithMaker 17 = .ok (.aload_n 0, 1) := by decide +kernel
theorem dX1_firstWithMaker_18 : decode cX1_firstWithMaker 18 = .ok (.getfield 15, 3) := by decide +kernel
theorem dX1_firstWithMaker_21 : decode cX1_firstWithMaker 21 = .ok (.iload_n 2, 1) := by decide +kernel
theorem dX1_firstWithMaker_22 : decode cX1_firstWithMaker 22 = .ok (.iaload, 1) := by decide +kernel
theorem dX1_firstWithMaker_23 : decode cX1_firstWithMaker 23 = .ok (.iconst (-1), 1) := by decide +kernel
theorem dX1_firstWithMaker_24 : decode cX1_firstWithMaker 24 = .ok (.if_icmp .eq 5, 3) := by decide +kernel
theorem dX1_firstWithMaker_27 : decode cX1_firstWithMaker 27 = .ok (.iload_n 2, 1) := by decide +kernel
theorem dX1_firstWithMaker_28 : decode cX1_firstWithMaker 28 = .ok (.ireturn, 1) := by decide +kernel
theorem dX1_firstWithMaker_29 : decode cX1_firstWithMaker 29 = .ok (.aload_n 0, 1) := by decide +kernel
theorem dX1_firstWithMaker_30 : decode cX1_firstWithMaker 30 = .ok (.getfield 9, 3) := by decide +kernel
theorem dX1_firstWithMaker_33 : decode cX1_firstWithMaker 33 = .ok (.iload_n 2, 1) := by decide +kernel
theorem dX1_firstWithMaker_34 : decode cX1_firstWithMaker 34 = .ok (.iaload, 1) := by decide +kernel
theorem dX1_firstWithMaker_35 : decode cX1_firstWithMaker 35 = .ok (.istore_n 2, 1) := by decide +kernel
theorem dX1_firstWithMaker_36 : decode cX1_firstWithMaker 36 = .ok (.iinc 3 1, 3) := by decide +kernel
theorem dX1_firstWithMaker_39 : decode cX1_firstWithMaker 39 = .ok (.goto (-35), 3) := by decide +kernel
theorem dX1_firstWithMaker_42 : decode cX1_firstWithMaker 42 = .ok (.iconst (-1), 1) := by decide +kernel
theorem dX1_firstWithMaker_43 : decode cX1_firstWithMaker 43 = .ok (.ireturn, 1) := by decide +kernel
theorem dX1_digestOnto_0 : decode cX1_digestOnto 0 = .ok (.lload_n 1, 1) := by decide +kernel
theorem dX1_digestOnto_1 : decode cX1_digestOnto 1 = .ok (.lstore_n 3, 1) := by decide +kernel
theorem dX1_digestOnto_2 : decode cX1_digestOnto 2 = .ok (.iconst 0, 1) := by decide +kernel
theorem dX1_digestOnto_3 : decode cX1_digestOnto 3 = .ok (.istore 5, 2) := by decide +kernel
theorem dX1_digestOnto_5 : decode cX1_digestOnto 5 = .ok (.iload 5, 2) := by decide +kernel
theorem dX1_digestOnto_7 : decode cX1_digestOnto 7 = .ok (.bipush 10, 2) := by decide +kernel
theorem dX1_digestOnto_9 : decode cX1_digestOnto 9 = .ok (.if_icmp .ge 54, 3) := by decide +kernel
theorem dX1_digestOnto_12 : decode cX1_digestOnto 12 = .ok (.ldc2_w 29, 3) := by decide +kernel
theorem dX1_digestOnto_15 : decode cX1_digestOnto 15 = .ok (.lload_n 3, 1) := by decide +kernel
theorem dX1_digestOnto_16 : decode cX1_digestOnto 16 = .ok (.lmul, 1) := by decide +kernel
theorem dX1_digestOnto_17 : decode cX1_digestOnto 17 = .ok (.aload_n 0, 1) := by decide +kernel
theorem dX1_digestOnto_18 : decode cX1_digestOnto 18 = .ok (.getfield 9, 3) := by decide +kernel
theorem dX1_digestOnto_21 : decode cX1_digestOnto 21 = .ok (.iload 5, 2) := by decide +kernel
theorem dX1_digestOnto_23 : decode cX1_digestOnto 23 = .ok (.iaload, 1) := by decide +kernel
theorem dX1_digestOnto_24 : decode cX1_digestOnto 24 = .ok (.i2l, 1) := by decide +kernel
theorem dX1_digestOnto_25 : decode cX1_digestOnto 25 = .ok (.ladd, 1) := by decide +kernel
theorem dX1_digestOnto_26 : decode cX1_digestOnto 26 = .ok (.lstore_n 3, 1) := by decide +kernel
theorem dX1_digestOnto_27 : decode cX1_digestOnto 27 = .ok (.ldc2_w 29, 3) := by decide +kernel
theorem dX1_digestOnto_30 : decode cX1_digestOnto 30 = .ok (.lload_n 3, 1) := by decide +kernel
theorem dX1_digestOnto_31 : decode cX1_digestOnto 31 = .ok (.lmul, 1) := by decide +kernel
theorem dX1_digestOnto_32 : decode cX1_digestOnto 32 = .ok (.aload_n 0, 1) := by decide +kernel
theorem dX1_digestOnto_33 : decode cX1_digestOnto 33 = .ok (.getfield 15, 3) := by decide +kernel
theorem dX1_digestOnto_36 : decode cX1_digestOnto 36 = .ok (.iload 5, 2) := by decide +kernel
theorem dX1_digestOnto_38 : decode cX1_digestOnto 38 = .ok (.iaload, 1) := by decide +kernel
theorem dX1_digestOnto_39 : decode cX1_digestOnto 39 = .ok (.i2l, 1) := by decide +kernel
theorem dX1_digestOnto_40 : decode cX1_digestOnto 40 = .ok (.ladd, 1) := by decide +kernel
theorem dX1_digestOnto_41 : decode cX1_digestOnto 41 = .ok (.lstore_n 3, 1) := by decide +kernel
theorem dX1_digestOnto_42 : decode cX1_digestOnto 42 = .ok (.ldc2_w 29, 3) := by decide +kernel
theorem dX1_digestOnto_45 : decode cX1_digestOnto 45 = .ok (.lload_n 3, 1) := by decide +kernel
theorem dX1_digestOnto_46 : decode cX1_digestOnto 46 = .ok (.lmul, 1) := by decide +kernel
theorem dX1_digestOnto_47 : decode cX1_digestOnto 47 = .ok (.aload_n 0, 1) := by decide +kernel
theorem dX1_digestOnto_48 : decode cX1_digestOnto 48 = .ok (.getfield 18, 3) := by decide +kernel
theorem dX1_digestOnto_51 : decode cX1_digestOnto 51 = .ok (.iload 5, 2) := by decide +kernel
theorem dX1_digestOnto_53 : decode cX1_digestOnto 53 = .ok (.iaload, 1) := by decide +kernel
theorem dX1_digestOnto_54 : decode cX1_digestOnto 54 = .ok (.i2l, 1) := by decide +kernel
theorem dX1_digestOnto_55 : decode cX1_digestOnto 55 = .ok (.ladd, 1) := by decide +kernel
theorem dX1_digestOnto_56 : decode cX1_digestOnto 56 = .ok (.lstore_n 3, 1) := by decide +kernel
theorem dX1_digestOnto_57 : decode cX1_digestOnto 57 = .ok (.iinc 5 1, 3) := by decide +kernel
theorem dX1_digestOnto_60 : decode cX1_digestOnto 60 = .ok (.goto (-55), 3) := by decide +kernel
theorem dX1_digestOnto_63 : decode cX1_digestOnto 63 = .ok (.lload_n 3, 1) := by decide +kernel
theorem dX1_digestOnto_64 : decode cX1_digestOnto 64 = .ok (.lreturn, 1) := by decide +kernel
theorem dX2_init_0 : decode cX2_init 0 = .ok (.aload_n 0, 1) := by decide +kernel
theorem dX2_init_1 : decode cX2_init 1 = .ok (.invokespecial 3, 3) := by decide +kernel
theorem dX2_init_4 : decode cX2_init 4 = .ok (.aload_n 0, 1) := by decide +kernel
theorem dX2_init_5 : decode cX2_init 5 = .ok (.bipush 60, 2) := by decide +kernel
theorem dX2_init_7 : decode cX2_init 7 = .ok (.newarray .int, 2) := by decide +kernel
theorem dX2_init_9 : decode cX2_init 9 = .ok (.putfield 9, 3) := by decide +kernel
theorem dX2_init_12 : decode cX2_init 12 = .ok (.aload_n 0, 1) := by decide +kernel
theorem dX2_init_13 : decode cX2_init 13 = .ok (.bipush 60, 2) := by decide +kernel
theorem dX2_init_15 : decode cX2_init 15 = .ok (.newarray .int, 2) := by decide +kernel
theorem dX2_init_17 : decode cX2_init 17 = .ok (.putfield 15, 3) := by decide +kernel
theorem dX2_init_20 : decode cX2_init 20 = .ok (.aload_n 0, 1) := by decide +kernel
theorem dX2_init_21 : decode cX2_init 21 = .ok (.bipush 60, 2) := by decide +kernel
theorem dX2_init_23 : decode cX2_init 23 = .ok (.newarray .int, 2) := by decide +kernel
theorem dX2_init_25 : decode cX2_init 25 = .ok (.putfield 18, 3) := by decide +kernel
theorem dX2_init_28 : decode cX2_init 28 = .ok (.aload_n 0, 1) := by decide +kernel
theorem dX2_init_29 : decode cX2_init 29 = .ok (.bipush 60, 2) := by decide +kernel
theorem dX2_init_31 : decode cX2_init 31 = .ok (.newarray .int, 2) := by decide +kernel
theorem dX2_init_33 : decode cX2_init 33 = .ok (.putfield 21, 3) := by decide +kernel
theorem dX2_init_36 : decode cX2_init 36 = .ok (.aload_n 0, 1) := by decide +kernel
theorem dX2_init_37 : decode cX2_init 37 = .ok (.iconst 4, 1) := by decide +kernel
theorem dX2_init_38 : decode cX2_init 38 = .ok (.newarray .int, 2) := by decide +kernel
theorem dX2_init_40 : decode cX2_init 40 = .ok (.putfield 24, 3) := by decide +kernel
theorem dX2_init_43 : decode cX2_init 43 = .ok (.aload_n 0, 1) := by decide +kernel
theorem dX2_init_44 : decode cX2_init 44 = .ok (.iconst 4, 1) := by decide +kernel
theorem dX2_init_45 : decode cX2_init 45 = .ok (.newarray .int, 2) := by decide +kernel
theorem dX2_init_47 : decode cX2_init 47 = .ok (.putfield 27, 3) := by decide +kernel
theorem dX2_init_50 : decode cX2_init 50 = .ok (.aload_n 0, 1) := by decide +kernel
theorem dX2_init_51 : decode cX2_init 51 = .ok (.iconst 0, 1) := by decide +kernel
theorem dX2_init_52 : decode cX2_init 52 = .ok (.putfield 30, 3) := by decide +kernel
theorem dX2_init_55 : decode cX2_init 55 = .ok (.iconst 0, 1) := by decide +kernel
theorem dX2_init_56 : decode cX2_init 56 = .ok (.istore_n 1, 1) := by decide +kernel
theorem dX2_init_57 : decode cX2_init 57 = .ok (.iload_n 1, 1) := by decide +kernel
theorem dX2_init_58 : decode cX2_init 58 = .ok (.iconst 4, 1) := by decide +kernel
theorem dX2_init_59 : decode cX2_init 59 = .ok (.if_icmp .ge 25, 3) := by decide +kernel
theorem dX2_init_62 : decode cX2_init 62 = .ok (.aload_n 0, 1) := by decide +kernel
theorem dX2_init_63 : decode cX2_init 63 = .ok (.getfield 24, 3) := by decide +kernel
theorem dX2_init_66 : decode cX2_init 66 = .ok (.iload_n 1, 1) := by decide +kernel
theorem dX2_init_67 : decode cX2_init 67 = .ok (.bipush 24, 2) := by decide +kernel
theorem dX2_init_69 : decode cX2_init 69 = .ok (.iastore, 1) := by decide +kernel
theorem dX2_init_70 : decode cX2_init 70 = .ok (.aload_n 0, 1) := by decide +kernel
theorem dX2_init_71 : decode cX2_init 71 = .ok (.getfield 27, 3) := by decide +kernel
theorem dX2_init_74 : decode cX2_init 74 = .ok (.iload_n 1, 1) := by decide +kernel
theorem dX2_init_75 : decode cX2_init 75 = .ok (.ldc 34, 2) := by decide +kernel
theorem dX2_init_77 : decode cX2_init 77 = .ok (.iastore, 1) := by decide +kernel
theorem dX2_init_78 : decode cX2_init 78 = .ok (.iinc 1 1, 3) := by decide +kernel
theorem dX2_init_81 : decode cX2_init 81 = .ok (.goto (-24), 3) := by decide +kernel
theorem dX2_init_84 : decode cX2_init 84 = .ok (.return_, 1) := by decide +kernel
theorem dX2_has_0 : decode cX2_has 0 = .ok (.iload_n 1, 1) := by decide +kernel
theorem dX2_has_1 : decode cX2_has 1 = .ok (.ifCond .lt 15, 3) := by decide +kernel
theorem dX2_has_4 : decode cX2_has 4 = .ok (.iload_n 1, 1) := by decide +kernel
theorem dX2_has_5 : decode cX2_has 5 = .ok (.aload_n 0, 1) := by decide +kernel
theorem dX2_has_6 : decode cX2_has 6 = .ok (.getfield 30, 3) := by decide +kernel
theorem dX2_has_9 : decode cX2_has 9 = .ok (.if_icmp .ge 7, 3) := by decide +kernel
theorem dX2_has_12 : decode cX2_has 12 = .ok (.iconst 1, 1) := by decide +kernel
theorem dX2_has_13 : decode cX2_has 13 = .ok (.goto 4, 3) := by decide +kernel
theorem dX2_has_16 : decode cX2_has 16 = .ok (.iconst 0, 1) := by decide +kernel
theorem dX2_has_17 : decode cX2_has 17 = .ok (.ireturn, 1) := by decide +kernel
theorem dX2_add_0 : decode cX2_add 0 = .ok (.aload_n 0, 1) := by decide +kernel
theorem dX2_add_1 : decode cX2_add 1 = .ok (.getfield 30, 3) := by decide +kernel
theorem dX2_add_4 : decode cX2_add 4 = .ok (.bipush 60, 2) := by decide +kernel
theorem dX2_add_6 : decode cX2_add 6 = .ok (.if_icmp .lt 6, 3) := by decide +kernel
theorem dX2_add_9 : decode cX2_add 9 = .ok (.bipush (-4), 2) := by decide +kernel
theorem dX2_add_11 : decode cX2_add 11 = .ok (.ireturn, 1) := by decide +kernel
theorem dX2_add_12 : decode cX2_add 12 = .ok (.aload_n 0, 1) := by decide +kernel
theorem dX2_add_13 : decode cX2_add 13 = .ok (.getfield 30, 3) := by decide +kernel
theorem dX2_add_16 : decode cX2_add 16 = .ok (.istore 5, 2) := by decide +kernel
theorem dX2_add_18 : decode cX2_add 18 = .ok (.aload_n 0, 1) := by decide +kernel
theorem dX2_add_19 : decode cX2_add 19 = .ok (.getfield 9, 3) := by decide +kernel
theorem dX2_add_22 : decode cX2_add 22 = .ok (.iload 5, 2) := by decide +kernel
theorem dX2_add_24 : decode cX2_add 24 = .ok (.iload_n 1, 1) := by decide +kernel
theorem dX2_add_25 : decode cX2_add 25 = .ok (.iastore, 1) := by decide +kernel
theorem dX2_add_26 : decode cX2_add 26 = .ok (.aload_n 0, 1) := by decide +kernel
theorem dX2_add_27 : decode cX2_add 27 = .ok (.getfield 15, 3) := by decide +kernel
theorem dX2_add_30 : decode cX2_add 30 = .ok (.iload 5, 2) := by decide +kernel
theorem dX2_add_32 : decode cX2_add 32 = .ok (.iload_n 2, 1) := by decide +kernel
theorem dX2_add_33 : decode cX2_add 33 = .ok (.iastore, 1) := by decide +kernel
theorem dX2_add_34 : decode cX2_add 34 = .ok (.aload_n 0, 1) := by decide +kernel
theorem dX2_add_35 : decode cX2_add 35 = .ok (.getfield 18, 3) := by decide +kernel
theorem dX2_add_38 : decode cX2_add 38 = .ok (.iload 5, 2) := by decide +kernel
theorem dX2_add_40 : decode cX2_add 40 = .ok (.iload_n 3, 1) := by decide +kernel
theorem dX2_add_41 : decode cX2_add 41 = .ok (.iastore, 1) := by decide +kernel
theorem dX2_add_42 : decode cX2_add 42 = .ok (.aload_n 0, 1) := by decide +kernel
theorem dX2_add_43 : decode cX2_add 43 = .ok (.getfield 21, 3) := by decide +kernel
theorem dX2_add_46 : decode cX2_add 46 = .ok (.iload 5, 2) := by decide +kernel
theorem dX2_add_48 : decode cX2_add 48 = .ok (.iload 4, 2) := by decide +kernel
theorem dX2_add_50 : decode cX2_add 50 = .ok (.iastore, 1) := by decide +kernel
theorem dX2_add_51 : decode cX2_add 51 = .ok (.aload_n 0, 1) := by decide +kernel
theorem dX2_add_52 : decode cX2_add 52 = .ok (.dup, 1) := by decide +kernel
theorem dX2_add_53 : decode cX2_add 53 = .ok (.getfield 30, 3) := by decide +kernel
theorem dX2_add_56 : decode cX2_add 56 = .ok (.iconst 1, 1) := by decide +kernel
theorem dX2_add_57 : decode cX2_add 57 = .ok (.iadd, 1) := by decide +kernel
theorem dX2_add_58 : decode cX2_add 58 = .ok (.putfield 30, 3) := by decide +kernel
theorem dX2_add_61 : decode cX2_add 61 = .ok (.iload 5, 2) := by decide +kernel
theorem dX2_add_63 : decode cX2_add 63 = .ok (.ireturn, 1) := by decide +kernel
theorem dX2_covers_0 : decode cX2_covers 0 = .ok (.iload_n 2, 1) := by decide +kernel
theorem dX2_covers_1 : decode cX2_covers 1 = .ok (.aload_n 0, 1) := by decide +kernel
theorem dX2_covers_2 : decode cX2_covers 2 = .ok (.getfield 15, 3) := by decide +kernel
theorem dX2_covers_5 : decode cX2_covers 5 = .ok (.iload_n 1, 1) := by decide +kernel
theorem dX2_covers_6 : decode cX2_covers 6 = .ok (.iaload, 1) := by decide +kernel
theorem dX2_covers_7 : decode cX2_covers 7 = .ok (.isub, 1) := by decide +kernel
theorem dX2_covers_8 : decode cX2_covers 8 = .ok (.istore_n 3, 1) := by decide +kernel
theorem dX2_covers_9 : decode cX2_covers 9 = .ok (.iload_n 3, 1) := by decide +kernel
theorem dX2_covers_10 : decode cX2_covers 10 = .ok (.ifCond .lt 44, 3) := by decide +kernel
theorem dX2_covers_13 : decode cX2_covers 13 = .ok (.iload_n 3, 1) := by decide +kernel
theorem dX2_covers_14 : decode cX2_covers 14 = .ok (.aload_n 0, 1) := by decide +kernel
theorem dX2_covers_15 : decode cX2_covers 15 = .ok (.getfield 24, 3) := by decide +kernel
theorem dX2_covers_18 : decode cX2_covers 18 = .ok (.aload_n 0, 1) := by decide +kernel
theorem dX2_covers_19 : decode cX2_covers 19 = .ok (.getfield 21, 3) := by decide +kernel
theorem dX2_covers_22 : decode cX2_covers 22 = .ok (.iload_n 1, 1) := by decide +kernel
theorem dX2_covers_23 : decode cX2_covers 23 = .ok (.iaload, 1) := by decide +kernel
theorem dX2_covers_24 : decode cX2_covers 24 = .ok (.iaload, 1) := by decide +kernel
theorem dX2_covers_25 : decode cX2_covers 25 = .ok (.if_icmp .ge 29, 3) := by decide +kernel
theorem dX2_covers_28 : decode cX2_covers 28 = .ok (.iload_n 3, 1) := by decide +kernel
theorem dX2_covers_29 : decode cX2_covers 29 = .ok (.aload_n 0, 1) := by decide +kernel
theorem dX2_covers_30 : decode cX2_covers 30 = .ok (.getfield 18, 3) := by decide +kernel
theorem dX2_covers_33 : decode cX2_covers 33 = .ok (.iload_n 1, 1) := by decide +kernel
theorem dX2_covers_34 : decode cX2_covers 34 = .ok (.iaload, 1) := by decide +kernel
theorem dX2_covers_35 : decode cX2_covers 35 = .ok (.imul, 1) := by decide +kernel
theorem dX2_covers_36 : decode cX2_covers 36 = .ok (.aload_n 0, 1) := by decide +kernel
theorem dX2_covers_37 : decode cX2_covers 37 = .ok (.getfield 27, 3) := by decide +kernel
theorem dX2_covers_40 : decode cX2_covers 40 = .ok (.aload_n 0, 1) := by decide +kernel
theorem dX2_covers_41 : decode cX2_covers 41 = .ok (.getfield 21, 3) := by decide +kernel
theorem dX2_covers_44 : decode cX2_covers 44 = .ok (.iload_n 1, 1) := by decide +kernel
theorem dX2_covers_45 : decode cX2_covers 45 = .ok (.iaload, 1) := by decide +kernel
theorem dX2_covers_46 : decode cX2_covers 46 = .ok (.iaload, 1) := by decide +kernel
theorem dX2_covers_47 : decode cX2_covers 47 = .ok (.if_icmp .ge 7, 3) := by decide +kernel
theorem dX2_covers_50 : decode cX2_covers 50 = .ok (.iconst 1, 1) := by decide +kernel
theorem dX2_covers_51 : decode cX2_covers 51 = .ok (.goto 4, 3) := by decide +kernel
theorem dX2_covers_54 : decode cX2_covers 54 = .ok (.iconst 0, 1) := by decide +kernel
theorem dX2_covers_55 : decode cX2_covers 55 = .ok (.ireturn, 1) := by decide +kernel
theorem dX2_lastCovered_0 : decode cX2_lastCovered 0 = .ok (.aload_n 0, 1) := by decide +kernel
theorem dX2_lastCovered_1 : decode cX2_lastCovered 1 = .ok (.getfield 24, 3) := by decide +kernel
theorem dX2_lastCovered_4 : decode cX2_lastCovered 4 = .ok (.aload_n 0, 1) := by decide +kernel
theorem dX2_lastCovered_5 : decode cX2_lastCovered 5 = .ok (.getfield 21, 3) := by decide +kernel
theorem dX2_lastCovered_8 : decode cX2_lastCovered 8 = .ok (.iload_n 1, 1) := by decide +kernel
theorem dX2_lastCovered_9 : decode cX2_lastCovered 9 = .ok (.iaload, 1) := by decide +kernel
theorem dX2_lastCovered_10 : decode cX2_lastCovered 10 = .ok (.iaload, 1) := by decide +kernel
theorem dX2_lastCovered_11 : decode cX2_lastCovered 11 = .ok (.istore_n 2, 1) := by decide +kernel
theorem dX2_lastCovered_12 : decode cX2_lastCovered 12 = .ok (.aload_n 0, 1) := by decide +kernel
theorem dX2_lastCovered_13 : decode cX2_lastCovered 13 = .ok (.getfield 27, 3) := by decide +kernel
theorem dX2_lastCovered_16 : decode cX2_lastCovered 16 = .ok (.aload_n 0, 1) := by decide +kernel
theorem dX2_lastCovered_17 : decode cX2_lastCovered 17 = .ok (.getfield 21, 3) := by decide +kernel
theorem dX2_lastCovered_20 : decode cX2_lastCovered 20 = .ok (.iload_n 1, 1) := by decide +kernel
theorem dX2_lastCovered_21 : decode cX2_lastCovered 21 = .ok (.iaload, 1) := by decide +kernel
theorem dX2_lastCovered_22 : decode cX2_lastCovered 22 = .ok (.iaload, 1) := by decide +kernel
theorem dX2_lastCovered_23 : decode cX2_lastCovered 23 = .ok (.istore_n 3, 1) := by decide +kernel
theorem dX2_lastCovered_24 : decode cX2_lastCovered 24 = .ok (.iload_n 2, 1) := by decide +kernel
theorem dX2_lastCovered_25 : decode cX2_lastCovered 25 = .ok (.ifCond .eq 7, 3) := by decide +kernel
theorem dX2_lastCovered_28 : decode cX2_lastCovered 28 = .ok (.iload_n 3, 1) := by decide +kernel
theorem dX2_lastCovered_29 : decode cX2_lastCovered 29 = .ok (.ifCond .ne 5, 3) := by decide +kernel
theorem dX2_lastCovered_32 : decode cX2_lastCovered 32 = .ok (.iconst (-1), 1) := by decide +kernel
theorem dX2_lastCovered_33 : decode cX2_lastCovered 33 = .ok (.ireturn, 1) := by decide +kernel
theorem dX2_lastCovered_34 : decode cX2_lastCovered 34 = .ok (.iload_n 2, 1) := by decide +kernel
theorem dX2_lastCovered_35 : decode cX2_lastCovered 35 = .ok (.iconst 1, 1) := by decide +kernel
theorem dX2_lastCovered_36 : decode cX2_lastCovered 36 = .ok (.isub, 1) := by decide +kernel
theorem dX2_lastCovered_37 : decode cX2_lastCovered 37 = .ok (.istore 4, 2) := by decide +kernel
theorem dX2_lastCovered_39 : decode cX2_lastCovered 39 = .ok (.aload_n 0, 1) := by decide +kernel
theorem dX2_lastCovered_40 : decode cX2_lastCovered 40 = .ok (.getfield 18, 3) := by decide +kernel
theorem dX2_lastCovered_43 : decode cX2_lastCovered 43 = .ok (.iload_n 1, 1) := by decide +kernel
theorem dX2_lastCovered_44 : decode cX2_lastCovered 44 = .ok (.iaload, 1) := by decide +kernel
theorem dX2_lastCovered_45 : decode cX2_lastCovered 45 = .ok (.ifCond .le 20, 3) := by decide +kernel
theorem dX2_lastCovered_48 : decode cX2_lastCovered 48 = .ok (.iload 4, 2) := by decide +kernel
theorem dX2_lastCovered_50 : decode cX2_lastCovered 50 = .ok (.iload_n 3, 1) := by decide +kernel
theorem dX2_lastCovered_51 : decode cX2_lastCovered 51 = .ok (.iconst 1, 1) := by decide +kernel
theorem dX2_lastCovered_52 : decode cX2_lastCovered 52 = .ok (.isub, 1) := by decide +kernel
theorem dX2_lastCovered_53 : decode cX2_lastCovered 53 = .ok (.aload_n 0, 1) := by decide +kernel
theorem dX2_lastCovered_54 : decode cX2_lastCovered 54 = .ok (.getfield 18, 3) := by decide +kernel
theorem dX2_lastCovered_57 : decode cX2_lastCovered 57 = .ok (.iload_n 1, 1) := by decide +kernel
theorem dX2_lastCovered_58 : decode cX2_lastCovered 58 = .ok (.iaload, 1) := by decide +kernel
theorem dX2_lastCovered_59 : decode cX2_lastCovered 59 = .ok (.idiv, 1) := by decide +kernel
theorem dX2_lastCovered_60 : decode cX2_lastCovered 60 = .ok (.invokestatic 35, 3) := by decide +kernel
theorem dX2_lastCovered_63 : decode cX2_lastCovered 63 = .ok (.istore 4, 2) := by decide +kernel
theorem dX2_lastCovered_65 : decode cX2_lastCovered 65 = .ok (.aload_n 0, 1) := by decide +kernel
theorem dX2_lastCovered_66 : decode cX2_lastCovered 66 = .ok (.getfield 15, 3) := by decide +kernel
theorem dX2_lastCovered_69 : decode cX2_lastCovered 69 = .ok (.iload_n 1, 1) := by decide +kernel
theorem dX2_lastCovered_70 : decode cX2_lastCovered 70 = .ok (.iaload, 1) := by decide +kernel
theorem dX2_lastCovered_71 : decode cX2_lastCovered 71 = .ok (.iload 4, 2) := by decide +kernel
theorem dX2_lastCovered_73 : decode cX2_lastCovered 73 = .ok (.iadd, 1) := by decide +kernel
theorem dX2_lastCovered_74 : decode cX2_lastCovered 74 = .ok (.ireturn, 1) := by decide +kernel
set_option maxRecDepth 20000 in
theorem ggX2_coveredAtAge_X2_covers : GoodIn wsX2_coveredAtAge wsX2_covers := goodIn_r _ [7, 2, 8, 9, 10, 11, 12, 13, 14, 15, 16, 17, 18] (by decide +kernel) (by decide +kernel)
set_option maxRecDepth 20000 in
theorem gX2_coveredAtAge_X2_covers : GoodIn wsX2_coveredAtAge (wsV RX2 41 RX2 yX2_covers wsX2_covers) := goodIn_app (goodIn_of _ (by decide +kernel)) ggX2_coveredAtAge_X2_covers
theorem dX2_coveredAtAge_0 : decode cX2_coveredAtAge 0 = .ok (.iconst 0, 1) := by decide +kernel
theorem dX2_coveredAtAge_1 : decode cX2_coveredAtAge 1 = .ok (.istore_n 3, 1) := by decide +kernel
theorem dX2_coveredAtAge_2 : decode cX2_coveredAtAge 2 = .ok (.iconst 0, 1) := by decide +kernel
theorem dX2_coveredAtAge_3 : decode cX2_coveredAtAge 3 = .ok (.istore 4, 2) := by decide +kernel
theorem dX2_coveredAtAge_5 : decode cX2_coveredAtAge 5 = .ok (.iload 4, 2) := by decide +kernel
theorem dX2_coveredAtAge_7 : decode cX2_coveredAtAge 7 = .ok (.aload_n 0, 1) := by decide +kernel
theorem dX2_coveredAtAge_8 : decode cX2_coveredAtAge 8 = .ok (.getfield 30, 3) := by decide +kernel
theorem dX2_coveredAtAge_11 : decode cX2_coveredAtAge 11 = .ok (.if_icmp .ge 40, 3) := by decide +kernel
theorem dX2_coveredAtAge_14 : decode cX2_coveredAtAge 14 = .ok (.aload_n 0, 1) := by decide +kernel
theorem dX2_coveredAtAge_15 : decode cX2_coveredAtAge 15 = .ok (.getfield 15, 3) := by decide +kernel
theorem dX2_coveredAtAge_18 : decode cX2_coveredAtAge 18 = .ok (.iload 4, 2) := by decide +kernel
theorem dX2_coveredAtAge_20 : decode cX2_coveredAtAge 20 = .ok (.iaload, 1) := by decide +kernel
theorem dX2_coveredAtAge_21 : decode cX2_coveredAtAge 21 = .ok (.iload_n 1, 1) := by decide +kernel
theorem dX2_coveredAtAge_22 : decode cX2_coveredAtAge 22 = .ok (.iadd, 1) := by decide +kernel
theorem dX2_coveredAtAge_23 : decode cX2_coveredAtAge 23 = .ok (.istore 5, 2) := by decide +kernel
theorem dX2_coveredAtAge_25 : decode cX2_coveredAtAge 25 = .ok (.iload 5, 2) := by decide +kernel
theorem dX2_coveredAtAge_27 : decode cX2_coveredAtAge 27 = .ok (.iload_n 2, 1) := by decide +kernel
theorem dX2_coveredAtAge_28 : decode cX2_coveredAtAge 28 = .ok (.if_icmp .gt 17, 3) := by decide +kernel
theorem dX2_coveredAtAge_31 : decode cX2_coveredAtAge 31 = .ok (.aload_n 0, 1) := by decide +kernel
theorem dX2_coveredAtAge_32 : decode cX2_coveredAtAge 32 = .ok (.iload 4, 2) := by decide +kernel
theorem dX2_coveredAtAge_34 : decode cX2_coveredAtAge 34 = .ok (.iload 5, 2) := by decide +kernel
theorem dX2_coveredAtAge_36 : decode cX2_coveredAtAge 36 = .ok (.invokevirtual 41, 3) := by decide +kernel
theorem dX2_coveredAtAge_39 : decode cX2_coveredAtAge 39 = .ok (.ifCond .eq 6, 3) := by decide +kernel
theorem dX2_coveredAtAge_42 : decode cX2_coveredAtAge 42 = .ok (.iinc 3 1, 3) := by decide +kernel
theorem dX2_coveredAtAge_45 : decode cX2_coveredAtAge 45 = .ok (.iinc 4 1, 3) := by decide +kernel
theorem dX2_coveredAtAge_48 : decode cX2_coveredAtAge 48 = .ok (.goto (-43), 3) := by decide +kernel
theorem dX2_coveredAtAge_51 : decode cX2_coveredAtAge 51 = .ok (.iload_n 3, 1) := by decide +kernel
theorem dX2_coveredAtAge_52 : decode cX2_coveredAtAge 52 = .ok (.ireturn, 1) := by decide +kernel
set_option maxRecDepth 20000 in
theorem ggX2_ofBatch_X2_soldOf : GoodIn wsX2_ofBatch wsX2_soldOf := goodIn_r _ [5, 6, 7, 8, 9, 10, 11, 12, 13, 14, 15, 16, 17, 18] (by decide +kernel) (by decide +kernel)
set_option maxRecDepth 20000 in
theorem gX2_ofBatch_X2_soldOf : GoodIn wsX2_ofBatch (wsV RX2 45 RX2 yX2_soldOf wsX2_soldOf) := goodIn_app (goodIn_of _ (by decide +kernel)) ggX2_ofBatch_X2_soldOf
theorem dX2_ofBatch_0 : decode cX2_ofBatch 0 = .ok (.aload_n 0, 1) := by decide +kernel
theorem dX2_ofBatch_1 : decode cX2_ofBatch 1 = .ok (.iconst 1, 1) := by decide +kernel
theorem dX2_ofBatch_2 : decode cX2_ofBatch 2 = .ok (.iload_n 1, 1) := by decide +kernel
theorem dX2_ofBatch_3 : decode cX2_ofBatch 3 = .ok (.ishl, 1) := by decide +kernel
theorem dX2_ofBatch_4 : decode cX2_ofBatch 4 = .ok (.iconst 0, 1) := by decide +kernel
theorem dX2_ofBatch_5 : decode cX2_ofBatch 5 = .ok (.bipush 119, 2) := by decide +kernel
theorem dX2_ofBatch_7 : decode cX2_ofBatch 7 = .ok (.invokevirtual 45, 3) := by decide +kernel
theorem dX2_ofBatch_10 : decode cX2_ofBatch 10 = .ok (.lreturn, 1) := by decide +kernel
set_option maxRecDepth 20000 in
theorem ggX2_soldOf_X4_hasBit : GoodIn wsX2_soldOf wsX4_hasBit := goodIn_r _ [6] (by decide +kernel) (by decide +kernel)
set_option maxRecDepth 20000 in
theorem gX2_soldOf_X4_hasBit_n49 : GoodIn wsX2_soldOf (wsX4_hasBit) := ggX2_soldOf_X4_hasBit
theorem dX2_soldOf_0 : decode cX2_soldOf 0 = .ok (.lconst 0, 1) := by decide +kernel
theorem dX2_soldOf_1 : decode cX2_soldOf 1 = .ok (.lstore 4, 2) := by decide +kernel
theorem dX2_soldOf_3 : decode cX2_soldOf 3 = .ok (.iconst 0, 1) := by decide +kernel
theorem dX2_soldOf_4 : decode cX2_soldOf 4 = .ok (.istore 6, 2) := by decide +kernel
theorem dX2_soldOf_6 : decode cX2_soldOf 6 = .ok (.iload 6, 2) := by decide +kernel
theorem dX2_soldOf_8 : decode cX2_soldOf 8 = .ok (.aload_n 0, 1) := by decide +kernel
theorem dX2_soldOf_9 : decode cX2_soldOf 9 = .ok (.getfield 30, 3) := by decide +kernel
theorem dX2_soldOf_12 : decode cX2_soldOf 12 = .ok (.if_icmp .ge 55, 3) := by decide +kernel
theorem dX2_soldOf_15 : decode cX2_soldOf 15 = .ok (.iload_n 1, 1) := by decide +kernel
theorem dX2_soldOf_16 : decode cX2_soldOf 16 = .ok (.i2l, 1) := by decide +kernel
theorem dX2_soldOf_17 : decode cX2_soldOf 17 = .ok (.aload_n 0, 1) := by decide +kernel
theorem dX2_soldOf_18 : decode cX2_soldOf 18 = .ok (.getfield 9, 3) := by decide +kernel
theorem dX2_soldOf_21 : decode cX2_soldOf 21 = .ok (.iload 6, 2) := by decide +kernel
theorem dX2_soldOf_23 : decode cX2_soldOf 23 = .ok (.iaload, 1) := by decide +kernel
theorem dX2_soldOf_24 : decode cX2_soldOf 24 = .ok (.invokestatic 49, 3) := by decide +kernel
theorem dX2_soldOf_27 : decode cX2_soldOf 27 = .ok (.ifCond .eq 34, 3) := by decide +kernel
theorem dX2_soldOf_30 : decode cX2_soldOf 30 = .ok (.aload_n 0, 1) := by decide +kernel
theorem dX2_soldOf_31 : decode cX2_soldOf 31 = .ok (.getfield 15, 3) := by decide +kernel
theorem dX2_soldOf_34 : decode cX2_soldOf 34 = .ok (.iload 6, 2) := by decide +kernel
theorem dX2_soldOf_36 : decode cX2_soldOf 36 = .ok (.iaload, 1) := by decide +kernel
theorem dX2_soldOf_37 : decode cX2_soldOf 37 = .ok (.iload_n 2, 1) := by decide +kernel
theorem dX2_soldOf_38 : decode cX2_soldOf 38 = .ok (.if_icmp .lt 23, 3) := by decide +kernel
theorem dX2_soldOf_41 : decode cX2_soldOf 41 = .ok (.aload_n 0, 1) := by decide +kernel
theorem dX2_soldOf_42 : decode cX2_soldOf 42 = .ok (.getfield 15, 3) := by decide +kernel
theorem dX2_soldOf_45 : decode cX2_soldOf 45 = .ok (.iload 6, 2) := by decide +kernel
theorem dX2_soldOf_47 : decode cX2_soldOf 47 = .ok (.iaload, 1) := by decide +kernel
theorem dX2_soldOf_48 : decode cX2_soldOf 48 = .ok (.iload_n 3, 1) := by decide +kernel
theorem dX2_soldOf_49 : decode cX2_soldOf 49 = .ok (.if_icmp .gt 12, 3) := by decide +kernel
theorem dX2_soldOf_52 : decode cX2_soldOf 52 = .ok (.lload 4, 2) := by decide +kernel
theorem dX2_soldOf_54 : decode cX2_soldOf 54 = .ok (.lconst 1, 1) := by decide +kernel
theorem dX2_soldOf_55 : decode cX2_soldOf 55 = .ok (.iload 6, 2) := by decide +kernel
theorem dX2_soldOf_57 : decode cX2_soldOf 57 = .ok (.lshl, 1) := by decide +kernel
theorem dX2_soldOf_58 : decode cX2_soldOf 58 = .ok (.lor, 1) := by decide +kernel
theorem dX2_soldOf_59 : decode cX2_soldOf 59 = .ok (.lstore 4, 2) := by decide +kernel
theorem dX2_soldOf_61 : decode cX2_soldOf 61 = .ok (.iinc 6 1, 3) := by decide +kernel
theorem dX2_soldOf_64 : decode cX2_soldOf 64 = .ok (.goto (-58), 3) := by decide +kernel
theorem dX2_soldOf_67 : decode cX2_soldOf 67 = .ok (.lload 4, 2) := by decide +kernel
theorem dX2_soldOf_69 : decode cX2_soldOf 69 = .ok (.lreturn, 1) := by decide +kernel
set_option maxRecDepth 20000 in
theorem ggX2_digestOnto_X2_lastCovered : GoodIn wsX2_digestOnto wsX2_lastCovered := goodIn_r _ [11, 12, 6, 13, 5, 14, 15, 16, 17, 4, 18, 19, 20, 21, 22, 23, 24] (by decide +kernel) (by decide +kernel)
set_option maxRecDepth 20000 in
theorem gX2_digestOnto_X2_lastCovered : GoodIn wsX2_digestOnto (wsV RX2 55 RX2 yX2_lastCovered wsX2_lastCovered) := goodIn_app (goodIn_of _ (by decide +kernel)) ggX2_digestOnto_X2_lastCovered
theorem dX2_digestOnto_0 : decode cX2_digestOnto 0 = .ok (.lload_n 1, 1) := by decide +kernel
theorem dX2_digestOnto_1 : decode cX2_digestOnto 1 = .ok (.lstore_n 3, 1) := by decide +kernel
theorem dX2_digestOnto_2 : decode cX2_digestOnto 2 = .ok (.iconst 0, 1) := by decide +kernel
theorem dX2_digestOnto_3 : decode cX2_digestOnto 3 = .ok (.istore 5, 2) := by decide +kernel
theorem dX2_digestOnto_5 : decode cX2_digestOnto 5 = .ok (.iload 5, 2) := by decide +kernel
theorem dX2_digestOnto_7 : decode cX2_digestOnto 7 = .ok (.aload_n 0, 1) := by decide +kernel
theorem dX2_digestOnto_8 : decode cX2_digestOnto 8 = .ok (.getfield 30, 3) := by decide +kernel
theorem dX2_digestOnto_11 : decode cX2_digestOnto 11 = .ok (.if_icmp .ge 83, 3) := by decide +kernel
theorem dX2_digestOnto_14 : decode cX2_digestOnto 14 = .ok (.ldc2_w 53, 3) := by decide +kernel
theorem dX2_digestOnto_17 : decode cX2_digestOnto 17 = .ok (.lload_n 3, 1) := by decide +kernel
theorem dX2_digestOnto_18 : decode cX2_digestOnto 18 = .ok (.lmul, 1) := by decide +kernel
theorem dX2_digestOnto_19 : decode cX2_digestOnto 19 = .ok (.aload_n 0, 1) := by decide +kernel
theorem dX2_digestOnto_20 : decode cX2_digestOnto 20 = .ok (.getfield 9, 3) := by decide +kernel
theorem dX2_digestOnto_23 : decode cX2_digestOnto 23 = .ok (.iload 5, 2) := by decide +kernel
theorem dX2_digestOnto_25 : decode cX2_digestOnto 25 = .ok (.iaload, 1) := by decide +kernel
theorem dX2_digestOnto_26 : decode cX2_digestOnto 26 = .ok (.i2l, 1) := by decide +kernel
theorem dX2_digestOnto_27 : decode cX2_digestOnto 27 = .ok (.ladd, 1) := by decide +kernel
theorem dX2_digestOnto_28 : decode cX2_digestOnto 28 = .ok (.lstore_n 3, 1) := by decide +kernel
theorem dX2_digestOnto_29 : decode cX2_digestOnto 29 = .ok (.ldc2_w 53, 3) := by decide +kernel
theorem dX2_digestOnto_32 : decode cX2_digestOnto 32 = .ok (.lload_n 3, 1) := by decide +kernel
theorem dX2_digestOnto_33 : decode cX2_digestOnto 33 = .ok (.lmul, 1) := by decide +kernel
theorem dX2_digestOnto_34 : decode cX2_digestOnto 34 = .ok (.aload_n 0, 1) := by decide +kernel
theorem dX2_digestOnto_35 : decode cX2_digestOnto 35 = .ok (.getfield 15, 3) := by decide +kernel
theorem dX2_digestOnto_38 : decode cX2_digestOnto 38 = .ok (.iload 5, 2) := by decide +kernel
theorem dX2_digestOnto_40 : decode cX2_digestOnto 40 = .ok (.iaload, 1) := by decide +kernel
theorem dX2_digestOnto_41 : decode cX2_digestOnto 41 = .ok (.i2l, 1) := by decide +kernel
theorem dX2_digestOnto_42 : decode cX2_digestOnto 42 = .ok (.ladd, 1) := by decide +kernel
theorem dX2_digestOnto_43 : decode cX2_digestOnto 43 = .ok (.lstore_n 3, 1) := by decide +kernel
theorem dX2_digestOnto_44 : decode cX2_digestOnto 44 = .ok (.ldc2_w 53, 3) := by decide +kernel
theorem dX2_digestOnto_47 : decode cX2_digestOnto 47 = .ok (.lload_n 3, 1) := by decide +kernel
theorem dX2_digestOnto_48 : decode cX2_digestOnto 48 = .ok (.lmul, 1) := by decide +kernel
theorem dX2_digestOnto_49 : decode cX2_digestOnto 49 = .ok (.aload_n 0, 1) := by decide +kernel
theorem dX2_digestOnto_50 : decode cX2_digestOnto 50 = .ok (.getfield 18, 3) := by decide +kernel
theorem dX2_digestOnto_53 : decode cX2_digestOnto 53 = .ok (.iload 5, 2) := by decide +kernel
theorem dX2_digestOnto_55 : decode cX2_digestOnto 55 = .ok (.iaload, 1) := by decide +kernel
theorem dX2_digestOnto_56 : decode cX2_digestOnto 56 = .ok (.i2l, 1) := by decide +kernel
theorem dX2_digestOnto_57 : decode cX2_digestOnto 57 = .ok (.ladd, 1) := by decide +kernel
theorem dX2_digestOnto_58 : decode cX2_digestOnto 58 = .ok (.lstore_n 3, 1) := by decide +kernel
theorem dX2_digestOnto_59 : decode cX2_digestOnto 59 = .ok (.ldc2_w 53, 3) := by decide +kernel
theorem dX2_digestOnto_62 : decode cX2_digestOnto 62 = .ok (.lload_n 3, 1) := by decide +kernel
theorem dX2_digestOnto_63 : decode cX2_digestOnto 63 = .ok (.lmul, 1) := by decide +kernel
theorem dX2_digestOnto_64 : decode cX2_digestOnto 64 = .ok (.aload_n 0, 1) := by decide +kernel
theorem dX2_digestOnto_65 : decode cX2_digestOnto 65 = .ok (.getfield 21, 3) := by decide +kernel
theorem dX2_digestOnto_68 : decode cX2_digestOnto 68 = .ok (.iload 5, 2) := by decide +kernel
theorem dX2_digestOnto_70 : decode cX2_digestOnto 70 = .ok (.iaload, 1) := by decide +kernel
theorem dX2_digestOnto_71 : decode cX2_digestOnto 71 = .ok (.i2l, 1) := by decide +kernel
theorem dX2_digestOnto_72 : decode cX2_digestOnto 72 = .ok (.ladd, 1) := by decide +kernel
theorem dX2_digestOnto_73 : decode cX2_digestOnto 73 = .ok (.lstore_n 3, 1) := by decide +kernel
theorem dX2_digestOnto_74 : decode cX2_digestOnto 74 = .ok (.ldc2_w 53, 3) := by decide +kernel
theorem dX2_digestOnto_77 : decode cX2_digestOnto 77 = .ok (.lload_n 3, 1) := by decide +kernel
theorem dX2_digestOnto_78 : decode cX2_digestOnto 78 = .ok (.lmul, 1) := by decide +kernel
theorem dX2_digestOnto_79 : decode cX2_digestOnto 79 = .ok (.aload_n 0, 1) := by decide +kernel
theorem dX2_digestOnto_80 : decode cX2_digestOnto 80 = .ok (.iload 5, 2) := by decide +kernel
theorem dX2_digestOnto_82 : decode cX2_digestOnto 82 = .ok (.invokevirtual 55, 3) := by decide +kernel
theorem dX2_digestOnto_85 : decode cX2_digestOnto 85 = .ok (.i2l, 1) := by decide +kernel
theorem dX2_digestOnto_86 : decode cX2_digestOnto 86 = .ok (.ladd, 1) := by decide +kernel
theorem dX2_digestOnto_87 : decode cX2_digestOnto 87 = .ok (.lstore_n 3, 1) := by decide +kernel
theorem dX2_digestOnto_88 : decode cX2_digestOnto 88 = .ok (.iinc 5 1, 3) := by decide +kernel
theorem dX2_digestOnto_91 : decode cX2_digestOnto 91 = .ok (.goto (-86), 3) := by decide +kernel
theorem dX2_digestOnto_94 : decode cX2_digestOnto 94 = .ok (.lload_n 3, 1) := by decide +kernel
theorem dX2_digestOnto_95 : decode cX2_digestOnto 95 = .ok (.lreturn, 1) := by decide +kernel
theorem dX3_init_0 : decode cX3_init 0 = .ok (.aload_n 0, 1) := by decide +kernel
theorem dX3_init_1 : decode cX3_init 1 = .ok (.invokespecial 3, 3) := by decide +kernel
theorem dX3_init_4 : decode cX3_init 4 = .ok (.aload_n 0, 1) := by decide +kernel
theorem dX3_init_5 : decode cX3_init 5 = .ok (.bipush 61, 2) := by decide +kernel
theorem dX3_init_7 : decode cX3_init 7 = .ok (.bipush 61, 2) := by decide +kernel
theorem dX3_init_9 : decode cX3_init 9 = .ok (.multianewarray 9 2, 4) := by decide +kernel
theorem dX3_init_13 : decode cX3_init 13 = .ok (.putfield 11, 3) := by decide +kernel
theorem dX3_init_16 : decode cX3_init 16 = .ok (.iconst 0, 1) := by decide +kernel
theorem dX3_init_17 : decode cX3_init 17 = .ok (.istore_n 1, 1) := by decide +kernel
theorem dX3_init_18 : decode cX3_init 18 = .ok (.iload_n 1, 1) := by decide +kernel
theorem dX3_init_19 : decode cX3_init 19 = .ok (.bipush 60, 2) := by decide +kernel
theorem dX3_init_21 : decode cX3_init 21 = .ok (.if_icmp .gt 62, 3) := by decide +kernel
theorem dX3_init_24 : decode cX3_init 24 = .ok (.aload_n 0, 1) := by decide +kernel
theorem dX3_init_25 : decode cX3_init 25 = .ok (.getfield 11, 3) := by decide +kernel
theorem dX3_init_28 : decode cX3_init 28 = .ok (.iload_n 1, 1) := by decide +kernel
theorem dX3_init_29 : decode cX3_init 29 = .ok (.aaload, 1) := by decide +kernel
theorem dX3_init_30 : decode cX3_init 30 = .ok (.iconst 0, 1) := by decide +kernel
theorem dX3_init_31 : decode cX3_init 31 = .ok (.lconst 1, 1) := by decide +kernel
theorem dX3_init_32 : decode cX3_init 32 = .ok (.lastore, 1) := by decide +kernel
theorem dX3_init_33 : decode cX3_init 33 = .ok (.iconst 1, 1) := by decide +kernel
theorem dX3_init_34 : decode cX3_init 34 = .ok (.istore_n 2, 1) := by decide +kernel
theorem dX3_init_35 : decode cX3_init 35 = .ok (.iload_n 2, 1) := by decide +kernel
theorem dX3_init_36 : decode cX3_init 36 = .ok (.iload_n 1, 1) := by decide +kernel
theorem dX3_init_37 : decode cX3_init 37 = .ok (.if_icmp .gt 40, 3) := by decide +kernel
theorem dX3_init_40 : decode cX3_init 40 = .ok (.aload_n 0, 1) := by decide +kernel
theorem dX3_init_41 : decode cX3_init 41 = .ok (.getfield 11, 3) := by decide +kernel
theorem dX3_init_44 : decode cX3_init 44 = .ok (.iload_n 1, 1) := by decide +kernel
theorem dX3_init_45 : decode cX3_init 45 = .ok (.aaload, 1) := by decide +kernel
theorem dX3_init_46 : decode cX3_init 46 = .ok (.iload_n 2, 1) := by decide +kernel
theorem dX3_init_47 : decode cX3_init 47 = .ok (.aload_n 0, 1) := by decide +kernel
theorem dX3_init_48 : decode cX3_init 48 = .ok (.getfield 11, 3) := by decide +kernel
theorem dX3_init_51 : decode cX3_init 51 = .ok (.iload_n 1, 1) := by decide +kernel
theorem dX3_init_52 : decode cX3_init 52 = .ok (.iconst 1, 1) := by decide +kernel
theorem dX3_init_53 : decode cX3_init 53 = .ok (.isub, 1) := by decide +kernel
theorem dX3_init_54 : decode cX3_init 54 = .ok (.aaload, 1) := by decide +kernel
theorem dX3_init_55 : decode cX3_init 55 = .ok (.iload_n 2, 1) := by decide +kernel
theorem dX3_init_56 : decode cX3_init 56 = .ok (.iconst 1, 1) := by decide +kernel
theorem dX3_init_57 : decode cX3_init 57 = .ok (.isub, 1) := by decide +kernel
theorem dX3_init_58 : decode cX3_init 58 = .ok (.laload, 1) := by decide +kernel
theorem dX3_init_59 : decode cX3_init 59 = .ok (.aload_n 0, 1) := by decide +kernel
theorem dX3_init_60 : decode cX3_init 60 = .ok (.getfield 11, 3) := by decide +kernel
theorem dX3_init_63 : decode cX3_init 63 = .ok (.iload_n 1, 1) := by decide +kernel
theorem dX3_init_64 : decode cX3_init 64 = .ok (.iconst 1, 1) := by decide +kernel
theorem dX3_init_65 : decode cX3_init 65 = .ok (.isub, 1) := by decide +kernel
theorem dX3_init_66 : decode cX3_init 66 = .ok (.aaload, 1) := by decide +kernel
theorem dX3_init_67 : decode cX3_init 67 = .ok (.iload_n 2, 1) := by decide +kernel
theorem dX3_init_68 : decode cX3_init 68 = .ok (.laload, 1) := by decide +kernel
theorem dX3_init_69 : decode cX3_init 69 = .ok (.ladd, 1) := by decide +kernel
theorem dX3_init_70 : decode cX3_init 70 = .ok (.lastore, 1) := by decide +kernel
theorem dX3_init_71 : decode cX3_init 71 = .ok (.iinc 2 1, 3) := by decide +kernel
theorem dX3_init_74 : decode cX3_init 74 = .ok (.goto (-39), 3) := by decide +kernel
theorem dX3_init_77 : decode cX3_init 77 = .ok (.iinc 1 1, 3) := by decide +kernel
theorem dX3_init_80 : decode cX3_init 80 = .ok (.goto (-62), 3) := by decide +kernel
theorem dX3_init_83 : decode cX3_init 83 = .ok (.return_, 1) := by decide +kernel
theorem dX3_choose_0 : decode cX3_choose 0 = .ok (.iload_n 1, 1) := by decide +kernel
theorem dX3_choose_1 : decode cX3_choose 1 = .ok (.ifCond .lt 18, 3) := by decide +kernel
theorem dX3_choose_4 : decode cX3_choose 4 = .ok (.iload_n 1, 1) := by decide +kernel
theorem dX3_choose_5 : decode cX3_choose 5 = .ok (.bipush 60, 2) := by decide +kernel
theorem dX3_choose_7 : decode cX3_choose 7 = .ok (.if_icmp .gt 12, 3) := by decide +kernel
theorem dX3_choose_10 : decode cX3_choose 10 = .ok (.iload_n 2, 1) := by decide +kernel
theorem dX3_choose_11 : decode cX3_choose 11 = .ok (.ifCond .lt 8, 3) := by decide +kernel
theorem dX3_choose_14 : decode cX3_choose 14 = .ok (.iload_n 2, 1) := by decide +kernel
theorem dX3_choose_15 : decode cX3_choose 15 = .ok (.iload_n 1, 1) := by decide +kernel
theorem dX3_choose_16 : decode cX3_choose 16 = .ok (.if_icmp .le 5, 3) := by decide +kernel
theorem dX3_choose_19 : decode cX3_choose 19 = .ok (.lconst 0, 1) := by decide +kernel
theorem dX3_choose_20 : decode cX3_choose 20 = .ok (.lreturn, 1) := by decide +kernel
theorem dX3_choose_21 : decode cX3_choose 21 = .ok (.aload_n 0, 1) := by decide +kernel
theorem dX3_choose_22 : decode cX3_choose 22 = .ok (.getfield 11, 3) := by decide +kernel
theorem dX3_choose_25 : decode cX3_choose 25 = .ok (.iload_n 1, 1) := by decide +kernel
theorem dX3_choose_26 : decode cX3_choose 26 = .ok (.aaload, 1) := by decide +kernel
theorem dX3_choose_27 : decode cX3_choose 27 = .ok (.iload_n 2, 1) := by decide +kernel
theorem dX3_choose_28 : decode cX3_choose 28 = .ok (.laload, 1) := by decide +kernel
theorem dX3_choose_29 : decode cX3_choose 29 = .ok (.lreturn, 1) := by decide +kernel
set_option maxRecDepth 20000 in
theorem ggX3_withAtLeast_X3_choose : GoodIn wsX3_withAtLeast wsX3_choose := goodIn_r _ [5, 6, 7] (by decide +kernel) (by decide +kernel)
set_option maxRecDepth 20000 in
theorem gX3_withAtLeast_X3_choose : GoodIn wsX3_withAtLeast (wsV RX3 16 RX3 yX3_choose wsX3_choose) := goodIn_app (goodIn_of _ (by decide +kernel)) ggX3_withAtLeast_X3_choose
theorem dX3_withAtLeast_0 : decode cX3_withAtLeast 0 = .ok (.lconst 0, 1) := by decide +kernel
theorem dX3_withAtLeast_1 : decode cX3_withAtLeast 1 = .ok (.lstore 5, 2) := by decide +kernel
theorem dX3_withAtLeast_3 : decode cX3_withAtLeast 3 = .ok (.iload_n 1, 1) := by decide +kernel
theorem dX3_withAtLeast_4 : decode cX3_withAtLeast 4 = .ok (.istore 7, 2) := by decide +kernel
theorem dX3_withAtLeast_6 : decode cX3_withAtLeast 6 = .ok (.iload 7, 2) := by decide +kernel
theorem dX3_withAtLeast_8 : decode cX3_withAtLeast 8 = .ok (.iload_n 3, 1) := by decide +kernel
theorem dX3_withAtLeast_9 : decode cX3_withAtLeast 9 = .ok (.if_icmp .gt 40, 3) := by decide +kernel
theorem dX3_withAtLeast_12 : decode cX3_withAtLeast 12 = .ok (.iload 7, 2) := by decide +kernel
theorem dX3_withAtLeast_14 : decode cX3_withAtLeast 14 = .ok (.iload_n 2, 1) := by decide +kernel
theorem dX3_withAtLeast_15 : decode cX3_withAtLeast 15 = .ok (.if_icmp .gt 34, 3) := by decide +kernel
theorem dX3_withAtLeast_18 : decode cX3_withAtLeast 18 = .ok (.lload 5, 2) := by decide +kernel
theorem dX3_withAtLeast_20 : decode cX3_withAtLeast 20 = .ok (.aload_n 0, 1) := by decide +kernel
theorem dX3_withAtLeast_21 : decode cX3_withAtLeast 21 = .ok (.iload_n 3, 1) := by decide +kernel
theorem dX3_withAtLeast_22 : decode cX3_withAtLeast 22 = .ok (.iload 7, 2) := by decide +kernel
theorem dX3_withAtLeast_24 : decode cX3_withAtLeast 24 = .ok (.invokevirtual 16, 3) := by decide +kernel
theorem dX3_withAtLeast_27 : decode cX3_withAtLeast 27 = .ok (.aload_n 0, 1) := by decide +kernel
theorem dX3_withAtLeast_28 : decode cX3_withAtLeast 28 = .ok (.iload 4, 2) := by decide +kernel
theorem dX3_withAtLeast_30 : decode cX3_withAtLeast 30 = .ok (.iload_n 3, 1) := by decide +kernel
theorem dX3_withAtLeast_31 : decode cX3_withAtLeast 31 = .ok (.isub, 1) := by decide +kernel
theorem dX3_withAtLeast_32 : decode cX3_withAtLeast 32 = .ok (.iload_n 2, 1) := by decide +kernel
theorem dX3_withAtLeast_33 : decode cX3_withAtLeast 33 = .ok (.iload 7, 2) := by decide +kernel
theorem dX3_withAtLeast_35 : decode cX3_withAtLeast 35 = .ok (.isub, 1) := by decide +kernel
theorem dX3_withAtLeast_36 : decode cX3_withAtLeast 36 = .ok (.invokevirtual 16, 3) := by decide +kernel
theorem dX3_withAtLeast_39 : decode cX3_withAtLeast 39 = .ok (.lmul, 1) := by decide +kernel
theorem dX3_withAtLeast_40 : decode cX3_withAtLeast 40 = .ok (.ladd, 1) := by decide +kernel
theorem dX3_withAtLeast_41 : decode cX3_withAtLeast 41 = .ok (.lstore 5, 2) := by decide +kernel
theorem dX3_withAtLeast_43 : decode cX3_withAtLeast 43 = .ok (.iinc 7 1, 3) := by decide +kernel
theorem dX3_withAtLeast_46 : decode cX3_withAtLeast 46 = .ok (.goto (-40), 3) := by decide +kernel
theorem dX3_withAtLeast_49 : decode cX3_withAtLeast 49 = .ok (.lload 5, 2) := by decide +kernel
theorem dX3_withAtLeast_51 : decode cX3_withAtLeast 51 = .ok (.lreturn, 1) := by decide +kernel
set_option maxRecDepth 20000 in
theorem ggX4_init_X2_init : GoodIn wsX4_init wsX2_init := goodIn_r _ [23, 24, 2, 3, 25, 26, 27, 28, 29, 30, 31, 32, 33, 59, 60, 61, 62, 63, 64, 65] (by decide +kernel) (by decide +kernel)
set_option maxRecDepth 20000 in
theorem gX4_init_X2_init : GoodIn wsX4_init (wsX2_init) := ggX4_init_X2_init
set_option maxRecDepth 20000 in
theorem ggX4_init_X0_init : GoodIn wsX4_init wsX0_init := goodIn_r _ [35, 36, 2, 3, 25, 37, 38, 39, 40, 41, 42, 43, 44, 71, 72, 73, 74, 75, 76, 77, 78] (by decide +kernel) (by decide +kernel)
set_option maxRecDepth 20000 in
theorem gX4_init_X0_init_n18 : GoodIn wsX4_init (wsX0_init) := ggX4_init_X0_init
set_option maxRecDepth 20000 in
theorem ggX4_init_X1_init : GoodIn wsX4_init wsX1_init := goodIn_r _ [47, 48, 2, 3, 25, 49, 50, 51, 79, 80, 81] (by decide +kernel) (by decide +kernel)
set_option maxRecDepth 20000 in
theorem gX4_init_X1_init : GoodIn wsX4_init (wsX1_init) := ggX4_init_X1_init
set_option maxRecDepth 20000 in
theorem ggX4_init_X3_init : GoodIn wsX4_init wsX3_init := goodIn_r _ [54, 55, 2, 3, 56, 57, 58, 82] (by decide +kernel) (by decide +kernel)
set_option maxRecDepth 20000 in
theorem gX4_init_X3_init : GoodIn wsX4_init (wsX3_init) := ggX4_init_X3_init
theorem dX4_init_0 : decode cX4_init 0 = .ok (.aload_n 0, 1) := by decide +kernel
theorem dX4_init_1 : decode cX4_init 1 = .ok (.invokespecial 3, 3) := by decide +kernel
theorem dX4_init_4 : decode cX4_init 4 = .ok (.aload_n 0, 1) := by decide +kernel
theorem dX4_init_5 : decode cX4_init 5 = .ok (.new 9, 3) := by decide +kernel
theorem dX4_init_8 : decode cX4_init 8 = .ok (.dup, 1) := by decide +kernel
theorem dX4_init_9 : decode cX4_init 9 = .ok (.invokespecial 11, 3) := by decide +kernel
theorem dX4_init_12 : decode cX4_init 12 = .ok (.putfield 12, 3) := by decide +kernel
theorem dX4_init_15 : decode cX4_init 15 = .ok (.aload_n 0, 1) := by decide +kernel
theorem dX4_init_16 : decode cX4_init 16 = .ok (.new 16, 3) := by decide +kernel
theorem dX4_init_19 : decode cX4_init 19 = .ok (.dup, 1) := by decide +kernel
theorem dX4_init_20 : decode cX4_init 20 = .ok (.invokespecial 18, 3) := by decide +kernel
theorem dX4_init_23 : decode cX4_init 23 = .ok (.putfield 19, 3) := by decide +kernel
theorem dX4_init_26 : decode cX4_init 26 = .ok (.aload_n 0, 1) := by decide +kernel
theorem dX4_init_27 : decode cX4_init 27 = .ok (.new 23, 3) := by decide +kernel
theorem dX4_init_30 : decode cX4_init 30 = .ok (.dup, 1) := by decide +kernel
theorem dX4_init_31 : decode cX4_init 31 = .ok (.invokespecial 25, 3) := by decide +kernel
theorem dX4_init_34 : decode cX4_init 34 = .ok (.putfield 26, 3) := by decide +kernel
theorem dX4_init_37 : decode cX4_init 37 = .ok (.aload_n 0, 1) := by decide +kernel
theorem dX4_init_38 : decode cX4_init 38 = .ok (.new 30, 3) := by decide +kernel
theorem dX4_init_41 : decode cX4_init 41 = .ok (.dup, 1) := by decide +kernel
theorem dX4_init_42 : decode cX4_init 42 = .ok (.invokespecial 32, 3) := by decide +kernel
theorem dX4_init_45 : decode cX4_init 45 = .ok (.putfield 33, 3) := by decide +kernel
theorem dX4_init_48 : decode cX4_init 48 = .ok (.aload_n 0, 1) := by decide +kernel
theorem dX4_init_49 : decode cX4_init 49 = .ok (.iconst 1, 1) := by decide +kernel
theorem dX4_init_50 : decode cX4_init 50 = .ok (.putfield 37, 3) := by decide +kernel
theorem dX4_init_53 : decode cX4_init 53 = .ok (.return_, 1) := by decide +kernel
set_option maxRecDepth 20000 in
theorem ggX4_thing_X4_isBatch : GoodIn wsX4_thing wsX4_isBatch := goodIn_r _ [5, 6, 7, 4, 8] (by decide +kernel) (by decide +kernel)
set_option maxRecDepth 20000 in
theorem gX4_thing_X4_isBatch : GoodIn wsX4_thing (va_wsS RX4 41 yX4_isBatch wsX4_isBatch) := goodIn_app (goodIn_of _ (by decide +kernel)) ggX4_thing_X4_isBatch
set_option maxRecDepth 20000 in
theorem ggX4_thing_X4_isSaleMonth : GoodIn wsX4_thing wsX4_isSaleMonth := goodIn_r _ [11, 6, 7, 4, 8] (by decide +kernel) (by decide +kernel)
set_option maxRecDepth 20000 in
theorem gX4_thing_X4_isSaleMonth : GoodIn wsX4_thing (va_wsS RX4 45 yX4_isSaleMonth wsX4_isSaleMonth) := goodIn_app (goodIn_of _ (by decide +kernel)) ggX4_thing_X4_isSaleMonth
set_option maxRecDepth 20000 in
theorem ggX4_thing_X4_isWithin : GoodIn wsX4_thing wsX4_isWithin := goodIn_r _ [8] (by decide +kernel) (by decide +kernel)
set_option maxRecDepth 20000 in
theorem gX4_thing_X4_isWithin : GoodIn wsX4_thing (va_wsS RX4 48 yX4_isWithin wsX4_isWithin) := goodIn_app (goodIn_of _ (by decide +kernel)) ggX4_thing_X4_isWithin
set_option maxRecDepth 20000 in
theorem ggX4_thing_X4_isLand : GoodIn wsX4_thing wsX4_isLand := goodIn_r _ [14, 6, 7, 4, 8] (by decide +kernel) (by decide +kernel)
set_option maxRecDepth 20000 in
theorem gX4_thing_X4_isLand : GoodIn wsX4_thing (va_wsS RX4 52 yX4_isLand wsX4_isLand) := goodIn_app (goodIn_of _ (by decide +kernel)) ggX4_thing_X4_isLand
set_option maxRecDepth 20000 in
theorem ggX4_thing_X2_add : GoodIn wsX4_thing wsX2_add := goodIn_r _ [19, 20, 21, 22, 23, 24, 30, 31, 32, 33, 34, 35, 36] (by decide +kernel) (by decide +kernel)
set_option maxRecDepth 20000 in
theorem gX4_thing_X2_add : GoodIn wsX4_thing (wsV RX4 55 RX2 yX2_add wsX2_add) := goodIn_app (goodIn_of _ (by decide +kernel)) ggX4_thing_X2_add
theorem dX4_thing_0 : decode cX4_thing 0 = .ok (.iload_n 1, 1) := by decide +kernel
theorem dX4_thing_1 : decode cX4_thing 1 = .ok (.invokestatic 41, 3) := by decide +kernel
theorem dX4_thing_4 : decode cX4_thing 4 = .ok (.ifCond .eq 10, 3) := by decide +kernel
theorem dX4_thing_7 : decode cX4_thing 7 = .ok (.iload_n 2, 1) := by decide +kernel
theorem dX4_thing_8 : decode cX4_thing 8 = .ok (.invokestatic 45, 3) := by decide +kernel
theorem dX4_thing_11 : decode cX4_thing 11 = .ok (.ifCond .ne 6, 3) := by decide +kernel
theorem dX4_thing_14 : decode cX4_thing 14 = .ok (.bipush (-2), 2) := by decide +kernel
theorem dX4_thing_16 : decode cX4_thing 16 = .ok (.ireturn, 1) := by decide +kernel
theorem dX4_thing_17 : decode cX4_thing 17 = .ok (.iload_n 3, 1) := by decide +kernel
theorem dX4_thing_18 : decode cX4_thing 18 = .ok (.iconst 0, 1) := by decide +kernel
theorem dX4_thing_19 : decode cX4_thing 19 = .ok (.sipush 5000, 3) := by decide +kernel
theorem dX4_thing_22 : decode cX4_thing 22 = .ok (.invokestatic 48, 3) := by decide +kernel
theorem dX4_thing_25 : decode cX4_thing 25 = .ok (.ifCond .eq 11, 3) := by decide +kernel
theorem dX4_thing_28 : decode cX4_thing 28 = .ok (.iload 4, 2) := by decide +kernel
theorem dX4_thing_30 : decode cX4_thing 30 = .ok (.invokestatic 52, 3) := by decide +kernel
theorem dX4_thing_33 : decode cX4_thing 33 = .ok (.ifCond .ne 6, 3) := by decide +kernel
theorem dX4_thing_36 : decode cX4_thing 36 = .ok (.bipush (-2), 2) := by decide +kernel
theorem dX4_thing_38 : decode cX4_thing 38 = .ok (.ireturn, 1) := by decide +kernel
theorem dX4_thing_39 : decode cX4_thing 39 = .ok (.aload_n 0, 1) := by decide +kernel
theorem dX4_thing_40 : decode cX4_thing 40 = .ok (.getfield 12, 3) := by decide +kernel
theorem dX4_thing_43 : decode cX4_thing 43 = .ok (.iload_n 1, 1) := by decide +kernel
theorem dX4_thing_44 : decode cX4_thing 44 = .ok (.iload_n 2, 1) := by decide +kernel
theorem dX4_thing_45 : decode cX4_thing 45 = .ok (.iload_n 3, 1) := by decide +kernel
theorem dX4_thing_46 : decode cX4_thing 46 = .ok (.iload 4, 2) := by decide +kernel
theorem dX4_thing_48 : decode cX4_thing 48 = .ok (.invokevirtual 55, 3) := by decide +kernel
theorem dX4_thing_51 : decode cX4_thing 51 = .ok (.ireturn, 1) := by decide +kernel
set_option maxRecDepth 20000 in
theorem ggX4_promise_X4_isLand : GoodIn wsX4_promise wsX4_isLand := goodIn_r _ [6, 7, 8, 5, 9] (by decide +kernel) (by decide +kernel)
set_option maxRecDepth 20000 in
theorem gX4_promise_X4_isLand : GoodIn wsX4_promise (va_wsS RX4 52 yX4_isLand wsX4_isLand) := goodIn_app (goodIn_of _ (by decide +kernel)) ggX4_promise_X4_isLand
set_option maxRecDepth 20000 in
theorem ggX4_promise_X4_isWithin : GoodIn wsX4_promise wsX4_isWithin := goodIn_r _ [9] (by decide +kernel) (by decide +kernel)
end
section
set_option maxRecDepth 20000 in
theorem gX4_promise_X4_isWithin : GoodIn wsX4_promise (va_wsS RX4 48 yX4_isWithin wsX4_isWithin) := goodIn_app (goodIn_of _ (by decide +kernel)) ggX4_promise_X4_isWithin
theorem dX4_promise_0 : decode cX4_promise 0 = .ok (.iload_n 1, 1) := by decide +kernel
theorem dX4_promise_1 : decode cX4_promise 1 = .ok (.invokestatic 52, 3) := by decide +kernel
theorem dX4_promise_4 : decode cX4_promise 4 = .ok (.ifCond .eq 13, 3) := by decide +kernel
theorem dX4_promise_7 : decode cX4_promise 7 = .ok (.iload_n 2, 1) := by decide +kernel
theorem dX4_promise_8 : decode cX4_promise 8 = .ok (.iconst 0, 1) := by decide +kernel
theorem dX4_promise_9 : decode cX4_promise 9 = .ok (.bipush 120, 2) := by decide +kernel
theorem dX4_promise_11 : decode cX4_promise 11 = .ok (.invokestatic 48, 3) := by decide +kernel
theorem dX4_promise_14 : decode cX4_promise 14 = .ok (.ifCond .ne 6, 3) := by decide +kernel
theorem dX4_promise_17 : decode cX4_promise 17 = .ok (.bipush (-2), 2) := by decide +kernel
theorem dX4_promise_19 : decode cX4_promise 19 = .ok (.ireturn, 1) := by decide +kernel
theorem dX4_promise_20 : decode cX4_promise 20 = .ok (.iload_n 3, 1) := by decide +kernel
theorem dX4_promise_21 : decode cX4_promise 21 = .ok (.iconst 0, 1) := by decide +kernel
theorem dX4_promise_22 : decode cX4_promise 22 = .ok (.ldc 59, 2) := by decide +kernel
theorem dX4_promise_24 : decode cX4_promise 24 = .ok (.invokestatic 48, 3) := by decide +kernel
theorem dX4_promise_27 : decode cX4_promise 27 = .ok (.ifCond .ne 6, 3) := by decide +kernel
theorem dX4_promise_30 : decode cX4_promise 30 = .ok (.bipush (-2), 2) := by decide +kernel
theorem dX4_promise_32 : decode cX4_promise 32 = .ok (.ireturn, 1) := by decide +kernel
theorem dX4_promise_33 : decode cX4_promise 33 = .ok (.aload_n 0, 1) := by decide +kernel
theorem dX4_promise_34 : decode cX4_promise 34 = .ok (.getfield 12, 3) := by decide +kernel
theorem dX4_promise_37 : decode cX4_promise 37 = .ok (.getfield 60, 3) := by decide +kernel
theorem dX4_promise_40 : decode cX4_promise 40 = .ok (.iload_n 1, 1) := by decide +kernel
theorem dX4_promise_41 : decode cX4_promise 41 = .ok (.iload_n 2, 1) := by decide +kernel
theorem dX4_promise_42 : decode cX4_promise 42 = .ok (.iastore, 1) := by decide +kernel
theorem dX4_promise_43 : decode cX4_promise 43 = .ok (.aload_n 0, 1) := by decide +kernel
theorem dX4_promise_44 : decode cX4_promise 44 = .ok (.getfield 12, 3) := by decide +kernel
theorem dX4_promise_47 : decode cX4_promise 47 = .ok (.getfield 64, 3) := by decide +kernel
theorem dX4_promise_50 : decode cX4_promise 50 = .ok (.iload_n 1, 1) := by decide +kernel
theorem dX4_promise_51 : decode cX4_promise 51 = .ok (.iload_n 3, 1) := by decide +kernel
theorem dX4_promise_52 : decode cX4_promise 52 = .ok (.iastore, 1) := by decide +kernel
theorem dX4_promise_53 : decode cX4_promise 53 = .ok (.iconst 1, 1) := by decide +kernel
theorem dX4_promise_54 : decode cX4_promise 54 = .ok (.ireturn, 1) := by decide +kernel
set_option maxRecDepth 20000 in
theorem ggX4_again_X4_isWithin : GoodIn wsX4_again wsX4_isWithin := goodIn_r _ [5] (by decide +kernel) (by decide +kernel)
set_option maxRecDepth 20000 in
theorem gX4_again_X4_isWithin : GoodIn wsX4_again (va_wsS RX4 48 yX4_isWithin wsX4_isWithin) := goodIn_app (goodIn_of _ (by decide +kernel)) ggX4_again_X4_isWithin
theorem dX4_again_0 : decode cX4_again 0 = .ok (.iload_n 1, 1) := by decide +kernel
theorem dX4_again_1 : decode cX4_again 1 = .ok (.iconst 0, 1) := by decide +kernel
theorem dX4_again_2 : decode cX4_again 2 = .ok (.bipush 12, 2) := by decide +kernel
theorem dX4_again_4 : decode cX4_again 4 = .ok (.invokestatic 48, 3) := by decide +kernel
theorem dX4_again_7 : decode cX4_again 7 = .ok (.ifCond .ne 6, 3) := by decide +kernel
theorem dX4_again_10 : decode cX4_again 10 = .ok (.bipush (-2), 2) := by decide +kernel
theorem dX4_again_12 : decode cX4_again 12 = .ok (.ireturn, 1) := by decide +kernel
theorem dX4_again_13 : decode cX4_again 13 = .ok (.aload_n 0, 1) := by decide +kernel
theorem dX4_again_14 : decode cX4_again 14 = .ok (.getfield 37, 3) := by decide +kernel
theorem dX4_again_17 : decode cX4_again 17 = .ok (.istore_n 2, 1) := by decide +kernel
theorem dX4_again_18 : decode cX4_again 18 = .ok (.aload_n 0, 1) := by decide +kernel
theorem dX4_again_19 : decode cX4_again 19 = .ok (.iload_n 1, 1) := by decide +kernel
theorem dX4_again_20 : decode cX4_again 20 = .ok (.putfield 37, 3) := by decide +kernel
theorem dX4_again_23 : decode cX4_again 23 = .ok (.iload_n 2, 1) := by decide +kernel
theorem dX4_again_24 : decode cX4_again 24 = .ok (.ireturn, 1) := by decide +kernel
set_option maxRecDepth 20000 in
theorem ggX4_promised_X2_has : GoodIn wsX4_promised wsX2_has := goodIn_r _ [6, 7, 29, 30, 31, 32, 33, 34, 35] (by decide +kernel) (by decide +kernel)
set_option maxRecDepth 20000 in
theorem gX4_promised_X2_has : GoodIn wsX4_promised (wsV RX4 67 RX2 yX2_has wsX2_has) := goodIn_app (goodIn_of _ (by decide +kernel)) ggX4_promised_X2_has
set_option maxRecDepth 20000 in
theorem ggX4_promised_X4_isMonth : GoodIn wsX4_promised wsX4_isMonth := goodIn_r _ [11, 12, 13, 10, 14] (by decide +kernel) (by decide +kernel)
set_option maxRecDepth 20000 in
theorem gX4_promised_X4_isMonth : GoodIn wsX4_promised (va_wsS RX4 70 yX4_isMonth wsX4_isMonth) := goodIn_app (goodIn_of _ (by decide +kernel)) ggX4_promised_X4_isMonth
set_option maxRecDepth 20000 in
theorem ggX4_promised_X2_covers : GoodIn wsX4_promised wsX2_covers := goodIn_r _ [18, 19, 20, 21, 22, 23, 29, 30, 31, 32, 33, 34, 35] (by decide +kernel) (by decide +kernel)
set_option maxRecDepth 20000 in
theorem gX4_promised_X2_covers : GoodIn wsX4_promised (wsV RX4 73 RX2 yX2_covers wsX2_covers) := goodIn_app (goodIn_of _ (by decide +kernel)) ggX4_promised_X2_covers
theorem dX4_promised_0 : decode cX4_promised 0 = .ok (.aload_n 0, 1) := by decide +kernel
theorem dX4_promised_1 : decode cX4_promised 1 = .ok (.getfield 12, 3) := by decide +kernel
theorem dX4_promised_4 : decode cX4_promised 4 = .ok (.iload_n 1, 1) := by decide +kernel
theorem dX4_promised_5 : decode cX4_promised 5 = .ok (.invokevirtual 67, 3) := by decide +kernel
theorem dX4_promised_8 : decode cX4_promised 8 = .ok (.ifCond .eq 10, 3) := by decide +kernel
theorem dX4_promised_11 : decode cX4_promised 11 = .ok (.iload_n 2, 1) := by decide +kernel
theorem dX4_promised_12 : decode cX4_promised 12 = .ok (.invokestatic 70, 3) := by decide +kernel
theorem dX4_promised_15 : decode cX4_promised 15 = .ok (.ifCond .ne 6, 3) := by decide +kernel
theorem dX4_promised_18 : decode cX4_promised 18 = .ok (.bipush (-2), 2) := by decide +kernel
theorem dX4_promised_20 : decode cX4_promised 20 = .ok (.ireturn, 1) := by decide +kernel
theorem dX4_promised_21 : decode cX4_promised 21 = .ok (.aload_n 0, 1) := by decide +kernel
theorem dX4_promised_22 : decode cX4_promised 22 = .ok (.getfield 12, 3) := by decide +kernel
theorem dX4_promised_25 : decode cX4_promised 25 = .ok (.iload_n 1, 1) := by decide +kernel
theorem dX4_promised_26 : decode cX4_promised 26 = .ok (.iload_n 2, 1) := by decide +kernel
theorem dX4_promised_27 : decode cX4_promised 27 = .ok (.invokevirtual 73, 3) := by decide +kernel
theorem dX4_promised_30 : decode cX4_promised 30 = .ok (.ifCond .eq 7, 3) := by decide +kernel
theorem dX4_promised_33 : decode cX4_promised 33 = .ok (.iconst 1, 1) := by decide +kernel
theorem dX4_promised_34 : decode cX4_promised 34 = .ok (.goto 4, 3) := by decide +kernel
theorem dX4_promised_37 : decode cX4_promised 37 = .ok (.iconst 0, 1) := by decide +kernel
theorem dX4_promised_38 : decode cX4_promised 38 = .ok (.ireturn, 1) := by decide +kernel
set_option maxRecDepth 20000 in
theorem ggX4_last_X2_has : GoodIn wsX4_last wsX2_has := goodIn_r _ [6, 7, 26, 27, 28, 29, 30, 31, 32] (by decide +kernel) (by decide +kernel)
set_option maxRecDepth 20000 in
theorem gX4_last_X2_has : GoodIn wsX4_last (wsV RX4 67 RX2 yX2_has wsX2_has) := goodIn_app (goodIn_of _ (by decide +kernel)) ggX4_last_X2_has
set_option maxRecDepth 20000 in
theorem ggX4_last_X2_lastCovered : GoodIn wsX4_last wsX2_lastCovered := goodIn_r _ [11, 12, 13, 14, 15, 16, 17, 18, 19, 20, 26, 27, 28, 29, 30, 31, 32] (by decide +kernel) (by decide +kernel)
set_option maxRecDepth 20000 in
theorem gX4_last_X2_lastCovered : GoodIn wsX4_last (wsV RX4 77 RX2 yX2_lastCovered wsX2_lastCovered) := goodIn_app (goodIn_of _ (by decide +kernel)) ggX4_last_X2_lastCovered
theorem dX4_last_0 : decode cX4_last 0 = .ok (.aload_n 0, 1) := by decide +kernel
theorem dX4_last_1 : decode cX4_last 1 = .ok (.getfield 12, 3) := by decide +kernel
theorem dX4_last_4 : decode cX4_last 4 = .ok (.iload_n 1, 1) := by decide +kernel
theorem dX4_last_5 : decode cX4_last 5 = .ok (.invokevirtual 67, 3) := by decide +kernel
theorem dX4_last_8 : decode cX4_last 8 = .ok (.ifCond .eq 14, 3) := by decide +kernel
theorem dX4_last_11 : decode cX4_last 11 = .ok (.aload_n 0, 1) := by decide +kernel
theorem dX4_last_12 : decode cX4_last 12 = .ok (.getfield 12, 3) := by decide +kernel
theorem dX4_last_15 : decode cX4_last 15 = .ok (.iload_n 1, 1) := by decide +kernel
theorem dX4_last_16 : decode cX4_last 16 = .ok (.invokevirtual 77, 3) := by decide +kernel
theorem dX4_last_19 : decode cX4_last 19 = .ok (.goto 5, 3) := by decide +kernel
theorem dX4_last_22 : decode cX4_last 22 = .ok (.bipush (-2), 2) := by decide +kernel
theorem dX4_last_24 : decode cX4_last 24 = .ok (.ireturn, 1) := by decide +kernel
set_option maxRecDepth 20000 in
theorem ggX4_claim_X2_has : GoodIn wsX4_claim wsX2_has := goodIn_r _ [7, 8, 55, 56, 57, 58, 59, 60, 61] (by decide +kernel) (by decide +kernel)
set_option maxRecDepth 20000 in
theorem gX4_claim_X2_has : GoodIn wsX4_claim (wsV RX4 67 RX2 yX2_has wsX2_has) := goodIn_app (goodIn_of _ (by decide +kernel)) ggX4_claim_X2_has
set_option maxRecDepth 20000 in
theorem ggX4_claim_X4_isPart : GoodIn wsX4_claim wsX4_isPart := goodIn_r _ [12, 13, 14, 11, 15] (by decide +kernel) (by decide +kernel)
set_option maxRecDepth 20000 in
theorem gX4_claim_X4_isPart : GoodIn wsX4_claim (va_wsS RX4 81 yX4_isPart wsX4_isPart) := goodIn_app (goodIn_of _ (by decide +kernel)) ggX4_claim_X4_isPart
set_option maxRecDepth 20000 in
theorem ggX4_claim_X4_isMonth : GoodIn wsX4_claim wsX4_isMonth := goodIn_r _ [18, 13, 14, 11, 15] (by decide +kernel) (by decide +kernel)
set_option maxRecDepth 20000 in
theorem gX4_claim_X4_isMonth : GoodIn wsX4_claim (va_wsS RX4 70 yX4_isMonth wsX4_isMonth) := goodIn_app (goodIn_of _ (by decide +kernel)) ggX4_claim_X4_isMonth
set_option maxRecDepth 20000 in
theorem ggX4_claim_X4_isWithin : GoodIn wsX4_claim wsX4_isWithin := goodIn_r _ [15] (by decide +kernel) (by decide +kernel)
set_option maxRecDepth 20000 in
theorem gX4_claim_X4_isWithin : GoodIn wsX4_claim (va_wsS RX4 48 yX4_isWithin wsX4_isWithin) := goodIn_app (goodIn_of _ (by decide +kernel)) ggX4_claim_X4_isWithin
set_option maxRecDepth 20000 in
theorem ggX4_claim_X4_judge : GoodIn wsX4_claim wsX4_judge := goodIn_r _ [22, 1, 2, 23, 24, 25, 26, 27, 28, 29, 30, 31, 32, 33, 34, 35, 36, 6, 37, 38, 39, 40, 41, 42, 50, 51, 52, 53, 54, 55, 56, 57, 58, 59, 60, 61, 62, 63, 64, 65, 66, 67, 68, 69] (by decide +kernel) (by decide +kernel)
set_option maxRecDepth 20000 in
theorem gX4_claim_X4_judge : GoodIn wsX4_claim (wsV RX4 87 RX4 yX4_judge wsX4_judge) := goodIn_app (goodIn_of _ (by decide +kernel)) ggX4_claim_X4_judge
set_option maxRecDepth 20000 in
theorem ggX4_claim_X0_add : GoodIn wsX4_claim wsX0_add := goodIn_r _ [46, 29, 30, 31, 33, 47, 48, 49, 32, 62, 63, 64, 65, 66, 67, 68, 69] (by decide +kernel) (by decide +kernel)
set_option maxRecDepth 20000 in
theorem gX4_claim_X0_add : GoodIn wsX4_claim (wsV RX4 91 RX0 yX0_add wsX0_add) := goodIn_app (goodIn_of _ (by decide +kernel)) ggX4_claim_X0_add
theorem dX4_claim_0 : decode cX4_claim 0 = .ok (.aload_n 0, 1) := by decide +kernel
theorem dX4_claim_1 : decode cX4_claim 1 = .ok (.getfield 12, 3) := by decide +kernel
theorem dX4_claim_4 : decode cX4_claim 4 = .ok (.iload_n 1, 1) := by decide +kernel
theorem dX4_claim_5 : decode cX4_claim 5 = .ok (.invokevirtual 67, 3) := by decide +kernel
theorem dX4_claim_8 : decode cX4_claim 8 = .ok (.ifCond .eq 10, 3) := by decide +kernel
theorem dX4_claim_11 : decode cX4_claim 11 = .ok (.iload_n 2, 1) := by decide +kernel
theorem dX4_claim_12 : decode cX4_claim 12 = .ok (.invokestatic 81, 3) := by decide +kernel
theorem dX4_claim_15 : decode cX4_claim 15 = .ok (.ifCond .ne 6, 3) := by decide +kernel
theorem dX4_claim_18 : decode cX4_claim 18 = .ok (.bipush (-2), 2) := by decide +kernel
theorem dX4_claim_20 : decode cX4_claim 20 = .ok (.ireturn, 1) := by decide +kernel
theorem dX4_claim_21 : decode cX4_claim 21 = .ok (.iload_n 3, 1) := by decide +kernel
theorem dX4_claim_22 : decode cX4_claim 22 = .ok (.invokestatic 70, 3) := by decide +kernel
theorem dX4_claim_25 : decode cX4_claim 25 = .ok (.ifCond .eq 17, 3) := by decide +kernel
theorem dX4_claim_28 : decode cX4_claim 28 = .ok (.iload 4, 2) := by decide +kernel
theorem dX4_claim_30 : decode cX4_claim 30 = .ok (.invokestatic 70, 3) := by decide +kernel
theorem dX4_claim_33 : decode cX4_claim 33 = .ok (.ifCond .eq 9, 3) := by decide +kernel
theorem dX4_claim_36 : decode cX4_claim 36 = .ok (.iload 4, 2) := by decide +kernel
theorem dX4_claim_38 : decode cX4_claim 38 = .ok (.iload_n 3, 1) := by decide +kernel
theorem dX4_claim_39 : decode cX4_claim 39 = .ok (.if_icmp .ge 6, 3) := by decide +kernel
theorem dX4_claim_42 : decode cX4_claim 42 = .ok (.bipush (-2), 2) := by decide +kernel
theorem dX4_claim_44 : decode cX4_claim 44 = .ok (.ireturn, 1) := by decide +kernel
theorem dX4_claim_45 : decode cX4_claim 45 = .ok (.iload 5, 2) := by decide +kernel
theorem dX4_claim_47 : decode cX4_claim 47 = .ok (.iconst 0, 1) := by decide +kernel
theorem dX4_claim_48 : decode cX4_claim 48 = .ok (.sipush 10000, 3) := by decide +kernel
theorem dX4_claim_51 : decode cX4_claim 51 = .ok (.invokestatic 48, 3) := by decide +kernel
theorem dX4_claim_54 : decode cX4_claim 54 = .ok (.ifCond .ne 6, 3) := by decide +kernel
theorem dX4_claim_57 : decode cX4_claim 57 = .ok (.bipush (-2), 2) := by decide +kernel
theorem dX4_claim_59 : decode cX4_claim 59 = .ok (.ireturn, 1) := by decide +kernel
theorem dX4_claim_60 : decode cX4_claim 60 = .ok (.iload_n 3, 1) := by decide +kernel
theorem dX4_claim_61 : decode cX4_claim 61 = .ok (.aload_n 0, 1) := by decide +kernel
theorem dX4_claim_62 : decode cX4_claim 62 = .ok (.getfield 12, 3) := by decide +kernel
theorem dX4_claim_65 : decode cX4_claim 65 = .ok (.getfield 84, 3) := by decide +kernel
theorem dX4_claim_68 : decode cX4_claim 68 = .ok (.iload_n 1, 1) := by decide +kernel
theorem dX4_claim_69 : decode cX4_claim 69 = .ok (.iaload, 1) := by decide +kernel
theorem dX4_claim_70 : decode cX4_claim 70 = .ok (.isub, 1) := by decide +kernel
theorem dX4_claim_71 : decode cX4_claim 71 = .ok (.istore 6, 2) := by decide +kernel
theorem dX4_claim_73 : decode cX4_claim 73 = .ok (.aload_n 0, 1) := by decide +kernel
theorem dX4_claim_74 : decode cX4_claim 74 = .ok (.getfield 19, 3) := by decide +kernel
theorem dX4_claim_77 : decode cX4_claim 77 = .ok (.iload_n 1, 1) := by decide +kernel
theorem dX4_claim_78 : decode cX4_claim 78 = .ok (.iload_n 2, 1) := by decide +kernel
theorem dX4_claim_79 : decode cX4_claim 79 = .ok (.iload_n 3, 1) := by decide +kernel
theorem dX4_claim_80 : decode cX4_claim 80 = .ok (.iload 4, 2) := by decide +kernel
theorem dX4_claim_82 : decode cX4_claim 82 = .ok (.iload 5, 2) := by decide +kernel
theorem dX4_claim_84 : decode cX4_claim 84 = .ok (.iload 6, 2) := by decide +kernel
theorem dX4_claim_86 : decode cX4_claim 86 = .ok (.aload_n 0, 1) := by decide +kernel
theorem dX4_claim_87 : decode cX4_claim 87 = .ok (.iload_n 1, 1) := by decide +kernel
theorem dX4_claim_88 : decode cX4_claim 88 = .ok (.iload_n 2, 1) := by decide +kernel
theorem dX4_claim_89 : decode cX4_claim 89 = .ok (.iload_n 3, 1) := by decide +kernel
theorem dX4_claim_90 : decode cX4_claim 90 = .ok (.invokevirtual 87, 3) := by decide +kernel
theorem dX4_claim_93 : decode cX4_claim 93 = .ok (.invokevirtual 91, 3) := by decide +kernel
theorem dX4_claim_96 : decode cX4_claim 96 = .ok (.ireturn, 1) := by decide +kernel
set_option maxRecDepth 20000 in
theorem ggX4_about_X4_isWithin : GoodIn wsX4_about wsX4_isWithin := goodIn_r _ [5] (by decide +kernel) (by decide +kernel)
set_option maxRecDepth 20000 in
theorem gX4_about_X4_isWithin : GoodIn wsX4_about (va_wsS RX4 48 yX4_isWithin wsX4_isWithin) := goodIn_app (goodIn_of _ (by decide +kernel)) ggX4_about_X4_isWithin
set_option maxRecDepth 20000 in
theorem ggX4_about_X0_tell : GoodIn wsX4_about wsX0_tell := goodIn_r _ [10, 11, 12, 13, 14, 15, 16, 17, 18, 19, 9, 20, 26, 27, 28, 29, 30, 31, 32, 33] (by decide +kernel) (by decide +kernel)
set_option maxRecDepth 20000 in
theorem gX4_about_X0_tell : GoodIn wsX4_about (wsV RX4 97 RX0 yX0_tell wsX0_tell) := goodIn_app (goodIn_of _ (by decide +kernel)) ggX4_about_X0_tell
theorem dX4_about_0 : decode cX4_about 0 = .ok (.iload_n 1, 1) := by decide +kernel
theorem dX4_about_1 : decode cX4_about 1 = .ok (.ifCond .lt 13, 3) := by decide +kernel
theorem dX4_about_4 : decode cX4_about 4 = .ok (.iload_n 2, 1) := by decide +kernel
theorem dX4_about_5 : decode cX4_about 5 = .ok (.iconst 0, 1) := by decide +kernel
theorem dX4_about_6 : decode cX4_about 6 = .ok (.bipush 6, 2) := by decide +kernel
theorem dX4_about_8 : decode cX4_about 8 = .ok (.invokestatic 48, 3) := by decide +kernel
theorem dX4_about_11 : decode cX4_about 11 = .ok (.ifCond .ne 6, 3) := by decide +kernel
theorem dX4_about_14 : decode cX4_about 14 = .ok (.bipush (-2), 2) := by decide +kernel
theorem dX4_about_16 : decode cX4_about 16 = .ok (.ireturn, 1) := by decide +kernel
theorem dX4_about_17 : decode cX4_about 17 = .ok (.iload_n 1, 1) := by decide +kernel
theorem dX4_about_18 : decode cX4_about 18 = .ok (.aload_n 0, 1) := by decide +kernel
theorem dX4_about_19 : decode cX4_about 19 = .ok (.getfield 19, 3) := by decide +kernel
theorem dX4_about_22 : decode cX4_about 22 = .ok (.getfield 94, 3) := by decide +kernel
theorem dX4_about_25 : decode cX4_about 25 = .ok (.if_icmp .ge 15, 3) := by decide +kernel
theorem dX4_about_28 : decode cX4_about 28 = .ok (.aload_n 0, 1) := by decide +kernel
theorem dX4_about_29 : decode cX4_about 29 = .ok (.getfield 19, 3) := by decide +kernel
theorem dX4_about_32 : decode cX4_about 32 = .ok (.iload_n 1, 1) := by decide +kernel
theorem dX4_about_33 : decode cX4_about 33 = .ok (.iload_n 2, 1) := by decide +kernel
theorem dX4_about_34 : decode cX4_about 34 = .ok (.invokevirtual 97, 3) := by decide +kernel
theorem dX4_about_37 : decode cX4_about 37 = .ok (.goto 4, 3) := by decide +kernel
theorem dX4_about_40 : decode cX4_about 40 = .ok (.iconst (-1), 1) := by decide +kernel
theorem dX4_about_41 : decode cX4_about 41 = .ok (.ireturn, 1) := by decide +kernel
set_option maxRecDepth 20000 in
theorem ggX4_table_X4_isSaleMonth : GoodIn wsX4_table wsX4_isSaleMonth := goodIn_r _ [5, 6, 7, 4, 8] (by decide +kernel) (by decide +kernel)
set_option maxRecDepth 20000 in
theorem gX4_table_X4_isSaleMonth : GoodIn wsX4_table (va_wsS RX4 45 yX4_isSaleMonth wsX4_isSaleMonth) := goodIn_app (goodIn_of _ (by decide +kernel)) ggX4_table_X4_isSaleMonth
set_option maxRecDepth 20000 in
theorem ggX4_table_X4_isMonth : GoodIn wsX4_table wsX4_isMonth := goodIn_r _ [11, 6, 7, 4, 8] (by decide +kernel) (by decide +kernel)
set_option maxRecDepth 20000 in
theorem gX4_table_X4_isMonth : GoodIn wsX4_table (va_wsS RX4 70 yX4_isMonth wsX4_isMonth) := goodIn_app (goodIn_of _ (by decide +kernel)) ggX4_table_X4_isMonth
set_option maxRecDepth 20000 in
theorem ggX4_table_X0_letSoldInAtAge : GoodIn wsX4_table wsX0_letSoldInAtAge := goodIn_r _ [16, 17, 18, 19, 20, 21, 22, 15, 23, 24, 25, 31, 32, 33, 34, 35, 36, 37, 38] (by decide +kernel) (by decide +kernel)
set_option maxRecDepth 20000 in
theorem gX4_table_X0_letSoldInAtAge : GoodIn wsX4_table (wsV RX4 101 RX0 yX0_letSoldInAtAge wsX0_letSoldInAtAge) := goodIn_app (goodIn_of _ (by decide +kernel)) ggX4_table_X0_letSoldInAtAge
theorem dX4_table_0 : decode cX4_table 0 = .ok (.iload_n 1, 1) := by decide +kernel
theorem dX4_table_1 : decode cX4_table 1 = .ok (.invokestatic 45, 3) := by decide +kernel
theorem dX4_table_4 : decode cX4_table 4 = .ok (.ifCond .eq 17, 3) := by decide +kernel
theorem dX4_table_7 : decode cX4_table 7 = .ok (.iload_n 2, 1) := by decide +kernel
theorem dX4_table_8 : decode cX4_table 8 = .ok (.invokestatic 70, 3) := by decide +kernel
theorem dX4_table_11 : decode cX4_table 11 = .ok (.ifCond .eq 10, 3) := by decide +kernel
theorem dX4_table_14 : decode cX4_table 14 = .ok (.iload_n 3, 1) := by decide +kernel
theorem dX4_table_15 : decode cX4_table 15 = .ok (.invokestatic 70, 3) := by decide +kernel
theorem dX4_table_18 : decode cX4_table 18 = .ok (.ifCond .ne 6, 3) := by decide +kernel
theorem dX4_table_21 : decode cX4_table 21 = .ok (.bipush (-2), 2) := by decide +kernel
theorem dX4_table_23 : decode cX4_table 23 = .ok (.ireturn, 1) := by decide +kernel
theorem dX4_table_24 : decode cX4_table 24 = .ok (.aload_n 0, 1) := by decide +kernel
theorem dX4_table_25 : decode cX4_table 25 = .ok (.getfield 19, 3) := by decide +kernel
theorem dX4_table_28 : decode cX4_table 28 = .ok (.iload_n 1, 1) := by decide +kernel
theorem dX4_table_29 : decode cX4_table 29 = .ok (.iload_n 2, 1) := by decide +kernel
theorem dX4_table_30 : decode cX4_table 30 = .ok (.iload_n 3, 1) := by decide +kernel
theorem dX4_table_31 : decode cX4_table 31 = .ok (.invokevirtual 101, 3) := by decide +kernel
theorem dX4_table_34 : decode cX4_table 34 = .ok (.ireturn, 1) := by decide +kernel
set_option maxRecDepth 20000 in
theorem ggX4_exposed_X4_isMonth : GoodIn wsX4_exposed wsX4_isMonth := goodIn_r _ [5, 6, 7, 4, 8] (by decide +kernel) (by decide +kernel)
set_option maxRecDepth 20000 in
theorem gX4_exposed_X4_isMonth : GoodIn wsX4_exposed (va_wsS RX4 70 yX4_isMonth wsX4_isMonth) := goodIn_app (goodIn_of _ (by decide +kernel)) ggX4_exposed_X4_isMonth
set_option maxRecDepth 20000 in
theorem ggX4_exposed_X2_coveredAtAge : GoodIn wsX4_exposed wsX2_coveredAtAge := goodIn_r _ [13, 14, 15, 16, 17, 18, 12, 19, 20, 21, 22, 23, 29, 30, 31, 32, 33, 34, 35] (by decide +kernel) (by decide +kernel)
set_option maxRecDepth 20000 in
theorem gX4_exposed_X2_coveredAtAge : GoodIn wsX4_exposed (wsV RX4 104 RX2 yX2_coveredAtAge wsX2_coveredAtAge) := goodIn_app (goodIn_of _ (by decide +kernel)) ggX4_exposed_X2_coveredAtAge
theorem dX4_exposed_0 : decode cX4_exposed 0 = .ok (.iload_n 1, 1) := by decide +kernel
theorem dX4_exposed_1 : decode cX4_exposed 1 = .ok (.invokestatic 70, 3) := by decide +kernel
theorem dX4_exposed_4 : decode cX4_exposed 4 = .ok (.ifCond .eq 10, 3) := by decide +kernel
theorem dX4_exposed_7 : decode cX4_exposed 7 = .ok (.iload_n 2, 1) := by decide +kernel
theorem dX4_exposed_8 : decode cX4_exposed 8 = .ok (.invokestatic 70, 3) := by decide +kernel
theorem dX4_exposed_11 : decode cX4_exposed 11 = .ok (.ifCond .ne 6, 3) := by decide +kernel
theorem dX4_exposed_14 : decode cX4_exposed 14 = .ok (.bipush (-2), 2) := by decide +kernel
theorem dX4_exposed_16 : decode cX4_exposed 16 = .ok (.ireturn, 1) := by decide +kernel
theorem dX4_exposed_17 : decode cX4_exposed 17 = .ok (.aload_n 0, 1) := by decide +kernel
theorem dX4_exposed_18 : decode cX4_exposed 18 = .ok (.getfield 12, 3) := by decide +kernel
theorem dX4_exposed_21 : decode cX4_exposed 21 = .ok (.iload_n 1, 1) := by decide +kernel
theorem dX4_exposed_22 : decode cX4_exposed 22 = .ok (.iload_n 2, 1) := by decide +kernel
theorem dX4_exposed_23 : decode cX4_exposed 23 = .ok (.invokevirtual 104, 3) := by decide +kernel
theorem dX4_exposed_26 : decode cX4_exposed 26 = .ok (.ireturn, 1) := by decide +kernel
set_option maxRecDepth 20000 in
theorem ggX4_rate_X4_isMonth : GoodIn wsX4_rate wsX4_isMonth := goodIn_r _ [6, 7, 8, 5, 9] (by decide +kernel) (by decide +kernel)
set_option maxRecDepth 20000 in
theorem gX4_rate_X4_isMonth : GoodIn wsX4_rate (va_wsS RX4 70 yX4_isMonth wsX4_isMonth) := goodIn_app (goodIn_of _ (by decide +kernel)) ggX4_rate_X4_isMonth
set_option maxRecDepth 20000 in
theorem ggX4_rate_X4_isAboveOrBelow : GoodIn wsX4_rate wsX4_isAboveOrBelow := goodIn_r _ [12] (by decide +kernel) (by decide +kernel)
set_option maxRecDepth 20000 in
theorem gX4_rate_X4_isAboveOrBelow : GoodIn wsX4_rate (va_wsS RX4 107 yX4_isAboveOrBelow wsX4_isAboveOrBelow) := goodIn_app (goodIn_of _ (by decide +kernel)) ggX4_rate_X4_isAboveOrBelow
set_option maxRecDepth 20000 in
theorem ggX4_rate_X2_coveredAtAge : GoodIn wsX4_rate wsX2_coveredAtAge := goodIn_r _ [17, 18, 19, 20, 21, 22, 16, 23, 24, 25, 26, 27, 53, 54, 55, 56, 57, 58, 59] (by decide +kernel) (by decide +kernel)
set_option maxRecDepth 20000 in
theorem gX4_rate_X2_coveredAtAge : GoodIn wsX4_rate (wsV RX4 104 RX2 yX2_coveredAtAge wsX2_coveredAtAge) := goodIn_app (goodIn_of _ (by decide +kernel)) ggX4_rate_X2_coveredAtAge
set_option maxRecDepth 20000 in
theorem ggX4_rate_X0_letAtAge : GoodIn wsX4_rate wsX0_letAtAge := goodIn_r _ [32, 33, 34, 35, 36, 37, 31, 38, 39, 40, 60, 61, 62, 63, 64, 65, 66, 67] (by decide +kernel) (by decide +kernel)
set_option maxRecDepth 20000 in
theorem gX4_rate_X0_letAtAge : GoodIn wsX4_rate (wsV RX4 110 RX0 yX0_letAtAge wsX0_letAtAge) := goodIn_app (goodIn_of _ (by decide +kernel)) ggX4_rate_X0_letAtAge
set_option maxRecDepth 20000 in
theorem ggX4_rate_X4_ofLowestTerms : GoodIn wsX4_rate wsX4_ofLowestTerms := goodIn_r _ [43, 44, 45, 46, 5, 47] (by decide +kernel) (by decide +kernel)
set_option maxRecDepth 20000 in
theorem gX4_rate_X4_ofLowestTerms : GoodIn wsX4_rate (va_wsS RX4 113 yX4_ofLowestTerms wsX4_ofLowestTerms) := goodIn_app (goodIn_of _ (by decide +kernel)) ggX4_rate_X4_ofLowestTerms
theorem dX4_rate_0 : decode cX4_rate 0 = .ok (.iload_n 1, 1) := by decide +kernel
theorem dX4_rate_1 : decode cX4_rate 1 = .ok (.invokestatic 70, 3) := by decide +kernel
theorem dX4_rate_4 : decode cX4_rate 4 = .ok (.ifCond .eq 17, 3) := by decide +kernel
theorem dX4_rate_7 : decode cX4_rate 7 = .ok (.iload_n 2, 1) := by decide +kernel
theorem dX4_rate_8 : decode cX4_rate 8 = .ok (.invokestatic 70, 3) := by decide +kernel
theorem dX4_rate_11 : decode cX4_rate 11 = .ok (.ifCond .eq 10, 3) := by decide +kernel
theorem dX4_rate_14 : decode cX4_rate 14 = .ok (.iload_n 3, 1) := by decide +kernel
theorem dX4_rate_15 : decode cX4_rate 15 = .ok (.invokestatic 107, 3) := by decide +kernel
theorem dX4_rate_18 : decode cX4_rate 18 = .ok (.ifCond .ne 6, 3) := by decide +kernel
theorem dX4_rate_21 : decode cX4_rate 21 = .ok (.bipush (-2), 2) := by decide +kernel
theorem dX4_rate_23 : decode cX4_rate 23 = .ok (.ireturn, 1) := by decide +kernel
theorem dX4_rate_24 : decode cX4_rate 24 = .ok (.aload_n 0, 1) := by decide +kernel
theorem dX4_rate_25 : decode cX4_rate 25 = .ok (.getfield 12, 3) := by decide +kernel
theorem dX4_rate_28 : decode cX4_rate 28 = .ok (.iload_n 1, 1) := by decide +kernel
theorem dX4_rate_29 : decode cX4_rate 29 = .ok (.iload_n 2, 1) := by decide +kernel
theorem dX4_rate_30 : decode cX4_rate 30 = .ok (.invokevirtual 104, 3) := by decide +kernel
theorem dX4_rate_33 : decode cX4_rate 33 = .ok (.istore 4, 2) := by decide +kernel
theorem dX4_rate_35 : decode cX4_rate 35 = .ok (.iload 4, 2) := by decide +kernel
theorem dX4_rate_37 : decode cX4_rate 37 = .ok (.ifCond .ne 6, 3) := by decide +kernel
theorem dX4_rate_40 : decode cX4_rate 40 = .ok (.bipush (-3), 2) := by decide +kernel
theorem dX4_rate_42 : decode cX4_rate 42 = .ok (.ireturn, 1) := by decide +kernel
theorem dX4_rate_43 : decode cX4_rate 43 = .ok (.aload_n 0, 1) := by decide +kernel
theorem dX4_rate_44 : decode cX4_rate 44 = .ok (.getfield 19, 3) := by decide +kernel
theorem dX4_rate_47 : decode cX4_rate 47 = .ok (.iload_n 1, 1) := by decide +kernel
theorem dX4_rate_48 : decode cX4_rate 48 = .ok (.iload_n 2, 1) := by decide +kernel
theorem dX4_rate_49 : decode cX4_rate 49 = .ok (.invokevirtual 110, 3) := by decide +kernel
theorem dX4_rate_52 : decode cX4_rate 52 = .ok (.i2l, 1) := by decide +kernel
theorem dX4_rate_53 : decode cX4_rate 53 = .ok (.iload 4, 2) := by decide +kernel
theorem dX4_rate_55 : decode cX4_rate 55 = .ok (.i2l, 1) := by decide +kernel
theorem dX4_rate_56 : decode cX4_rate 56 = .ok (.iload_n 3, 1) := by decide +kernel
theorem dX4_rate_57 : decode cX4_rate 57 = .ok (.invokestatic 113, 3) := by decide +kernel
theorem dX4_rate_60 : decode cX4_rate 60 = .ok (.l2i, 1) := by decide +kernel
theorem dX4_rate_61 : decode cX4_rate 61 = .ok (.ireturn, 1) := by decide +kernel
set_option maxRecDepth 20000 in
theorem ggX4_delays_X4_isMonth : GoodIn wsX4_delays wsX4_isMonth := goodIn_r _ [5, 6, 7, 4, 8] (by decide +kernel) (by decide +kernel)
set_option maxRecDepth 20000 in
theorem gX4_delays_X4_isMonth : GoodIn wsX4_delays (va_wsS RX4 70 yX4_isMonth wsX4_isMonth) := goodIn_app (goodIn_of _ (by decide +kernel)) ggX4_delays_X4_isMonth
set_option maxRecDepth 20000 in
theorem ggX4_delays_X4_isWithin : GoodIn wsX4_delays wsX4_isWithin := goodIn_r _ [8] (by decide +kernel) (by decide +kernel)
set_option maxRecDepth 20000 in
theorem gX4_delays_X4_isWithin : GoodIn wsX4_delays (va_wsS RX4 48 yX4_isWithin wsX4_isWithin) := goodIn_app (goodIn_of _ (by decide +kernel)) ggX4_delays_X4_isWithin
set_option maxRecDepth 20000 in
theorem ggX4_delays_X0_letDelayed : GoodIn wsX4_delays wsX0_letDelayed := goodIn_r _ [13, 14, 15, 16, 17, 18, 12, 19, 20, 21, 22, 23, 24, 25, 31, 32, 33, 34, 35, 36, 37, 38] (by decide +kernel) (by decide +kernel)
set_option maxRecDepth 20000 in
theorem gX4_delays_X0_letDelayed : GoodIn wsX4_delays (wsV RX4 117 RX0 yX0_letDelayed wsX0_letDelayed) := goodIn_app (goodIn_of _ (by decide +kernel)) ggX4_delays_X0_letDelayed
theorem dX4_delays_0 : decode cX4_delays 0 = .ok (.iload_n 1, 1) := by decide +kernel
theorem dX4_delays_1 : decode cX4_delays 1 = .ok (.invokestatic 70, 3) := by decide +kernel
theorem dX4_delays_4 : decode cX4_delays 4 = .ok (.ifCond .eq 13, 3) := by decide +kernel
theorem dX4_delays_7 : decode cX4_delays 7 = .ok (.iload_n 2, 1) := by decide +kernel
theorem dX4_delays_8 : decode cX4_delays 8 = .ok (.iconst 0, 1) := by decide +kernel
theorem dX4_delays_9 : decode cX4_delays 9 = .ok (.bipush 11, 2) := by decide +kernel
theorem dX4_delays_11 : decode cX4_delays 11 = .ok (.invokestatic 48, 3) := by decide +kernel
theorem dX4_delays_14 : decode cX4_delays 14 = .ok (.ifCond .ne 6, 3) := by decide +kernel
theorem dX4_delays_17 : decode cX4_delays 17 = .ok (.bipush (-2), 2) := by decide +kernel
theorem dX4_delays_19 : decode cX4_delays 19 = .ok (.ireturn, 1) := by decide +kernel
theorem dX4_delays_20 : decode cX4_delays 20 = .ok (.aload_n 0, 1) := by decide +kernel
theorem dX4_delays_21 : decode cX4_delays 21 = .ok (.getfield 19, 3) := by decide +kernel
theorem dX4_delays_24 : decode cX4_delays 24 = .ok (.iload_n 2, 1) := by decide +kernel
theorem dX4_delays_25 : decode cX4_delays 25 = .ok (.iload_n 2, 1) := by decide +kernel
theorem dX4_delays_26 : decode cX4_delays 26 = .ok (.iload_n 1, 1) := by decide +kernel
theorem dX4_delays_27 : decode cX4_delays 27 = .ok (.invokevirtual 117, 3) := by decide +kernel
theorem dX4_delays_30 : decode cX4_delays 30 = .ok (.ireturn, 1) := by decide +kernel
set_option maxRecDepth 20000 in
theorem ggX4_undone_X4_isMonth : GoodIn wsX4_undone wsX4_isMonth := goodIn_r _ [5, 6, 7, 4, 8] (by decide +kernel) (by decide +kernel)
set_option maxRecDepth 20000 in
theorem gX4_undone_X4_isMonth : GoodIn wsX4_undone (va_wsS RX4 70 yX4_isMonth wsX4_isMonth) := goodIn_app (goodIn_of _ (by decide +kernel)) ggX4_undone_X4_isMonth
set_option maxRecDepth 20000 in
theorem ggX4_undone_X0_letFailedIn : GoodIn wsX4_undone wsX0_letFailedIn := goodIn_r _ [13, 14, 15, 16, 17, 18, 12, 19, 20, 21, 35, 36, 37, 38, 39, 40, 41, 42] (by decide +kernel) (by decide +kernel)
set_option maxRecDepth 20000 in
theorem gX4_undone_X0_letFailedIn : GoodIn wsX4_undone (wsV RX4 120 RX0 yX0_letFailedIn wsX0_letFailedIn) := goodIn_app (goodIn_of _ (by decide +kernel)) ggX4_undone_X0_letFailedIn
set_option maxRecDepth 20000 in
theorem ggX4_undone_X0_letDelayed : GoodIn wsX4_undone wsX0_letDelayed := goodIn_r _ [25, 14, 15, 16, 17, 18, 12, 19, 20, 21, 26, 27, 28, 29, 35, 36, 37, 38, 39, 40, 41, 42] (by decide +kernel) (by decide +kernel)
set_option maxRecDepth 20000 in
theorem gX4_undone_X0_letDelayed : GoodIn wsX4_undone (wsV RX4 117 RX0 yX0_letDelayed wsX0_letDelayed) := goodIn_app (goodIn_of _ (by decide +kernel)) ggX4_undone_X0_letDelayed
theorem dX4_undone_0 : decode cX4_undone 0 = .ok (.iload_n 1, 1) := by decide +kernel
theorem dX4_undone_1 : decode cX4_undone 1 = .ok (.invokestatic 70, 3) := by decide +kernel
theorem dX4_undone_4 : decode cX4_undone 4 = .ok (.ifCond .eq 15, 3) := by decide +kernel
theorem dX4_undone_7 : decode cX4_undone 7 = .ok (.iload_n 2, 1) := by decide +kernel
theorem dX4_undone_8 : decode cX4_undone 8 = .ok (.invokestatic 70, 3) := by decide +kernel
theorem dX4_undone_11 : decode cX4_undone 11 = .ok (.ifCond .eq 8, 3) := by decide +kernel
theorem dX4_undone_14 : decode cX4_undone 14 = .ok (.iload_n 1, 1) := by decide +kernel
theorem dX4_undone_15 : decode cX4_undone 15 = .ok (.iload_n 2, 1) := by decide +kernel
theorem dX4_undone_16 : decode cX4_undone 16 = .ok (.if_icmp .le 6, 3) := by decide +kernel
theorem dX4_undone_19 : decode cX4_undone 19 = .ok (.bipush (-2), 2) := by decide +kernel
theorem dX4_undone_21 : decode cX4_undone 21 = .ok (.ireturn, 1) := by decide +kernel
theorem dX4_undone_22 : decode cX4_undone 22 = .ok (.aload_n 0, 1) := by decide +kernel
theorem dX4_undone_23 : decode cX4_undone 23 = .ok (.getfield 19, 3) := by decide +kernel
theorem dX4_undone_26 : decode cX4_undone 26 = .ok (.iload_n 1, 1) := by decide +kernel
theorem dX4_undone_27 : decode cX4_undone 27 = .ok (.iload_n 2, 1) := by decide +kernel
theorem dX4_undone_28 : decode cX4_undone 28 = .ok (.invokevirtual 120, 3) := by decide +kernel
theorem dX4_undone_31 : decode cX4_undone 31 = .ok (.istore_n 3, 1) := by decide +kernel
theorem dX4_undone_32 : decode cX4_undone 32 = .ok (.iload_n 2, 1) := by decide +kernel
theorem dX4_undone_33 : decode cX4_undone 33 = .ok (.iload_n 1, 1) := by decide +kernel
theorem dX4_undone_34 : decode cX4_undone 34 = .ok (.isub, 1) := by decide +kernel
theorem dX4_undone_35 : decode cX4_undone 35 = .ok (.bipush 11, 2) := by decide +kernel
theorem dX4_undone_37 : decode cX4_undone 37 = .ok (.if_icmp .lt 5, 3) := by decide +kernel
theorem dX4_undone_40 : decode cX4_undone 40 = .ok (.iload_n 3, 1) := by decide +kernel
theorem dX4_undone_41 : decode cX4_undone 41 = .ok (.ireturn, 1) := by decide +kernel
theorem dX4_undone_42 : decode cX4_undone 42 = .ok (.aload_n 0, 1) := by decide +kernel
theorem dX4_undone_43 : decode cX4_undone 43 = .ok (.getfield 19, 3) := by decide +kernel
theorem dX4_undone_46 : decode cX4_undone 46 = .ok (.iconst 0, 1) := by decide +kernel
theorem dX4_undone_47 : decode cX4_undone 47 = .ok (.iload_n 2, 1) := by decide +kernel
theorem dX4_undone_48 : decode cX4_undone 48 = .ok (.iload_n 1, 1) := by decide +kernel
theorem dX4_undone_49 : decode cX4_undone 49 = .ok (.isub, 1) := by decide +kernel
theorem dX4_undone_50 : decode cX4_undone 50 = .ok (.iload_n 2, 1) := by decide +kernel
theorem dX4_undone_51 : decode cX4_undone 51 = .ok (.invokevirtual 117, 3) := by decide +kernel
theorem dX4_undone_54 : decode cX4_undone 54 = .ok (.istore 4, 2) := by decide +kernel
theorem dX4_undone_56 : decode cX4_undone 56 = .ok (.iload 4, 2) := by decide +kernel
theorem dX4_undone_58 : decode cX4_undone 58 = .ok (.ifCond .ne 5, 3) := by decide +kernel
theorem dX4_undone_61 : decode cX4_undone 61 = .ok (.iconst (-1), 1) := by decide +kernel
theorem dX4_undone_62 : decode cX4_undone 62 = .ok (.ireturn, 1) := by decide +kernel
theorem dX4_undone_63 : decode cX4_undone 63 = .ok (.iload_n 3, 1) := by decide +kernel
theorem dX4_undone_64 : decode cX4_undone 64 = .ok (.aload_n 0, 1) := by decide +kernel
theorem dX4_undone_65 : decode cX4_undone 65 = .ok (.getfield 19, 3) := by decide +kernel
theorem dX4_undone_68 : decode cX4_undone 68 = .ok (.iconst 0, 1) := by decide +kernel
theorem dX4_undone_69 : decode cX4_undone 69 = .ok (.bipush 11, 2) := by decide +kernel
theorem dX4_undone_71 : decode cX4_undone 71 = .ok (.iload_n 2, 1) := by decide +kernel
theorem dX4_undone_72 : decode cX4_undone 72 = .ok (.invokevirtual 117, 3) := by decide +kernel
theorem dX4_undone_75 : decode cX4_undone 75 = .ok (.imul, 1) := by decide +kernel
theorem dX4_undone_76 : decode cX4_undone 76 = .ok (.iload 4, 2) := by decide +kernel
theorem dX4_undone_78 : decode cX4_undone 78 = .ok (.idiv, 1) := by decide +kernel
theorem dX4_undone_79 : decode cX4_undone 79 = .ok (.ireturn, 1) := by decide +kernel
set_option maxRecDepth 20000 in
theorem ggX4_chance_X4_isBatch : GoodIn wsX4_chance wsX4_isBatch := goodIn_r _ [8, 9, 10, 7, 11] (by decide +kernel) (by decide +kernel)
set_option maxRecDepth 20000 in
theorem gX4_chance_X4_isBatch : GoodIn wsX4_chance (va_wsS RX4 41 yX4_isBatch wsX4_isBatch) := goodIn_app (goodIn_of _ (by decide +kernel)) ggX4_chance_X4_isBatch
set_option maxRecDepth 20000 in
theorem ggX4_chance_X4_isPart : GoodIn wsX4_chance wsX4_isPart := goodIn_r _ [14, 9, 10, 7, 11] (by decide +kernel) (by decide +kernel)
set_option maxRecDepth 20000 in
theorem gX4_chance_X4_isPart : GoodIn wsX4_chance (va_wsS RX4 81 yX4_isPart wsX4_isPart) := goodIn_app (goodIn_of _ (by decide +kernel)) ggX4_chance_X4_isPart
set_option maxRecDepth 20000 in
theorem ggX4_chance_X4_isMonth : GoodIn wsX4_chance wsX4_isMonth := goodIn_r _ [17, 9, 10, 7, 11] (by decide +kernel) (by decide +kernel)
set_option maxRecDepth 20000 in
theorem gX4_chance_X4_isMonth : GoodIn wsX4_chance (va_wsS RX4 70 yX4_isMonth wsX4_isMonth) := goodIn_app (goodIn_of _ (by decide +kernel)) ggX4_chance_X4_isMonth
set_option maxRecDepth 20000 in
theorem ggX4_chance_X4_isAboveOrBelow : GoodIn wsX4_chance wsX4_isAboveOrBelow := goodIn_r _ [20] (by decide +kernel) (by decide +kernel)
set_option maxRecDepth 20000 in
theorem gX4_chance_X4_isAboveOrBelow : GoodIn wsX4_chance (va_wsS RX4 107 yX4_isAboveOrBelow wsX4_isAboveOrBelow) := goodIn_app (goodIn_of _ (by decide +kernel)) ggX4_chance_X4_isAboveOrBelow
set_option maxRecDepth 20000 in
theorem ggX4_chance_X2_ofBatch : GoodIn wsX4_chance wsX2_ofBatch := goodIn_r _ [25, 26, 27, 28, 24, 29, 30, 31, 32, 33, 7, 34, 87, 88, 89, 90, 91, 92, 93] (by decide +kernel) (by decide +kernel)
set_option maxRecDepth 20000 in
theorem gX4_chance_X2_ofBatch : GoodIn wsX4_chance (wsV RX4 125 RX2 yX2_ofBatch wsX2_ofBatch) := goodIn_app (goodIn_of _ (by decide +kernel)) ggX4_chance_X2_ofBatch
set_option maxRecDepth 20000 in
theorem ggX4_chance_X0_thingsLetFor : GoodIn wsX4_chance wsX0_thingsLetFor := goodIn_r _ [39, 40, 41, 42, 43, 44, 45, 38, 46, 47, 48, 33, 7, 34, 94, 95, 96, 97, 98, 99, 100, 101] (by decide +kernel) (by decide +kernel)
set_option maxRecDepth 20000 in
theorem gX4_chance_X0_thingsLetFor : GoodIn wsX4_chance (wsV RX4 131 RX0 yX0_thingsLetFor wsX0_thingsLetFor) := goodIn_app (goodIn_of _ (by decide +kernel)) ggX4_chance_X0_thingsLetFor
set_option maxRecDepth 20000 in
theorem ggX4_chance_X4_waysAsOddOrOdder : GoodIn wsX4_chance wsX4_waysAsOddOrOdder := goodIn_r _ [52, 53, 2, 54, 55, 56, 57, 58, 59, 60, 61, 62, 63, 64, 65, 66, 67, 68, 69, 70, 82, 83, 84, 85, 86, 87, 88, 89, 90, 91, 92, 93, 102] (by decide +kernel) (by decide +kernel)
set_option maxRecDepth 20000 in
theorem gX4_chance_X4_waysAsOddOrOdder : GoodIn wsX4_chance (wsV RX4 135 RX4 yX4_waysAsOddOrOdder wsX4_waysAsOddOrOdder) := goodIn_app (goodIn_of _ (by decide +kernel)) ggX4_chance_X4_waysAsOddOrOdder
set_option maxRecDepth 20000 in
theorem ggX4_chance_X4_waysInAll : GoodIn wsX4_chance wsX4_waysInAll := goodIn_r _ [74, 53, 2, 54, 55, 56, 57, 58, 59, 60, 75, 67, 68, 64, 69, 70, 82, 83, 84, 85, 86, 87, 88, 89, 90, 91, 92, 93, 102] (by decide +kernel) (by decide +kernel)
set_option maxRecDepth 20000 in
theorem gX4_chance_X4_waysInAll : GoodIn wsX4_chance (wsV RX4 139 RX4 yX4_waysInAll wsX4_waysInAll) := goodIn_app (goodIn_of _ (by decide +kernel)) ggX4_chance_X4_waysInAll
set_option maxRecDepth 20000 in
theorem ggX4_chance_X4_ofLowestTerms : GoodIn wsX4_chance wsX4_ofLowestTerms := goodIn_r _ [78, 3, 79, 80, 7, 81] (by decide +kernel) (by decide +kernel)
set_option maxRecDepth 20000 in
theorem gX4_chance_X4_ofLowestTerms : GoodIn wsX4_chance (va_wsS RX4 113 yX4_ofLowestTerms wsX4_ofLowestTerms) := goodIn_app (goodIn_of _ (by decide +kernel)) ggX4_chance_X4_ofLowestTerms
theorem dX4_chance_0 : decode cX4_chance 0 = .ok (.iload_n 1, 1) := by decide +kernel
theorem dX4_chance_1 : decode cX4_chance 1 = .ok (.invokestatic 41, 3) := by decide +kernel
theorem dX4_chance_4 : decode cX4_chance 4 = .ok (.ifCond .eq 25, 3) := by decide +kernel
theorem dX4_chance_7 : decode cX4_chance 7 = .ok (.iload_n 2, 1) := by decide +kernel
theorem dX4_chance_8 : decode cX4_chance 8 = .ok (.invokestatic 81, 3) := by decide +kernel
theorem dX4_chance_11 : decode cX4_chance 11 = .ok (.ifCond .eq 18, 3) := by decide +kernel
theorem dX4_chance_14 : decode cX4_chance 14 = .ok (.iload_n 3, 1) := by decide +kernel
theorem dX4_chance_15 : decode cX4_chance 15 = .ok (.invokestatic 70, 3) := by decide +kernel
theorem dX4_chance_18 : decode cX4_chance 18 = .ok (.ifCond .eq 11, 3) := by decide +kernel
theorem dX4_chance_21 : decode cX4_chance 21 = .ok (.iload 4, 2) := by decide +kernel
theorem dX4_chance_23 : decode cX4_chance 23 = .ok (.invokestatic 107, 3) := by decide +kernel
theorem dX4_chance_26 : decode cX4_chance 26 = .ok (.ifCond .ne 7, 3) := by decide +kernel
theorem dX4_chance_29 : decode cX4_chance 29 = .ok (.ldc2_w 123, 3) := by decide +kernel
theorem dX4_chance_32 : decode cX4_chance 32 = .ok (.lreturn, 1) := by decide +kernel
theorem dX4_chance_33 : decode cX4_chance 33 = .ok (.aload_n 0, 1) := by decide +kernel
theorem dX4_chance_34 : decode cX4_chance 34 = .ok (.getfield 12, 3) := by decide +kernel
theorem dX4_chance_37 : decode cX4_chance 37 = .ok (.iload_n 1, 1) := by decide +kernel
theorem dX4_chance_38 : decode cX4_chance 38 = .ok (.invokevirtual 125, 3) := by decide +kernel
theorem dX4_chance_41 : decode cX4_chance 41 = .ok (.lstore 5, 2) := by decide +kernel
theorem dX4_chance_43 : decode cX4_chance 43 = .ok (.lload 5, 2) := by decide +kernel
theorem dX4_chance_45 : decode cX4_chance 45 = .ok (.lconst 0, 1) := by decide +kernel
theorem dX4_chance_46 : decode cX4_chance 46 = .ok (.lcmp, 1) := by decide +kernel
theorem dX4_chance_47 : decode cX4_chance 47 = .ok (.ifCond .ne 7, 3) := by decide +kernel
theorem dX4_chance_50 : decode cX4_chance 50 = .ok (.ldc2_w 129, 3) := by decide +kernel
theorem dX4_chance_53 : decode cX4_chance 53 = .ok (.lreturn, 1) := by decide +kernel
theorem dX4_chance_54 : decode cX4_chance 54 = .ok (.aload_n 0, 1) := by decide +kernel
theorem dX4_chance_55 : decode cX4_chance 55 = .ok (.getfield 19, 3) := by decide +kernel
theorem dX4_chance_58 : decode cX4_chance 58 = .ok (.iconst 1, 1) := by decide +kernel
theorem dX4_chance_59 : decode cX4_chance 59 = .ok (.iload_n 2, 1) := by decide +kernel
theorem dX4_chance_60 : decode cX4_chance 60 = .ok (.ishl, 1) := by decide +kernel
theorem dX4_chance_61 : decode cX4_chance 61 = .ok (.iload_n 3, 1) := by decide +kernel
theorem dX4_chance_62 : decode cX4_chance 62 = .ok (.invokevirtual 131, 3) := by decide +kernel
theorem dX4_chance_65 : decode cX4_chance 65 = .ok (.lstore 7, 2) := by decide +kernel
theorem dX4_chance_67 : decode cX4_chance 67 = .ok (.aload_n 0, 1) := by decide +kernel
theorem dX4_chance_68 : decode cX4_chance 68 = .ok (.lload 5, 2) := by decide +kernel
theorem dX4_chance_70 : decode cX4_chance 70 = .ok (.lload 7, 2) := by decide +kernel
theorem dX4_chance_72 : decode cX4_chance 72 = .ok (.invokevirtual 135, 3) := by decide +kernel
theorem dX4_chance_75 : decode cX4_chance 75 = .ok (.aload_n 0, 1) := by decide +kernel
theorem dX4_chance_76 : decode cX4_chance 76 = .ok (.lload 5, 2) := by decide +kernel
theorem dX4_chance_78 : decode cX4_chance 78 = .ok (.invokevirtual 139, 3) := by decide +kernel
theorem dX4_chance_81 : decode cX4_chance 81 = .ok (.iload 4, 2) := by decide +kernel
theorem dX4_chance_83 : decode cX4_chance 83 = .ok (.invokestatic 113, 3) := by decide +kernel
theorem dX4_chance_86 : decode cX4_chance 86 = .ok (.lreturn, 1) := by decide +kernel
set_option maxRecDepth 20000 in
theorem ggX4_oddest_X4_isPart : GoodIn wsX4_oddest wsX4_isPart := goodIn_r _ [6, 7, 8, 5, 9] (by decide +kernel) (by decide +kernel)
set_option maxRecDepth 20000 in
theorem gX4_oddest_X4_isPart : GoodIn wsX4_oddest (va_wsS RX4 81 yX4_isPart wsX4_isPart) := goodIn_app (goodIn_of _ (by decide +kernel)) ggX4_oddest_X4_isPart
set_option maxRecDepth 20000 in
theorem ggX4_oddest_X4_isMonth : GoodIn wsX4_oddest wsX4_isMonth := goodIn_r _ [12, 7, 8, 5, 9] (by decide +kernel) (by decide +kernel)
set_option maxRecDepth 20000 in
theorem gX4_oddest_X4_isMonth : GoodIn wsX4_oddest (va_wsS RX4 70 yX4_isMonth wsX4_isMonth) := goodIn_app (goodIn_of _ (by decide +kernel)) ggX4_oddest_X4_isMonth
set_option maxRecDepth 20000 in
theorem ggX4_oddest_X0_thingsLetFor : GoodIn wsX4_oddest wsX0_thingsLetFor := goodIn_r _ [17, 18, 19, 20, 21, 22, 23, 16, 24, 25, 26, 27, 5, 28, 76, 77, 78, 79, 80, 81, 82, 83] (by decide +kernel) (by decide +kernel)
set_option maxRecDepth 20000 in
theorem gX4_oddest_X0_thingsLetFor : GoodIn wsX4_oddest (wsV RX4 131 RX0 yX0_thingsLetFor wsX0_thingsLetFor) := goodIn_app (goodIn_of _ (by decide +kernel)) ggX4_oddest_X0_thingsLetFor
set_option maxRecDepth 20000 in
theorem ggX4_oddest_X2_ofBatch : GoodIn wsX4_oddest wsX2_ofBatch := goodIn_r _ [33, 34, 35, 36, 32, 37, 38, 39, 40, 27, 5, 28, 84, 85, 86, 87, 88, 89, 90] (by decide +kernel) (by decide +kernel)
set_option maxRecDepth 20000 in
theorem gX4_oddest_X2_ofBatch : GoodIn wsX4_oddest (wsV RX4 125 RX2 yX2_ofBatch wsX2_ofBatch) := goodIn_app (goodIn_of _ (by decide +kernel)) ggX4_oddest_X2_ofBatch
set_option maxRecDepth 20000 in
theorem ggX4_oddest_X4_waysAsOddOrOdder : GoodIn wsX4_oddest wsX4_waysAsOddOrOdder := goodIn_r _ [44, 45, 2, 46, 47, 48, 49, 50, 51, 52, 53, 54, 55, 56, 57, 58, 59, 60, 61, 62, 71, 72, 73, 74, 75, 84, 85, 86, 87, 88, 89, 90, 91] (by decide +kernel) (by decide +kernel)
set_option maxRecDepth 20000 in
theorem gX4_oddest_X4_waysAsOddOrOdder : GoodIn wsX4_oddest (wsV RX4 135 RX4 yX4_waysAsOddOrOdder wsX4_waysAsOddOrOdder) := goodIn_app (goodIn_of _ (by decide +kernel)) ggX4_oddest_X4_waysAsOddOrOdder
set_option maxRecDepth 20000 in
theorem ggX4_oddest_X4_waysInAll : GoodIn wsX4_oddest wsX4_waysInAll := goodIn_r _ [66, 45, 2, 46, 47, 48, 49, 50, 51, 52, 67, 59, 60, 56, 61, 62, 71, 72, 73, 74, 75, 84, 85, 86, 87, 88, 89, 90, 91] (by decide +kernel) (by decide +kernel)
set_option maxRecDepth 20000 in
theorem gX4_oddest_X4_waysInAll : GoodIn wsX4_oddest (wsV RX4 139 RX4 yX4_waysInAll wsX4_waysInAll) := goodIn_app (goodIn_of _ (by decide +kernel)) ggX4_oddest_X4_waysInAll
set_option maxRecDepth 20000 in
theorem ggX4_oddest_X4_isLess : GoodIn wsX4_oddest wsX4_isLess := goodIn_r _ [70] (by decide +kernel) (by decide +kernel)
set_option maxRecDepth 20000 in
theorem gX4_oddest_X4_isLess : GoodIn wsX4_oddest (va_wsS RX4 143 yX4_isLess wsX4_isLess) := goodIn_app (goodIn_of _ (by decide +kernel)) ggX4_oddest_X4_isLess
theorem dX4_oddest_0 : decode cX4_oddest 0 = .ok (.iload_n 1, 1) := by decide +kernel
theorem dX4_oddest_1 : decode cX4_oddest 1 = .ok (.invokestatic 81, 3) := by decide +kernel
theorem dX4_oddest_4 : decode cX4_oddest 4 = .ok (.ifCond .eq 10, 3) := by decide +kernel
theorem dX4_oddest_7 : decode cX4_oddest 7 = .ok (.iload_n 2, 1) := by decide +kernel
theorem dX4_oddest_8 : decode cX4_oddest 8 = .ok (.invokestatic 70, 3) := by decide +kernel
theorem dX4_oddest_11 : decode cX4_oddest 11 = .ok (.ifCond .ne 6, 3) := by decide +kernel
theorem dX4_oddest_14 : decode cX4_oddest 14 = .ok (.bipush (-2), 2) := by decide +kernel
theorem dX4_oddest_16 : decode cX4_oddest 16 = .ok (.ireturn, 1) := by decide +kernel
theorem dX4_oddest_17 : decode cX4_oddest 17 = .ok (.aload_n 0, 1) := by decide +kernel
theorem dX4_oddest_18 : decode cX4_oddest 18 = .ok (.getfield 19, 3) := by decide +kernel
theorem dX4_oddest_21 : decode cX4_oddest 21 = .ok (.iconst 1, 1) := by decide +kernel
theorem dX4_oddest_22 : decode cX4_oddest 22 = .ok (.iload_n 1, 1) := by decide +kernel
theorem dX4_oddest_23 : decode cX4_oddest 23 = .ok (.ishl, 1) := by decide +kernel
theorem dX4_oddest_24 : decode cX4_oddest 24 = .ok (.iload_n 2, 1) := by decide +kernel
theorem dX4_oddest_25 : decode cX4_oddest 25 = .ok (.invokevirtual 131, 3) := by decide +kernel
theorem dX4_oddest_28 : decode cX4_oddest 28 = .ok (.lstore_n 3, 1) := by decide +kernel
theorem dX4_oddest_29 : decode cX4_oddest 29 = .ok (.iconst (-1), 1) := by decide +kernel
theorem dX4_oddest_30 : decode cX4_oddest 30 = .ok (.istore 5, 2) := by decide +kernel
theorem dX4_oddest_32 : decode cX4_oddest 32 = .ok (.lconst 1, 1) := by decide +kernel
theorem dX4_oddest_33 : decode cX4_oddest 33 = .ok (.lstore 6, 2) := by decide +kernel
theorem dX4_oddest_35 : decode cX4_oddest 35 = .ok (.lconst 1, 1) := by decide +kernel
theorem dX4_oddest_36 : decode cX4_oddest 36 = .ok (.lstore 8, 2) := by decide +kernel
theorem dX4_oddest_38 : decode cX4_oddest 38 = .ok (.iconst 0, 1) := by decide +kernel
theorem dX4_oddest_39 : decode cX4_oddest 39 = .ok (.istore 10, 2) := by decide +kernel
theorem dX4_oddest_41 : decode cX4_oddest 41 = .ok (.iload 10, 2) := by decide +kernel
theorem dX4_oddest_43 : decode cX4_oddest 43 = .ok (.bipush 8, 2) := by decide +kernel
theorem dX4_oddest_45 : decode cX4_oddest 45 = .ok (.if_icmp .ge 79, 3) := by decide +kernel
theorem dX4_oddest_48 : decode cX4_oddest 48 = .ok (.aload_n 0, 1) := by decide +kernel
theorem dX4_oddest_49 : decode cX4_oddest 49 = .ok (.getfield 12, 3) := by decide +kernel
theorem dX4_oddest_52 : decode cX4_oddest 52 = .ok (.iload 10, 2) := by decide +kernel
theorem dX4_oddest_54 : decode cX4_oddest 54 = .ok (.invokevirtual 125, 3) := by decide +kernel
theorem dX4_oddest_57 : decode cX4_oddest 57 = .ok (.lstore 11, 2) := by decide +kernel
theorem dX4_oddest_59 : decode cX4_oddest 59 = .ok (.lload 11, 2) := by decide +kernel
theorem dX4_oddest_61 : decode cX4_oddest 61 = .ok (.lconst 0, 1) := by decide +kernel
theorem dX4_oddest_62 : decode cX4_oddest 62 = .ok (.lcmp, 1) := by decide +kernel
theorem dX4_oddest_63 : decode cX4_oddest 63 = .ok (.ifCond .ne 6, 3) := by decide +kernel
theorem dX4_oddest_66 : decode cX4_oddest 66 = .ok (.goto 52, 3) := by decide +kernel
theorem dX4_oddest_69 : decode cX4_oddest 69 = .ok (.aload_n 0, 1) := by decide +kernel
theorem dX4_oddest_70 : decode cX4_oddest 70 = .ok (.lload 11, 2) := by decide +kernel
theorem dX4_oddest_72 : decode cX4_oddest 72 = .ok (.lload_n 3, 1) := by decide +kernel
theorem dX4_oddest_73 : decode cX4_oddest 73 = .ok (.invokevirtual 135, 3) := by decide +kernel
theorem dX4_oddest_76 : decode cX4_oddest 76 = .ok (.lstore 13, 2) := by decide +kernel
theorem dX4_oddest_78 : decode cX4_oddest 78 = .ok (.aload_n 0, 1) := by decide +kernel
theorem dX4_oddest_79 : decode cX4_oddest 79 = .ok (.lload 11, 2) := by decide +kernel
theorem dX4_oddest_81 : decode cX4_oddest 81 = .ok (.invokevirtual 139, 3) := by decide +kernel
theorem dX4_oddest_84 : decode cX4_oddest 84 = .ok (.lstore 15, 2) := by decide +kernel
theorem dX4_oddest_86 : decode cX4_oddest 86 = .ok (.iload 5, 2) := by decide +kernel
theorem dX4_oddest_88 : decode cX4_oddest 88 = .ok (.iconst (-1), 1) := by decide +kernel
theorem dX4_oddest_89 : decode cX4_oddest 89 = .ok (.if_icmp .eq 17, 3) := by decide +kernel
theorem dX4_oddest_92 : decode cX4_oddest 92 = .ok (.lload 13, 2) := by decide +kernel
theorem dX4_oddest_94 : decode cX4_oddest 94 = .ok (.lload 15, 2) := by decide +kernel
theorem dX4_oddest_96 : decode cX4_oddest 96 = .ok (.lload 6, 2) := by decide +kernel
theorem dX4_oddest_98 : decode cX4_oddest 98 = .ok (.lload 8, 2) := by decide +kernel
theorem dX4_oddest_100 : decode cX4_oddest 100 = .ok (.invokestatic 143, 3) := by decide +kernel
theorem dX4_oddest_103 : decode cX4_oddest 103 = .ok (.ifCond .eq 15, 3) := by decide +kernel
theorem dX4_oddest_106 : decode cX4_oddest 106 = .ok (.iload 10, 2) := by decide +kernel
theorem dX4_oddest_108 : decode cX4_oddest 108 = .ok (.istore 5, 2) := by decide +kernel
theorem dX4_oddest_110 : decode cX4_oddest 110 = .ok (.lload 13, 2) := by decide +kernel
theorem dX4_oddest_112 : decode cX4_oddest 112 = .ok (.lstore 6, 2) := by decide +kernel
theorem dX4_oddest_114 : decode cX4_oddest 114 = .ok (.lload 15, 2) := by decide +kernel
theorem dX4_oddest_116 : decode cX4_oddest 116 = .ok (.lstore 8, 2) := by decide +kernel
theorem dX4_oddest_118 : decode cX4_oddest 118 = .ok (.iinc 10 1, 3) := by decide +kernel
theorem dX4_oddest_121 : decode cX4_oddest 121 = .ok (.goto (-80), 3) := by decide +kernel
theorem dX4_oddest_124 : decode cX4_oddest 124 = .ok (.iload 5, 2) := by decide +kernel
theorem dX4_oddest_126 : decode cX4_oddest 126 = .ok (.ireturn, 1) := by decide +kernel
set_option maxRecDepth 20000 in
theorem ggX4_under_X4_isPart : GoodIn wsX4_under wsX4_isPart := goodIn_r _ [5, 6, 7, 4, 8] (by decide +kernel) (by decide +kernel)
set_option maxRecDepth 20000 in
theorem gX4_under_X4_isPart : GoodIn wsX4_under (va_wsS RX4 81 yX4_isPart wsX4_isPart) := goodIn_app (goodIn_of _ (by decide +kernel)) ggX4_under_X4_isPart
set_option maxRecDepth 20000 in
theorem ggX4_under_X1_standsInRowOf : GoodIn wsX4_under wsX1_standsInRowOf := goodIn_r _ [13, 14, 3, 4, 5, 6, 7, 8, 20, 21, 22] (by decide +kernel) (by decide +kernel)
set_option maxRecDepth 20000 in
theorem gX4_under_X1_standsInRowOf : GoodIn wsX4_under (wsV RX4 147 RX1 yX1_standsInRowOf wsX1_standsInRowOf) := goodIn_app (goodIn_of _ (by decide +kernel)) ggX4_under_X1_standsInRowOf
theorem dX4_under_0 : decode cX4_under 0 = .ok (.iload_n 1, 1) := by decide +kernel
theorem dX4_under_1 : decode cX4_under 1 = .ok (.invokestatic 81, 3) := by decide +kernel
theorem dX4_under_4 : decode cX4_under 4 = .ok (.ifCond .eq 15, 3) := by decide +kernel
theorem dX4_under_7 : decode cX4_under 7 = .ok (.iload_n 2, 1) := by decide +kernel
theorem dX4_under_8 : decode cX4_under 8 = .ok (.invokestatic 81, 3) := by decide +kernel
theorem dX4_under_11 : decode cX4_under 11 = .ok (.ifCond .ne 11, 3) := by decide +kernel
theorem dX4_under_14 : decode cX4_under 14 = .ok (.iload_n 2, 1) := by decide +kernel
theorem dX4_under_15 : decode cX4_under 15 = .ok (.iconst (-1), 1) := by decide +kernel
theorem dX4_under_16 : decode cX4_under 16 = .ok (.if_icmp .eq 6, 3) := by decide +kernel
theorem dX4_under_19 : decode cX4_under 19 = .ok (.bipush (-2), 2) := by decide +kernel
theorem dX4_under_21 : decode cX4_under 21 = .ok (.ireturn, 1) := by decide +kernel
theorem dX4_under_22 : decode cX4_under 22 = .ok (.aload_n 0, 1) := by decide +kernel
theorem dX4_under_23 : decode cX4_under 23 = .ok (.getfield 26, 3) := by decide +kernel
theorem dX4_under_26 : decode cX4_under 26 = .ok (.iload_n 2, 1) := by decide +kernel
theorem dX4_under_27 : decode cX4_under 27 = .ok (.iload_n 1, 1) := by decide +kernel
theorem dX4_under_28 : decode cX4_under 28 = .ok (.invokevirtual 147, 3) := by decide +kernel
theorem dX4_under_31 : decode cX4_under 31 = .ok (.ifCond .eq 6, 3) := by decide +kernel
theorem dX4_under_34 : decode cX4_under 34 = .ok (.bipush (-3), 2) := by decide +kernel
theorem dX4_under_36 : decode cX4_under 36 = .ok (.ireturn, 1) := by decide +kernel
theorem dX4_under_37 : decode cX4_under 37 = .ok (.aload_n 0, 1) := by decide +kernel
theorem dX4_under_38 : decode cX4_under 38 = .ok (.getfield 26, 3) := by decide +kernel
theorem dX4_under_41 : decode cX4_under 41 = .ok (.getfield 150, 3) := by decide +kernel
theorem dX4_under_44 : decode cX4_under 44 = .ok (.iload_n 1, 1) := by decide +kernel
theorem dX4_under_45 : decode cX4_under 45 = .ok (.iload_n 2, 1) := by decide +kernel
theorem dX4_under_46 : decode cX4_under 46 = .ok (.iastore, 1) := by decide +kernel
theorem dX4_under_47 : decode cX4_under 47 = .ok (.iconst 1, 1) := by decide +kernel
theorem dX4_under_48 : decode cX4_under 48 = .ok (.ireturn, 1) := by decide +kernel
set_option maxRecDepth 20000 in
theorem ggX4_maker_X4_isPart : GoodIn wsX4_maker wsX4_isPart := goodIn_r _ [5, 6, 7, 4, 8] (by decide +kernel) (by decide +kernel)
set_option maxRecDepth 20000 in
theorem gX4_maker_X4_isPart : GoodIn wsX4_maker (va_wsS RX4 81 yX4_isPart wsX4_isPart) := goodIn_app (goodIn_of _ (by decide +kernel)) ggX4_maker_X4_isPart
set_option maxRecDepth 20000 in
theorem ggX4_maker_X4_isMaker : GoodIn wsX4_maker wsX4_isMaker := goodIn_r _ [11, 6, 7, 4, 8] (by decide +kernel) (by decide +kernel)
set_option maxRecDepth 20000 in
theorem gX4_maker_X4_isMaker : GoodIn wsX4_maker (va_wsS RX4 153 yX4_isMaker wsX4_isMaker) := goodIn_app (goodIn_of _ (by decide +kernel)) ggX4_maker_X4_isMaker
set_option maxRecDepth 20000 in
theorem ggX4_maker_X4_isWithin : GoodIn wsX4_maker wsX4_isWithin := goodIn_r _ [8] (by decide +kernel) (by decide +kernel)
set_option maxRecDepth 20000 in
theorem gX4_maker_X4_isWithin : GoodIn wsX4_maker (va_wsS RX4 48 yX4_isWithin wsX4_isWithin) := goodIn_app (goodIn_of _ (by decide +kernel)) ggX4_maker_X4_isWithin
theorem dX4_maker_0 : decode cX4_maker 0 = .ok (.iload_n 1, 1) := by decide +kernel
theorem dX4_maker_1 : decode cX4_maker 1 = .ok (.invokestatic 81, 3) := by decide +kernel
theorem dX4_maker_4 : decode cX4_maker 4 = .ok (.ifCond .eq 15, 3) := by decide +kernel
theorem dX4_maker_7 : decode cX4_maker 7 = .ok (.iload_n 2, 1) := by decide +kernel
theorem dX4_maker_8 : decode cX4_maker 8 = .ok (.invokestatic 153, 3) := by decide +kernel
theorem dX4_maker_11 : decode cX4_maker 11 = .ok (.ifCond .ne 11, 3) := by decide +kernel
theorem dX4_maker_14 : decode cX4_maker 14 = .ok (.iload_n 2, 1) := by decide +kernel
theorem dX4_maker_15 : decode cX4_maker 15 = .ok (.iconst (-1), 1) := by decide +kernel
theorem dX4_maker_16 : decode cX4_maker 16 = .ok (.if_icmp .eq 6, 3) := by decide +kernel
theorem dX4_maker_19 : decode cX4_maker 19 = .ok (.bipush (-2), 2) := by decide +kernel
theorem dX4_maker_21 : decode cX4_maker 21 = .ok (.ireturn, 1) := by decide +kernel
theorem dX4_maker_22 : decode cX4_maker 22 = .ok (.iload_n 3, 1) := by decide +kernel
theorem dX4_maker_23 : decode cX4_maker 23 = .ok (.iconst 0, 1) := by decide +kernel
theorem dX4_maker_24 : decode cX4_maker 24 = .ok (.bipush 100, 2) := by decide +kernel
theorem dX4_maker_26 : decode cX4_maker 26 = .ok (.invokestatic 48, 3) := by decide +kernel
theorem dX4_maker_29 : decode cX4_maker 29 = .ok (.ifCond .ne 6, 3) := by decide +kernel
theorem dX4_maker_32 : decode cX4_maker 32 = .ok (.bipush (-2), 2) := by decide +kernel
theorem dX4_maker_34 : decode cX4_maker 34 = .ok (.ireturn, 1) := by decide +kernel
theorem dX4_maker_35 : decode cX4_maker 35 = .ok (.aload_n 0, 1) := by decide +kernel
theorem dX4_maker_36 : decode cX4_maker 36 = .ok (.getfield 26, 3) := by decide +kernel
theorem dX4_maker_39 : decode cX4_maker 39 = .ok (.getfield 156, 3) := by decide +kernel
theorem dX4_maker_42 : decode cX4_maker 42 = .ok (.iload_n 1, 1) := by decide +kernel
theorem dX4_maker_43 : decode cX4_maker 43 = .ok (.iload_n 2, 1) := by decide +kernel
theorem dX4_maker_44 : decode cX4_maker 44 = .ok (.iastore, 1) := by decide +kernel
theorem dX4_maker_45 : decode cX4_maker 45 = .ok (.aload_n 0, 1) := by decide +kernel
theorem dX4_maker_46 : decode cX4_maker 46 = .ok (.getfield 26, 3) := by decide +kernel
theorem dX4_maker_49 : decode cX4_maker 49 = .ok (.getfield 159, 3) := by decide +kernel
theorem dX4_maker_52 : decode cX4_maker 52 = .ok (.iload_n 1, 1) := by decide +kernel
theorem dX4_maker_53 : decode cX4_maker 53 = .ok (.iload_n 3, 1) := by decide +kernel
theorem dX4_maker_54 : decode cX4_maker 54 = .ok (.iastore, 1) := by decide +kernel
theorem dX4_maker_55 : decode cX4_maker 55 = .ok (.iconst 1, 1) := by decide +kernel
theorem dX4_maker_56 : decode cX4_maker 56 = .ok (.ireturn, 1) := by decide +kernel
set_option maxRecDepth 20000 in
theorem ggX4_payer_X4_isPart : GoodIn wsX4_payer wsX4_isPart := goodIn_r _ [5, 6, 7, 4, 8] (by decide +kernel) (by decide +kernel)
set_option maxRecDepth 20000 in
theorem gX4_payer_X4_isPart : GoodIn wsX4_payer (va_wsS RX4 81 yX4_isPart wsX4_isPart) := goodIn_app (goodIn_of _ (by decide +kernel)) ggX4_payer_X4_isPart
set_option maxRecDepth 20000 in
theorem ggX4_payer_X1_firstWithMaker : GoodIn wsX4_payer wsX1_firstWithMaker := goodIn_r _ [13, 14, 15, 3, 4, 5, 6, 7, 8, 21, 22, 23] (by decide +kernel) (by decide +kernel)
set_option maxRecDepth 20000 in
theorem gX4_payer_X1_firstWithMaker : GoodIn wsX4_payer (wsV RX4 162 RX1 yX1_firstWithMaker wsX1_firstWithMaker) := goodIn_app (goodIn_of _ (by decide +kernel)) ggX4_payer_X1_firstWithMaker
theorem dX4_payer_0 : decode cX4_payer 0 = .ok (.iload_n 1, 1) := by decide +kernel
theorem dX4_payer_1 : decode cX4_payer 1 = .ok (.invokestatic 81, 3) := by decide +kernel
theorem dX4_payer_4 : decode cX4_payer 4 = .ok (.ifCond .ne 6, 3) := by decide +kernel
theorem dX4_payer_7 : decode cX4_payer 7 = .ok (.bipush (-2), 2) := by decide +kernel
theorem dX4_payer_9 : decode cX4_payer 9 = .ok (.ireturn, 1) := by decide +kernel
theorem dX4_payer_10 : decode cX4_payer 10 = .ok (.aload_n 0, 1) := by decide +kernel
theorem dX4_payer_11 : decode cX4_payer 11 = .ok (.getfield 26, 3) := by decide +kernel
theorem dX4_payer_14 : decode cX4_payer 14 = .ok (.iload_n 1, 1) := by decide +kernel
theorem dX4_payer_15 : decode cX4_payer 15 = .ok (.invokevirtual 162, 3) := by decide +kernel
theorem dX4_payer_18 : decode cX4_payer 18 = .ok (.istore_n 2, 1) := by decide +kernel
theorem dX4_payer_19 : decode cX4_payer 19 = .ok (.iload_n 2, 1) := by decide +kernel
theorem dX4_payer_20 : decode cX4_payer 20 = .ok (.invokestatic 81, 3) := by decide +kernel
theorem dX4_payer_23 : decode cX4_payer 23 = .ok (.ifCond .eq 15, 3) := by decide +kernel
theorem dX4_payer_26 : decode cX4_payer 26 = .ok (.aload_n 0, 1) := by decide +kernel
theorem dX4_payer_27 : decode cX4_payer 27 = .ok (.getfield 26, 3) := by decide +kernel
theorem dX4_payer_30 : decode cX4_payer 30 = .ok (.getfield 156, 3) := by decide +kernel
theorem dX4_payer_33 : decode cX4_payer 33 = .ok (.iload_n 2, 1) := by decide +kernel
theorem dX4_payer_34 : decode cX4_payer 34 = .ok (.iaload, 1) := by decide +kernel
theorem dX4_payer_35 : decode cX4_payer 35 = .ok (.goto 4, 3) := by decide +kernel
theorem dX4_payer_38 : decode cX4_payer 38 = .ok (.iconst (-1), 1) := by decide +kernel
theorem dX4_payer_39 : decode cX4_payer 39 = .ok (.ireturn, 1) := by decide +kernel
set_option maxRecDepth 20000 in
theorem ggX4_pays_X4_isMaker : GoodIn wsX4_pays wsX4_isMaker := goodIn_r _ [4, 5, 6, 3, 7] (by decide +kernel) (by decide +kernel)
set_option maxRecDepth 20000 in
theorem gX4_pays_X4_isMaker : GoodIn wsX4_pays (va_wsS RX4 153 yX4_isMaker wsX4_isMaker) := goodIn_app (goodIn_of _ (by decide +kernel)) ggX4_pays_X4_isMaker
set_option maxRecDepth 20000 in
theorem ggX4_pays_X4_paidBy : GoodIn wsX4_pays wsX4_paidBy := goodIn_r _ [11, 12, 13, 14, 15, 16, 17, 18, 19, 20, 21, 3, 22, 5, 6, 7, 23, 24, 25, 26, 27, 28, 29, 30, 31, 32, 33, 34, 35, 36, 37, 38, 39] (by decide +kernel) (by decide +kernel)
set_option maxRecDepth 20000 in
theorem gX4_pays_X4_paidBy : GoodIn wsX4_pays (wsV RX4 165 RX4 yX4_paidBy wsX4_paidBy) := goodIn_app (goodIn_of _ (by decide +kernel)) ggX4_pays_X4_paidBy
theorem dX4_pays_0 : decode cX4_pays 0 = .ok (.iload_n 1, 1) := by decide +kernel
theorem dX4_pays_1 : decode cX4_pays 1 = .ok (.invokestatic 153, 3) := by decide +kernel
theorem dX4_pays_4 : decode cX4_pays 4 = .ok (.ifCond .eq 11, 3) := by decide +kernel
theorem dX4_pays_7 : decode cX4_pays 7 = .ok (.aload_n 0, 1) := by decide +kernel
theorem dX4_pays_8 : decode cX4_pays 8 = .ok (.iload_n 1, 1) := by decide +kernel
theorem dX4_pays_9 : decode cX4_pays 9 = .ok (.invokevirtual 165, 3) := by decide +kernel
theorem dX4_pays_12 : decode cX4_pays 12 = .ok (.goto 5, 3) := by decide +kernel
theorem dX4_pays_15 : decode cX4_pays 15 = .ok (.bipush (-2), 2) := by decide +kernel
theorem dX4_pays_17 : decode cX4_pays 17 = .ok (.ireturn, 1) := by decide +kernel
set_option maxRecDepth 20000 in
theorem ggX4_left_X0_letCost : GoodIn wsX4_left wsX0_letCost := goodIn_r _ [6, 7, 8, 9, 34, 35, 36, 37, 38, 39, 40, 41] (by decide +kernel) (by decide +kernel)
set_option maxRecDepth 20000 in
theorem gX4_left_X0_letCost : GoodIn wsX4_left (wsV RX4 168 RX0 yX0_letCost wsX0_letCost) := goodIn_app (goodIn_of _ (by decide +kernel)) ggX4_left_X0_letCost
set_option maxRecDepth 20000 in
theorem ggX4_left_X4_paidBy : GoodIn wsX4_left wsX4_paidBy := goodIn_r _ [14, 1, 15, 16, 17, 18, 19, 20, 21, 22, 23, 13, 24, 25, 26, 27, 28, 29, 30, 31, 32, 33, 34, 35, 36, 37, 38, 39, 40, 41, 42, 43, 44] (by decide +kernel) (by decide +kernel)
set_option maxRecDepth 20000 in
theorem gX4_left_X4_paidBy : GoodIn wsX4_left (wsV RX4 165 RX4 yX4_paidBy wsX4_paidBy) := goodIn_app (goodIn_of _ (by decide +kernel)) ggX4_left_X4_paidBy
theorem dX4_left_0 : decode cX4_left 0 = .ok (.aload_n 0, 1) := by decide +kernel
theorem dX4_left_1 : decode cX4_left 1 = .ok (.getfield 19, 3) := by decide +kernel
theorem dX4_left_4 : decode cX4_left 4 = .ok (.invokevirtual 168, 3) := by decide +kernel
theorem dX4_left_7 : decode cX4_left 7 = .ok (.istore_n 1, 1) := by decide +kernel
theorem dX4_left_8 : decode cX4_left 8 = .ok (.iconst 0, 1) := by decide +kernel
theorem dX4_left_9 : decode cX4_left 9 = .ok (.istore_n 2, 1) := by decide +kernel
theorem dX4_left_10 : decode cX4_left 10 = .ok (.iload_n 2, 1) := by decide +kernel
theorem dX4_left_11 : decode cX4_left 11 = .ok (.bipush 6, 2) := by decide +kernel
theorem dX4_left_13 : decode cX4_left 13 = .ok (.if_icmp .ge 17, 3) := by decide +kernel
theorem dX4_left_16 : decode cX4_left 16 = .ok (.iload_n 1, 1) := by decide +kernel
theorem dX4_left_17 : decode cX4_left 17 = .ok (.aload_n 0, 1) := by decide +kernel
theorem dX4_left_18 : decode cX4_left 18 = .ok (.iload_n 2, 1) := by decide +kernel
theorem dX4_left_19 : decode cX4_left 19 = .ok (.invokevirtual 165, 3) := by decide +kernel
theorem dX4_left_22 : decode cX4_left 22 = .ok (.isub, 1) := by decide +kernel
theorem dX4_left_23 : decode cX4_left 23 = .ok (.istore_n 1, 1) := by decide +kernel
theorem dX4_left_24 : decode cX4_left 24 = .ok (.iinc 2 1, 3) := by decide +kernel
theorem dX4_left_27 : decode cX4_left 27 = .ok (.goto (-17), 3) := by decide +kernel
theorem dX4_left_30 : decode cX4_left 30 = .ok (.iload_n 1, 1) := by decide +kernel
theorem dX4_left_31 : decode cX4_left 31 = .ok (.ireturn, 1) := by decide +kernel
set_option maxRecDepth 20000 in
theorem ggX4_called_X4_canBeCalled : GoodIn wsX4_called wsX4_canBeCalled := goodIn_r _ [4, 5, 6, 3, 7, 8, 9, 10, 11, 12, 13] (by decide +kernel) (by decide +kernel)
set_option maxRecDepth 20000 in
theorem gX4_called_X4_canBeCalled : GoodIn wsX4_called (va_wsS RX4 172 yX4_canBeCalled wsX4_canBeCalled) := goodIn_app (goodIn_of _ (by decide +kernel)) ggX4_called_X4_canBeCalled
set_option maxRecDepth 20000 in
theorem ggX4_called_X4_thingsCalled : GoodIn wsX4_called wsX4_thingsCalled := goodIn_r _ [17, 18, 19, 20, 21, 22, 23, 24, 25, 26, 27, 28, 29, 30, 31, 6, 3, 7, 8, 9, 10, 32, 33, 34, 35, 36, 37, 38, 39, 40, 41, 42, 43, 44, 45, 46, 47, 48, 49, 50, 51, 52, 53, 54, 55, 63, 64, 65, 66, 67, 68, 69, 70, 71, 72, 73, 74, 75, 76, 77, 78, 79, 80, 81, 82, 83, 84, 85] (by decide +kernel) (by decide +kernel)
set_option maxRecDepth 20000 in
theorem gX4_called_X4_thingsCalled : GoodIn wsX4_called (wsV RX4 176 RX4 yX4_thingsCalled wsX4_thingsCalled) := goodIn_app (goodIn_of _ (by decide +kernel)) ggX4_called_X4_thingsCalled
set_option maxRecDepth 20000 in
theorem ggX4_called_J13_bitCount_95d88 : GoodIn wsX4_called wsJ13_bitCount_95d88 := goodIn_r _ [59, 60, 61, 62] (by decide +kernel) (by decide +kernel)
set_option maxRecDepth 20000 in
theorem gX4_called_J13_bitCount_95d88 : GoodIn wsX4_called (va_wsS RX4 180 yJ13_bitCount_95d88 wsJ13_bitCount_95d88) := goodIn_app (goodIn_of _ (by decide +kernel)) ggX4_called_J13_bitCount_95d88
theorem dX4_called_0 : decode cX4_called 0 = .ok (.iload_n 1, 1) := by decide +kernel
theorem dX4_called_1 : decode cX4_called 1 = .ok (.iload_n 2, 1) := by decide +kernel
theorem dX4_called_2 : decode cX4_called 2 = .ok (.iload_n 3, 1) := by decide +kernel
theorem dX4_called_3 : decode cX4_called 3 = .ok (.iload 4, 2) := by decide +kernel
theorem dX4_called_5 : decode cX4_called 5 = .ok (.invokestatic 172, 3) := by decide +kernel
theorem dX4_called_8 : decode cX4_called 8 = .ok (.ifCond .ne 6, 3) := by decide +kernel
theorem dX4_called_11 : decode cX4_called 11 = .ok (.bipush (-2), 2) := by decide +kernel
theorem dX4_called_13 : decode cX4_called 13 = .ok (.ireturn, 1) := by decide +kernel
theorem dX4_called_14 : decode cX4_called 14 = .ok (.aload_n 0, 1) := by decide +kernel
theorem dX4_called_15 : decode cX4_called 15 = .ok (.iload_n 1, 1) := by decide +kernel
theorem dX4_called_16 : decode cX4_called 16 = .ok (.iload_n 2, 1) := by decide +kernel
theorem dX4_called_17 : decode cX4_called 17 = .ok (.iload_n 3, 1) := by decide +kernel
theorem dX4_called_18 : decode cX4_called 18 = .ok (.iload 4, 2) := by decide +kernel
theorem dX4_called_20 : decode cX4_called 20 = .ok (.invokevirtual 176, 3) := by decide +kernel
theorem dX4_called_23 : decode cX4_called 23 = .ok (.invokestatic 180, 3) := by decide +kernel
theorem dX4_called_26 : decode cX4_called 26 = .ok (.ireturn, 1) := by decide +kernel
set_option maxRecDepth 20000 in
theorem ggX4_calledAt_X4_canBeCalled : GoodIn wsX4_calledAt wsX4_canBeCalled := goodIn_r _ [4, 5, 6, 3, 7, 8, 9, 10, 11, 12, 13] (by decide +kernel) (by decide +kernel)
set_option maxRecDepth 20000 in
theorem gX4_calledAt_X4_canBeCalled : GoodIn wsX4_calledAt (va_wsS RX4 172 yX4_canBeCalled wsX4_canBeCalled) := goodIn_app (goodIn_of _ (by decide +kernel)) ggX4_calledAt_X4_canBeCalled
set_option maxRecDepth 20000 in
theorem ggX4_calledAt_X4_thingsCalled : GoodIn wsX4_calledAt wsX4_thingsCalled := goodIn_r _ [17, 18, 19, 20, 21, 22, 23, 24, 25, 26, 27, 28, 29, 30, 31, 6, 3, 7, 8, 9, 10, 32, 33, 34, 35, 36, 37, 38, 39, 40, 41, 42, 43, 44, 45, 46, 47, 48, 49, 50, 51, 52, 53, 54, 55, 57, 58, 59, 60, 61, 62, 63, 64, 65, 66, 67, 68, 69, 70, 71, 72, 73, 74, 75, 76, 77, 78, 79] (by decide +kernel) (by decide +kernel)
set_option maxRecDepth 20000 in
theorem gX4_calledAt_X4_thingsCalled : GoodIn wsX4_calledAt (wsV RX4 176 RX4 yX4_thingsCalled wsX4_thingsCalled) := goodIn_app (goodIn_of _ (by decide +kernel)) ggX4_calledAt_X4_thingsCalled
set_option maxRecDepth 20000 in
theorem ggX4_calledAt_X4_hasBit : GoodIn wsX4_calledAt wsX4_hasBit := goodIn_r _ [47] (by decide +kernel) (by decide +kernel)
set_option maxRecDepth 20000 in
theorem gX4_calledAt_X4_hasBit : GoodIn wsX4_calledAt (va_wsS RX4 186 yX4_hasBit wsX4_hasBit) := goodIn_app (goodIn_of _ (by decide +kernel)) ggX4_calledAt_X4_hasBit
theorem dX4_calledAt_0 : decode cX4_calledAt 0 = .ok (.iload_n 1, 1) := by decide +kernel
theorem dX4_calledAt_1 : decode cX4_calledAt 1 = .ok (.iload_n 2, 1) := by decide +kernel
theorem dX4_calledAt_2 : decode cX4_calledAt 2 = .ok (.iload_n 3, 1) := by decide +kernel
theorem dX4_calledAt_3 : decode cX4_calledAt 3 = .ok (.iload 4, 2) := by decide +kernel
theorem dX4_calledAt_5 : decode cX4_calledAt 5 = .ok (.invokestatic 172, 3) := by decide +kernel
theorem dX4_calledAt_8 : decode cX4_calledAt 8 = .ok (.ifCond .eq 8, 3) := by decide +kernel
theorem dX4_calledAt_11 : decode cX4_calledAt 11 = .ok (.iload 5, 2) := by decide +kernel
theorem dX4_calledAt_13 : decode cX4_calledAt 13 = .ok (.ifCond .ge 6, 3) := by decide +kernel
theorem dX4_calledAt_16 : decode cX4_calledAt 16 = .ok (.bipush (-2), 2) := by decide +kernel
theorem dX4_calledAt_18 : decode cX4_calledAt 18 = .ok (.ireturn, 1) := by decide +kernel
theorem dX4_calledAt_19 : decode cX4_calledAt 19 = .ok (.aload_n 0, 1) := by decide +kernel
theorem dX4_calledAt_20 : decode cX4_calledAt 20 = .ok (.iload_n 1, 1) := by decide +kernel
theorem dX4_calledAt_21 : decode cX4_calledAt 21 = .ok (.iload_n 2, 1) := by decide +kernel
theorem dX4_calledAt_22 : decode cX4_calledAt 22 = .ok (.iload_n 3, 1) := by decide +kernel
theorem dX4_calledAt_23 : decode cX4_calledAt 23 = .ok (.iload 4, 2) := by decide +kernel
theorem dX4_calledAt_25 : decode cX4_calledAt 25 = .ok (.invokevirtual 176, 3) := by decide +kernel
theorem dX4_calledAt_28 : decode cX4_calledAt 28 = .ok (.lstore 6, 2) := by decide +kernel
theorem dX4_calledAt_30 : decode cX4_calledAt 30 = .ok (.iconst 0, 1) := by decide +kernel
theorem dX4_calledAt_31 : decode cX4_calledAt 31 = .ok (.istore 8, 2) := by decide +kernel
theorem dX4_calledAt_33 : decode cX4_calledAt 33 = .ok (.iconst 0, 1) := by decide +kernel
theorem dX4_calledAt_34 : decode cX4_calledAt 34 = .ok (.istore 9, 2) := by decide +kernel
theorem dX4_calledAt_36 : decode cX4_calledAt 36 = .ok (.iload 9, 2) := by decide +kernel
theorem dX4_calledAt_38 : decode cX4_calledAt 38 = .ok (.bipush 60, 2) := by decide +kernel
theorem dX4_calledAt_40 : decode cX4_calledAt 40 = .ok (.if_icmp .ge 35, 3) := by decide +kernel
theorem dX4_calledAt_43 : decode cX4_calledAt 43 = .ok (.lload 6, 2) := by decide +kernel
theorem dX4_calledAt_45 : decode cX4_calledAt 45 = .ok (.iload 9, 2) := by decide +kernel
theorem dX4_calledAt_47 : decode cX4_calledAt 47 = .ok (.invokestatic 186, 3) := by decide +kernel
theorem dX4_calledAt_50 : decode cX4_calledAt 50 = .ok (.ifCond .ne 6, 3) := by decide +kernel
theorem dX4_calledAt_53 : decode cX4_calledAt 53 = .ok (.goto 16, 3) := by decide +kernel
theorem dX4_calledAt_56 : decode cX4_calledAt 56 = .ok (.iload 8, 2) := by decide +kernel
theorem dX4_calledAt_58 : decode cX4_calledAt 58 = .ok (.iload 5, 2) := by decide +kernel
theorem dX4_calledAt_60 : decode cX4_calledAt 60 = .ok (.if_icmp .ne 6, 3) := by decide +kernel
theorem dX4_calledAt_63 : decode cX4_calledAt 63 = .ok (.iload 9, 2) := by decide +kernel
theorem dX4_calledAt_65 : decode cX4_calledAt 65 = .ok (.ireturn, 1) := by decide +kernel
theorem dX4_calledAt_66 : decode cX4_calledAt 66 = .ok (.iinc 8 1, 3) := by decide +kernel
theorem dX4_calledAt_69 : decode cX4_calledAt 69 = .ok (.iinc 9 1, 3) := by decide +kernel
theorem dX4_calledAt_72 : decode cX4_calledAt 72 = .ok (.goto (-36), 3) := by decide +kernel
theorem dX4_calledAt_75 : decode cX4_calledAt 75 = .ok (.iconst (-1), 1) := by decide +kernel
theorem dX4_calledAt_76 : decode cX4_calledAt 76 = .ok (.ireturn, 1) := by decide +kernel
set_option maxRecDepth 20000 in
theorem ggX4_count_X4_isWithin : GoodIn wsX4_count wsX4_isWithin := goodIn_r _ [6] (by decide +kernel) (by decide +kernel)
set_option maxRecDepth 20000 in
theorem gX4_count_X4_isWithin : GoodIn wsX4_count (va_wsS RX4 48 yX4_isWithin wsX4_isWithin) := goodIn_app (goodIn_of _ (by decide +kernel)) ggX4_count_X4_isWithin
set_option maxRecDepth 20000 in
theorem ggX4_count_X0_thingsLetFor : GoodIn wsX4_count wsX0_thingsLetFor := goodIn_r _ [11, 12, 13, 14, 15, 16, 17, 10, 18, 19, 20, 21, 5, 22, 51, 52, 53, 54, 55, 56, 57, 58] (by decide +kernel) (by decide +kernel)
set_option maxRecDepth 20000 in
theorem gX4_count_X0_thingsLetFor : GoodIn wsX4_count (wsV RX4 131 RX0 yX0_thingsLetFor wsX0_thingsLetFor) := goodIn_app (goodIn_of _ (by decide +kernel)) ggX4_count_X0_thingsLetFor
set_option maxRecDepth 20000 in
theorem ggX4_count_J13_bitCount_95d88 : GoodIn wsX4_count wsJ13_bitCount_95d88 := goodIn_r _ [26, 27, 28, 29] (by decide +kernel) (by decide +kernel)
set_option maxRecDepth 20000 in
theorem gX4_count_J13_bitCount_95d88 : GoodIn wsX4_count (va_wsS RX4 180 yJ13_bitCount_95d88 wsJ13_bitCount_95d88) := goodIn_app (goodIn_of _ (by decide +kernel)) ggX4_count_J13_bitCount_95d88
set_option maxRecDepth 20000 in
theorem ggX4_count_X0_letCost : GoodIn wsX4_count wsX0_letCost := goodIn_r _ [33, 12, 19, 34, 51, 52, 53, 54, 55, 56, 57, 58] (by decide +kernel) (by decide +kernel)
set_option maxRecDepth 20000 in
theorem gX4_count_X0_letCost : GoodIn wsX4_count (wsV RX4 168 RX0 yX0_letCost wsX0_letCost) := goodIn_app (goodIn_of _ (by decide +kernel)) ggX4_count_X0_letCost
set_option maxRecDepth 20000 in
theorem ggX4_count_X0_judgedAs : GoodIn wsX4_count wsX0_judgedAs := goodIn_r _ [38, 12, 19, 51, 52, 53, 54, 55, 56, 57, 58] (by decide +kernel) (by decide +kernel)
set_option maxRecDepth 20000 in
theorem gX4_count_X0_judgedAs : GoodIn wsX4_count (wsV RX4 191 RX0 yX0_judgedAs wsX0_judgedAs) := goodIn_app (goodIn_of _ (by decide +kernel)) ggX4_count_X0_judgedAs
theorem dX4_count_0 : decode cX4_count 0 = .ok (.iload_n 1, 1) := by decide +kernel
theorem dX4_count_1 : decode cX4_count 1 = .ok (.iconst 0, 1) := by decide +kernel
theorem dX4_count_2 : decode cX4_count 2 = .ok (.bipush 8, 2) := by decide +kernel
theorem dX4_count_4 : decode cX4_count 4 = .ok (.invokestatic 48, 3) := by decide +kernel
theorem dX4_count_7 : decode cX4_count 7 = .ok (.ifCond .ne 6, 3) := by decide +kernel
theorem dX4_count_10 : decode cX4_count 10 = .ok (.bipush (-2), 2) := by decide +kernel
theorem dX4_count_12 : decode cX4_count 12 = .ok (.ireturn, 1) := by decide +kernel
theorem dX4_count_13 : decode cX4_count 13 = .ok (.iload_n 1, 1) := by decide +kernel
theorem dX4_count_14 : decode cX4_count 14 = .ok (.ifCond .ne 11, 3) := by decide +kernel
theorem dX4_count_17 : decode cX4_count 17 = .ok (.aload_n 0, 1) := by decide +kernel
theorem dX4_count_18 : decode cX4_count 18 = .ok (.getfield 12, 3) := by decide +kernel
theorem dX4_count_21 : decode cX4_count 21 = .ok (.getfield 190, 3) := by decide +kernel
theorem dX4_count_24 : decode cX4_count 24 = .ok (.ireturn, 1) := by decide +kernel
theorem dX4_count_25 : decode cX4_count 25 = .ok (.iload_n 1, 1) := by decide +kernel
theorem dX4_count_26 : decode cX4_count 26 = .ok (.iconst 1, 1) := by decide +kernel
theorem dX4_count_27 : decode cX4_count 27 = .ok (.if_icmp .ne 11, 3) := by decide +kernel
theorem dX4_count_30 : decode cX4_count 30 = .ok (.aload_n 0, 1) := by decide +kernel
theorem dX4_count_31 : decode cX4_count 31 = .ok (.getfield 19, 3) := by decide +kernel
theorem dX4_count_34 : decode cX4_count 34 = .ok (.getfield 94, 3) := by decide +kernel
theorem dX4_count_37 : decode cX4_count 37 = .ok (.ireturn, 1) := by decide +kernel
theorem dX4_count_38 : decode cX4_count 38 = .ok (.iload_n 1, 1) := by decide +kernel
theorem dX4_count_39 : decode cX4_count 39 = .ok (.bipush 7, 2) := by decide +kernel
theorem dX4_count_41 : decode cX4_count 41 = .ok (.if_icmp .ne 20, 3) := by decide +kernel
theorem dX4_count_44 : decode cX4_count 44 = .ok (.aload_n 0, 1) := by decide +kernel
theorem dX4_count_45 : decode cX4_count 45 = .ok (.getfield 19, 3) := by decide +kernel
theorem dX4_count_48 : decode cX4_count 48 = .ok (.sipush 1023, 3) := by decide +kernel
theorem dX4_count_51 : decode cX4_count 51 = .ok (.sipush 300, 3) := by decide +kernel
theorem dX4_count_54 : decode cX4_count 54 = .ok (.invokevirtual 131, 3) := by decide +kernel
theorem dX4_count_57 : decode cX4_count 57 = .ok (.invokestatic 180, 3) := by decide +kernel
theorem dX4_count_60 : decode cX4_count 60 = .ok (.ireturn, 1) := by decide +kernel
theorem dX4_count_61 : decode cX4_count 61 = .ok (.iload_n 1, 1) := by decide +kernel
theorem dX4_count_62 : decode cX4_count 62 = .ok (.bipush 8, 2) := by decide +kernel
theorem dX4_count_64 : decode cX4_count 64 = .ok (.if_icmp .ne 11, 3) := by decide +kernel
theorem dX4_count_67 : decode cX4_count 67 = .ok (.aload_n 0, 1) := by decide +kernel
theorem dX4_count_68 : decode cX4_count 68 = .ok (.getfield 19, 3) := by decide +kernel
theorem dX4_count_71 : decode cX4_count 71 = .ok (.invokevirtual 168, 3) := by decide +kernel
theorem dX4_count_74 : decode cX4_count 74 = .ok (.ireturn, 1) := by decide +kernel
theorem dX4_count_75 : decode cX4_count 75 = .ok (.aload_n 0, 1) := by decide +kernel
theorem dX4_count_76 : decode cX4_count 76 = .ok (.getfield 19, 3) := by decide +kernel
theorem dX4_count_79 : decode cX4_count 79 = .ok (.iload_n 1, 1) := by decide +kernel
theorem dX4_count_80 : decode cX4_count 80 = .ok (.iconst 2, 1) := by decide +kernel
theorem dX4_count_81 : decode cX4_count 81 = .ok (.isub, 1) := by decide +kernel
theorem dX4_count_82 : decode cX4_count 82 = .ok (.invokevirtual 191, 3) := by decide +kernel
theorem dX4_count_85 : decode cX4_count 85 = .ok (.ireturn, 1) := by decide +kernel
set_option maxRecDepth 20000 in
theorem ggX4_digest_X4_count : GoodIn wsX4_digest wsX4_count := goodIn_r _ [10, 3, 4, 11, 12, 9, 13, 14, 15, 16, 17, 18, 19, 20, 21, 22, 23, 24, 25, 26, 27, 28, 29, 30, 31, 32, 33, 34, 35, 36, 37, 38, 39, 40, 41, 42, 43, 44, 45, 90, 91, 92, 93, 94, 95, 96, 97, 98, 99, 100, 101, 102, 103, 104, 105, 106, 107, 108, 109] (by decide +kernel) (by decide +kernel)
set_option maxRecDepth 20000 in
theorem gX4_digest_X4_count : GoodIn wsX4_digest (wsV RX4 198 RX4 yX4_count wsX4_count) := goodIn_app (goodIn_of _ (by decide +kernel)) ggX4_digest_X4_count
set_option maxRecDepth 20000 in
theorem ggX4_digest_X2_digestOnto : GoodIn wsX4_digest wsX2_digestOnto := goodIn_r _ [50, 51, 52, 53, 54, 55, 56, 57, 58, 59, 49, 60, 61, 62, 63, 64, 65, 66, 95, 96, 97, 98, 99, 100, 101] (by decide +kernel) (by decide +kernel)
set_option maxRecDepth 20000 in
theorem gX4_digest_X2_digestOnto : GoodIn wsX4_digest (wsV RX4 201 RX2 yX2_digestOnto wsX2_digestOnto) := goodIn_app (goodIn_of _ (by decide +kernel)) ggX4_digest_X2_digestOnto
set_option maxRecDepth 20000 in
theorem ggX4_digest_X0_digestOnto : GoodIn wsX4_digest wsX0_digestOnto := goodIn_r _ [70, 19, 71, 72, 73, 74, 17, 75, 21, 20, 76, 27, 41, 26, 77, 78, 79, 80, 102, 103, 104, 105, 106, 107, 108, 109] (by decide +kernel) (by decide +kernel)
set_option maxRecDepth 20000 in
theorem gX4_digest_X0_digestOnto : GoodIn wsX4_digest (wsV RX4 204 RX0 yX0_digestOnto wsX0_digestOnto) := goodIn_app (goodIn_of _ (by decide +kernel)) ggX4_digest_X0_digestOnto
set_option maxRecDepth 20000 in
theorem ggX4_digest_X1_digestOnto : GoodIn wsX4_digest wsX1_digestOnto := goodIn_r _ [85, 86, 87, 88, 89, 110, 111, 112] (by decide +kernel) (by decide +kernel)
set_option maxRecDepth 20000 in
theorem gX4_digest_X1_digestOnto : GoodIn wsX4_digest (wsV RX4 205 RX1 yX1_digestOnto wsX1_digestOnto) := goodIn_app (goodIn_of _ (by decide +kernel)) ggX4_digest_X1_digestOnto
theorem dX4_digest_0 : decode cX4_digest 0 = .ok (.ldc2_w 194, 3) := by decide +kernel
theorem dX4_digest_3 : decode cX4_digest 3 = .ok (.lstore_n 1, 1) := by decide +kernel
theorem dX4_digest_4 : decode cX4_digest 4 = .ok (.iconst 0, 1) := by decide +kernel
theorem dX4_digest_5 : decode cX4_digest 5 = .ok (.istore_n 3, 1) := by decide +kernel
theorem dX4_digest_6 : decode cX4_digest 6 = .ok (.iload_n 3, 1) := by decide +kernel
theorem dX4_digest_7 : decode cX4_digest 7 = .ok (.bipush 8, 2) := by decide +kernel
theorem dX4_digest_9 : decode cX4_digest 9 = .ok (.if_icmp .gt 22, 3) := by decide +kernel
theorem dX4_digest_12 : decode cX4_digest 12 = .ok (.ldc2_w 196, 3) := by decide +kernel
theorem dX4_digest_15 : decode cX4_digest 15 = .ok (.lload_n 1, 1) := by decide +kernel
theorem dX4_digest_16 : decode cX4_digest 16 = .ok (.lmul, 1) := by decide +kernel
theorem dX4_digest_17 : decode cX4_digest 17 = .ok (.aload_n 0, 1) := by decide +kernel
theorem dX4_digest_18 : decode cX4_digest 18 = .ok (.iload_n 3, 1) := by decide +kernel
theorem dX4_digest_19 : decode cX4_digest 19 = .ok (.invokevirtual 198, 3) := by decide +kernel
theorem dX4_digest_22 : decode cX4_digest 22 = .ok (.i2l, 1) := by decide +kernel
theorem dX4_digest_23 : decode cX4_digest 23 = .ok (.ladd, 1) := by decide +kernel
theorem dX4_digest_24 : decode cX4_digest 24 = .ok (.lstore_n 1, 1) := by decide +kernel
theorem dX4_digest_25 : decode cX4_digest 25 = .ok (.iinc 3 1, 3) := by decide +kernel
theorem dX4_digest_28 : decode cX4_digest 28 = .ok (.goto (-22), 3) := by decide +kernel
theorem dX4_digest_31 : decode cX4_digest 31 = .ok (.aload_n 0, 1) := by decide +kernel
theorem dX4_digest_32 : decode cX4_digest 32 = .ok (.getfield 12, 3) := by decide +kernel
theorem dX4_digest_35 : decode cX4_digest 35 = .ok (.lload_n 1, 1) := by decide +kernel
theorem dX4_digest_36 : decode cX4_digest 36 = .ok (.invokevirtual 201, 3) := by decide +kernel
theorem dX4_digest_39 : decode cX4_digest 39 = .ok (.lstore_n 1, 1) := by decide +kernel
theorem dX4_digest_40 : decode cX4_digest 40 = .ok (.aload_n 0, 1) := by decide +kernel
theorem dX4_digest_41 : decode cX4_digest 41 = .ok (.getfield 19, 3) := by decide +kernel
theorem dX4_digest_44 : decode cX4_digest 44 = .ok (.lload_n 1, 1) := by decide +kernel
theorem dX4_digest_45 : decode cX4_digest 45 = .ok (.invokevirtual 204, 3) := by decide +kernel
theorem dX4_digest_48 : decode cX4_digest 48 = .ok (.lstore_n 1, 1) := by decide +kernel
theorem dX4_digest_49 : decode cX4_digest 49 = .ok (.aload_n 0, 1) := by decide +kernel
theorem dX4_digest_50 : decode cX4_digest 50 = .ok (.getfield 26, 3) := by decide +kernel
theorem dX4_digest_53 : decode cX4_digest 53 = .ok (.lload_n 1, 1) := by decide +kernel
theorem dX4_digest_54 : decode cX4_digest 54 = .ok (.invokevirtual 205, 3) := by decide +kernel
theorem dX4_digest_57 : decode cX4_digest 57 = .ok (.lreturn, 1) := by decide +kernel
theorem dX4_isWithin_0 : decode cX4_isWithin 0 = .ok (.iload_n 0, 1) := by decide +kernel
theorem dX4_isWithin_1 : decode cX4_isWithin 1 = .ok (.iload_n 1, 1) := by decide +kernel
theorem dX4_isWithin_2 : decode cX4_isWithin 2 = .ok (.if_icmp .lt 12, 3) := by decide +kernel
theorem dX4_isWithin_5 : decode cX4_isWithin 5 = .ok (.iload_n 0, 1) := by decide +kernel
theorem dX4_isWithin_6 : decode cX4_isWithin 6 = .ok (.iload_n 2, 1) := by decide +kernel
theorem dX4_isWithin_7 : decode cX4_isWithin 7 = .ok (.if_icmp .gt 7, 3) := by decide +kernel
theorem dX4_isWithin_10 : decode cX4_isWithin 10 = .ok (.iconst 1, 1) := by decide +kernel
theorem dX4_isWithin_11 : decode cX4_isWithin 11 = .ok (.goto 4, 3) := by decide +kernel
theorem dX4_isWithin_14 : decode cX4_isWithin 14 = .ok (.iconst 0, 1) := by decide +kernel
theorem dX4_isWithin_15 : decode cX4_isWithin 15 = .ok (.ireturn, 1) := by decide +kernel
set_option maxRecDepth 20000 in
theorem ggX4_isBatch_X4_isWithin : GoodIn wsX4_isBatch wsX4_isWithin := goodIn_r _ [4] (by decide +kernel) (by decide +kernel)
set_option maxRecDepth 20000 in
theorem gX4_isBatch_X4_isWithin : GoodIn wsX4_isBatch (va_wsS RX4 48 yX4_isWithin wsX4_isWithin) := goodIn_app (goodIn_of _ (by decide +kernel)) ggX4_isBatch_X4_isWithin
theorem dX4_isBatch_0 : decode cX4_isBatch 0 = .ok (.iload_n 0, 1) := by decide +kernel
theorem dX4_isBatch_1 : decode cX4_isBatch 1 = .ok (.iconst 0, 1) := by decide +kernel
theorem dX4_isBatch_2 : decode cX4_isBatch 2 = .ok (.bipush 7, 2) := by decide +kernel
theorem dX4_isBatch_4 : decode cX4_isBatch 4 = .ok (.invokestatic 48, 3) := by decide +kernel
theorem dX4_isBatch_7 : decode cX4_isBatch 7 = .ok (.ireturn, 1) := by decide +kernel
set_option maxRecDepth 20000 in
theorem ggX4_isLand_X4_isWithin : GoodIn wsX4_isLand wsX4_isWithin := goodIn_r _ [4] (by decide +kernel) (by decide +kernel)
set_option maxRecDepth 20000 in
theorem gX4_isLand_X4_isWithin : GoodIn wsX4_isLand (va_wsS RX4 48 yX4_isWithin wsX4_isWithin) := goodIn_app (goodIn_of _ (by decide +kernel)) ggX4_isLand_X4_isWithin
theorem dX4_isLand_0 : decode cX4_isLand 0 = .ok (.iload_n 0, 1) := by decide +kernel
theorem dX4_isLand_1 : decode cX4_isLand 1 = .ok (.iconst 0, 1) := by decide +kernel
theorem dX4_isLand_2 : decode cX4_isLand 2 = .ok (.iconst 3, 1) := by decide +kernel
theorem dX4_isLand_3 : decode cX4_isLand 3 = .ok (.invokestatic 48, 3) := by decide +kernel
theorem dX4_isLand_6 : decode cX4_isLand 6 = .ok (.ireturn, 1) := by decide +kernel
set_option maxRecDepth 20000 in
theorem ggX4_isPart_X4_isWithin : GoodIn wsX4_isPart wsX4_isWithin := goodIn_r _ [4] (by decide +kernel) (by decide +kernel)
set_option maxRecDepth 20000 in
theorem gX4_isPart_X4_isWithin : GoodIn wsX4_isPart (va_wsS RX4 48 yX4_isWithin wsX4_isWithin) := goodIn_app (goodIn_of _ (by decide +kernel)) ggX4_isPart_X4_isWithin
theorem dX4_isPart_0 : decode cX4_isPart 0 = .ok (.iload_n 0, 1) := by decide +kernel
theorem dX4_isPart_1 : decode cX4_isPart 1 = .ok (.iconst 0, 1) := by decide +kernel
theorem dX4_isPart_2 : decode cX4_isPart 2 = .ok (.bipush 9, 2) := by decide +kernel
theorem dX4_isPart_4 : decode cX4_isPart 4 = .ok (.invokestatic 48, 3) := by decide +kernel
theorem dX4_isPart_7 : decode cX4_isPart 7 = .ok (.ireturn, 1) := by decide +kernel
set_option maxRecDepth 20000 in
theorem ggX4_isMaker_X4_isWithin : GoodIn wsX4_isMaker wsX4_isWithin := goodIn_r _ [4] (by decide +kernel) (by decide +kernel)
set_option maxRecDepth 20000 in
theorem gX4_isMaker_X4_isWithin : GoodIn wsX4_isMaker (va_wsS RX4 48 yX4_isWithin wsX4_isWithin) := goodIn_app (goodIn_of _ (by decide +kernel)) ggX4_isMaker_X4_isWithin
theorem dX4_isMaker_0 : decode cX4_isMaker 0 = .ok (.iload_n 0, 1) := by decide +kernel
theorem dX4_isMaker_1 : decode cX4_isMaker 1 = .ok (.iconst 0, 1) := by decide +kernel
theorem dX4_isMaker_2 : decode cX4_isMaker 2 = .ok (.iconst 5, 1) := by decide +kernel
theorem dX4_isMaker_3 : decode cX4_isMaker 3 = .ok (.invokestatic 48, 3) := by decide +kernel
theorem dX4_isMaker_6 : decode cX4_isMaker 6 = .ok (.ireturn, 1) := by decide +kernel
set_option maxRecDepth 20000 in
theorem ggX4_isSaleMonth_X4_isWithin : GoodIn wsX4_isSaleMonth wsX4_isWithin := goodIn_r _ [4] (by decide +kernel) (by decide +kernel)
set_option maxRecDepth 20000 in
theorem gX4_isSaleMonth_X4_isWithin : GoodIn wsX4_isSaleMonth (va_wsS RX4 48 yX4_isWithin wsX4_isWithin) := goodIn_app (goodIn_of _ (by decide +kernel)) ggX4_isSaleMonth_X4_isWithin
theorem dX4_isSaleMonth_0 : decode cX4_isSaleMonth 0 = .ok (.iload_n 0, 1) := by decide +kernel
theorem dX4_isSaleMonth_1 : decode cX4_isSaleMonth 1 = .ok (.iconst 0, 1) := by decide +kernel
theorem dX4_isSaleMonth_2 : decode cX4_isSaleMonth 2 = .ok (.bipush 119, 2) := by decide +kernel
theorem dX4_isSaleMonth_4 : decode cX4_isSaleMonth 4 = .ok (.invokestatic 48, 3) := by decide +kernel
theorem dX4_isSaleMonth_7 : decode cX4_isSaleMonth 7 = .ok (.ireturn, 1) := by decide +kernel
set_option maxRecDepth 20000 in
theorem ggX4_isMonth_X4_isWithin : GoodIn wsX4_isMonth wsX4_isWithin := goodIn_r _ [4] (by decide +kernel) (by decide +kernel)
set_option maxRecDepth 20000 in
theorem gX4_isMonth_X4_isWithin : GoodIn wsX4_isMonth (va_wsS RX4 48 yX4_isWithin wsX4_isWithin) := goodIn_app (goodIn_of _ (by decide +kernel)) ggX4_isMonth_X4_isWithin
theorem dX4_isMonth_0 : decode cX4_isMonth 0 = .ok (.iload_n 0, 1) := by decide +kernel
theorem dX4_isMonth_1 : decode cX4_isMonth 1 = .ok (.iconst 0, 1) := by decide +kernel
theorem dX4_isMonth_2 : decode cX4_isMonth 2 = .ok (.sipush 300, 3) := by decide +kernel
theorem dX4_isMonth_5 : decode cX4_isMonth 5 = .ok (.invokestatic 48, 3) := by decide +kernel
theorem dX4_isMonth_8 : decode cX4_isMonth 8 = .ok (.ireturn, 1) := by decide +kernel
theorem dX4_isAboveOrBelow_0 : decode cX4_isAboveOrBelow 0 = .ok (.iload_n 0, 1) := by decide +kernel
theorem dX4_isAboveOrBelow_1 : decode cX4_isAboveOrBelow 1 = .ok (.ifCond .eq 8, 3) := by decide +kernel
theorem dX4_isAboveOrBelow_4 : decode cX4_isAboveOrBelow 4 = .ok (.iload_n 0, 1) := by decide +kernel
theorem dX4_isAboveOrBelow_5 : decode cX4_isAboveOrBelow 5 = .ok (.iconst 1, 1) := by decide +kernel
theorem dX4_isAboveOrBelow_6 : decode cX4_isAboveOrBelow 6 = .ok (.if_icmp .ne 7, 3) := by decide +kernel
theorem dX4_isAboveOrBelow_9 : decode cX4_isAboveOrBelow 9 = .ok (.iconst 1, 1) := by decide +kernel
theorem dX4_isAboveOrBelow_10 : decode cX4_isAboveOrBelow 10 = .ok (.goto 4, 3) := by decide +kernel
theorem dX4_isAboveOrBelow_13 : decode cX4_isAboveOrBelow 13 = .ok (.iconst 0, 1) := by decide +kernel
theorem dX4_isAboveOrBelow_14 : decode cX4_isAboveOrBelow 14 = .ok (.ireturn, 1) := by decide +kernel
set_option maxRecDepth 20000 in
theorem ggX4_canBeCalled_X4_isPart : GoodIn wsX4_canBeCalled wsX4_isPart := goodIn_r _ [4, 5, 6, 3, 7] (by decide +kernel) (by decide +kernel)
set_option maxRecDepth 20000 in
theorem gX4_canBeCalled_X4_isPart : GoodIn wsX4_canBeCalled (va_wsS RX4 81 yX4_isPart wsX4_isPart) := goodIn_app (goodIn_of _ (by decide +kernel)) ggX4_canBeCalled_X4_isPart
set_option maxRecDepth 20000 in
theorem ggX4_canBeCalled_X4_isWithin : GoodIn wsX4_canBeCalled wsX4_isWithin := goodIn_r _ [7] (by decide +kernel) (by decide +kernel)
set_option maxRecDepth 20000 in
theorem gX4_canBeCalled_X4_isWithin : GoodIn wsX4_canBeCalled (va_wsS RX4 48 yX4_isWithin wsX4_isWithin) := goodIn_app (goodIn_of _ (by decide +kernel)) ggX4_canBeCalled_X4_isWithin
set_option maxRecDepth 20000 in
theorem ggX4_canBeCalled_X4_isSaleMonth : GoodIn wsX4_canBeCalled wsX4_isSaleMonth := goodIn_r _ [10, 5, 6, 3, 7] (by decide +kernel) (by decide +kernel)
set_option maxRecDepth 20000 in
theorem gX4_canBeCalled_X4_isSaleMonth : GoodIn wsX4_canBeCalled (va_wsS RX4 45 yX4_isSaleMonth wsX4_isSaleMonth) := goodIn_app (goodIn_of _ (by decide +kernel)) ggX4_canBeCalled_X4_isSaleMonth
theorem dX4_canBeCalled_0 : decode cX4_canBeCalled 0 = .ok (.iload_n 0, 1) := by decide +kernel
theorem dX4_canBeCalled_1 : decode cX4_canBeCalled 1 = .ok (.invokestatic 81, 3) := by decide +kernel
theorem dX4_canBeCalled_4 : decode cX4_canBeCalled 4 = .ok (.ifCond .eq 37, 3) := by decide +kernel
theorem dX4_canBeCalled_7 : decode cX4_canBeCalled 7 = .ok (.iload_n 1, 1) := by decide +kernel
theorem dX4_canBeCalled_8 : decode cX4_canBeCalled 8 = .ok (.iconst 1, 1) := by decide +kernel
theorem dX4_canBeCalled_9 : decode cX4_canBeCalled 9 = .ok (.sipush 255, 3) := by decide +kernel
theorem dX4_canBeCalled_12 : decode cX4_canBeCalled 12 = .ok (.invokestatic 48, 3) := by decide +kernel
theorem dX4_canBeCalled_15 : decode cX4_canBeCalled 15 = .ok (.ifCond .eq 26, 3) := by decide +kernel
theorem dX4_canBeCalled_18 : decode cX4_canBeCalled 18 = .ok (.iload_n 2, 1) := by decide +kernel
theorem dX4_canBeCalled_19 : decode cX4_canBeCalled 19 = .ok (.invokestatic 45, 3) := by decide +kernel
theorem dX4_canBeCalled_22 : decode cX4_canBeCalled 22 = .ok (.ifCond .eq 19, 3) := by decide +kernel
theorem dX4_canBeCalled_25 : decode cX4_canBeCalled 25 = .ok (.iload_n 3, 1) := by decide +kernel
theorem dX4_canBeCalled_26 : decode cX4_canBeCalled 26 = .ok (.invokestatic 45, 3) := by decide +kernel
theorem dX4_canBeCalled_29 : decode cX4_canBeCalled 29 = .ok (.ifCond .eq 12, 3) := by decide +kernel
theorem dX4_canBeCalled_32 : decode cX4_canBeCalled 32 = .ok (.iload_n 2, 1) := by decide +kernel
theorem dX4_canBeCalled_33 : decode cX4_canBeCalled 33 = .ok (.iload_n 3, 1) := by decide +kernel
theorem dX4_canBeCalled_34 : decode cX4_canBeCalled 34 = .ok (.if_icmp .gt 7, 3) := by decide +kernel
theorem dX4_canBeCalled_37 : decode cX4_canBeCalled 37 = .ok (.iconst 1, 1) := by decide +kernel
theorem dX4_canBeCalled_38 : decode cX4_canBeCalled 38 = .ok (.goto 4, 3) := by decide +kernel
theorem dX4_canBeCalled_41 : decode cX4_canBeCalled 41 = .ok (.iconst 0, 1) := by decide +kernel
theorem dX4_canBeCalled_42 : decode cX4_canBeCalled 42 = .ok (.ireturn, 1) := by decide +kernel
theorem dX4_hasBit_0 : decode cX4_hasBit 0 = .ok (.lload_n 0, 1) := by decide +kernel
theorem dX4_hasBit_1 : decode cX4_hasBit 1 = .ok (.iload_n 2, 1) := by decide +kernel
theorem dX4_hasBit_2 : decode cX4_hasBit 2 = .ok (.lushr, 1) := by decide +kernel
theorem dX4_hasBit_3 : decode cX4_hasBit 3 = .ok (.lconst 1, 1) := by decide +kernel
theorem dX4_hasBit_4 : decode cX4_hasBit 4 = .ok (.land, 1) := by decide +kernel
theorem dX4_hasBit_5 : decode cX4_hasBit 5 = .ok (.lconst 0, 1) := by decide +kernel
theorem dX4_hasBit_6 : decode cX4_hasBit 6 = .ok (.lcmp, 1) := by decide +kernel
theorem dX4_hasBit_7 : decode cX4_hasBit 7 = .ok (.ifCond .eq 7, 3) := by decide +kernel
theorem dX4_hasBit_10 : decode cX4_hasBit 10 = .ok (.iconst 1, 1) := by decide +kernel
theorem dX4_hasBit_11 : decode cX4_hasBit 11 = .ok (.goto 4, 3) := by decide +kernel
theorem dX4_hasBit_14 : decode cX4_hasBit 14 = .ok (.iconst 0, 1) := by decide +kernel
theorem dX4_hasBit_15 : decode cX4_hasBit 15 = .ok (.ireturn, 1) := by decide +kernel
set_option maxRecDepth 20000 in
theorem ggX4_judge_X0_anyLet : GoodIn wsX4_judge wsX0_anyLet := goodIn_r _ [8, 9, 10, 11, 12, 13, 36, 37, 38, 39, 40, 41, 42, 43] (by decide +kernel) (by decide +kernel)
set_option maxRecDepth 20000 in
theorem gX4_judge_X0_anyLet : GoodIn wsX4_judge (wsV RX4 206 RX0 yX0_anyLet wsX0_anyLet) := goodIn_app (goodIn_of _ (by decide +kernel)) ggX4_judge_X0_anyLet
set_option maxRecDepth 20000 in
theorem ggX4_judge_X2_covers : GoodIn wsX4_judge wsX2_covers := goodIn_r _ [18, 19, 20, 21, 22, 23, 29, 30, 31, 32, 33, 34, 35] (by decide +kernel) (by decide +kernel)
set_option maxRecDepth 20000 in
theorem gX4_judge_X2_covers : GoodIn wsX4_judge (wsV RX4 73 RX2 yX2_covers wsX2_covers) := goodIn_app (goodIn_of _ (by decide +kernel)) ggX4_judge_X2_covers
theorem dX4_judge_0 : decode cX4_judge 0 = .ok (.iload_n 3, 1) := by decide +kernel
theorem dX4_judge_1 : decode cX4_judge 1 = .ok (.aload_n 0, 1) := by decide +kernel
theorem dX4_judge_2 : decode cX4_judge 2 = .ok (.getfield 12, 3) := by decide +kernel
theorem dX4_judge_5 : decode cX4_judge 5 = .ok (.getfield 84, 3) := by decide +kernel
theorem dX4_judge_8 : decode cX4_judge 8 = .ok (.iload_n 1, 1) := by decide +kernel
theorem dX4_judge_9 : decode cX4_judge 9 = .ok (.iaload, 1) := by decide +kernel
theorem dX4_judge_10 : decode cX4_judge 10 = .ok (.if_icmp .ge 5, 3) := by decide +kernel
theorem dX4_judge_13 : decode cX4_judge 13 = .ok (.iconst 1, 1) := by decide +kernel
theorem dX4_judge_14 : decode cX4_judge 14 = .ok (.ireturn, 1) := by decide +kernel
theorem dX4_judge_15 : decode cX4_judge 15 = .ok (.aload_n 0, 1) := by decide +kernel
theorem dX4_judge_16 : decode cX4_judge 16 = .ok (.getfield 19, 3) := by decide +kernel
theorem dX4_judge_19 : decode cX4_judge 19 = .ok (.iload_n 1, 1) := by decide +kernel
theorem dX4_judge_20 : decode cX4_judge 20 = .ok (.iload_n 2, 1) := by decide +kernel
theorem dX4_judge_21 : decode cX4_judge 21 = .ok (.iload_n 3, 1) := by decide +kernel
theorem dX4_judge_22 : decode cX4_judge 22 = .ok (.iload_n 3, 1) := by decide +kernel
theorem dX4_judge_23 : decode cX4_judge 23 = .ok (.invokevirtual 206, 3) := by decide +kernel
theorem dX4_judge_26 : decode cX4_judge 26 = .ok (.ifCond .eq 5, 3) := by decide +kernel
theorem dX4_judge_29 : decode cX4_judge 29 = .ok (.iconst 2, 1) := by decide +kernel
theorem dX4_judge_30 : decode cX4_judge 30 = .ok (.ireturn, 1) := by decide +kernel
theorem dX4_judge_31 : decode cX4_judge 31 = .ok (.aload_n 0, 1) := by decide +kernel
theorem dX4_judge_32 : decode cX4_judge 32 = .ok (.getfield 12, 3) := by decide +kernel
theorem dX4_judge_35 : decode cX4_judge 35 = .ok (.iload_n 1, 1) := by decide +kernel
theorem dX4_judge_36 : decode cX4_judge 36 = .ok (.iload_n 3, 1) := by decide +kernel
theorem dX4_judge_37 : decode cX4_judge 37 = .ok (.invokevirtual 73, 3) := by decide +kernel
theorem dX4_judge_40 : decode cX4_judge 40 = .ok (.ifCond .ne 5, 3) := by decide +kernel
theorem dX4_judge_43 : decode cX4_judge 43 = .ok (.iconst 3, 1) := by decide +kernel
theorem dX4_judge_44 : decode cX4_judge 44 = .ok (.ireturn, 1) := by decide +kernel
theorem dX4_judge_45 : decode cX4_judge 45 = .ok (.aload_n 0, 1) := by decide +kernel
theorem dX4_judge_46 : decode cX4_judge 46 = .ok (.getfield 19, 3) := by decide +kernel
theorem dX4_judge_49 : decode cX4_judge 49 = .ok (.iload_n 1, 1) := by decide +kernel
theorem dX4_judge_50 : decode cX4_judge 50 = .ok (.iload_n 2, 1) := by decide +kernel
theorem dX4_judge_51 : decode cX4_judge 51 = .ok (.iload_n 3, 1) := by decide +kernel
theorem dX4_judge_52 : decode cX4_judge 52 = .ok (.aload_n 0, 1) := by decide +kernel
theorem dX4_judge_53 : decode cX4_judge 53 = .ok (.getfield 37, 3) := by decide +kernel
theorem dX4_judge_56 : decode cX4_judge 56 = .ok (.isub, 1) := by decide +kernel
theorem dX4_judge_57 : decode cX4_judge 57 = .ok (.iload_n 3, 1) := by decide +kernel
theorem dX4_judge_58 : decode cX4_judge 58 = .ok (.iconst 1, 1) := by decide +kernel
theorem dX4_judge_59 : decode cX4_judge 59 = .ok (.isub, 1) := by decide +kernel
theorem dX4_judge_60 : decode cX4_judge 60 = .ok (.invokevirtual 206, 3) := by decide +kernel
theorem dX4_judge_63 : decode cX4_judge 63 = .ok (.ifCond .eq 5, 3) := by decide +kernel
theorem dX4_judge_66 : decode cX4_judge 66 = .ok (.iconst 4, 1) := by decide +kernel
theorem dX4_judge_67 : decode cX4_judge 67 = .ok (.ireturn, 1) := by decide +kernel
theorem dX4_judge_68 : decode cX4_judge 68 = .ok (.iconst 0, 1) := by decide +kernel
theorem dX4_judge_69 : decode cX4_judge 69 = .ok (.ireturn, 1) := by decide +kernel
set_option maxRecDepth 20000 in
theorem ggX4_waysAsOddOrOdder_J13_bitCount_95d88 : GoodIn wsX4_waysAsOddOrOdder wsJ13_bitCount_95d88 := goodIn_r _ [6, 7, 8, 9] (by decide +kernel) (by decide +kernel)
set_option maxRecDepth 20000 in
theorem gX4_waysAsOddOrOdder_J13_bitCount_95d88 : GoodIn wsX4_waysAsOddOrOdder (va_wsS RX4 180 yJ13_bitCount_95d88 wsJ13_bitCount_95d88) := goodIn_app (goodIn_of _ (by decide +kernel)) ggX4_waysAsOddOrOdder_J13_bitCount_95d88
set_option maxRecDepth 20000 in
theorem ggX4_waysAsOddOrOdder_X3_withAtLeast : GoodIn wsX4_waysAsOddOrOdder wsX3_withAtLeast := goodIn_r _ [14, 15, 16, 17, 13, 18, 19, 32] (by decide +kernel) (by decide +kernel)
set_option maxRecDepth 20000 in
theorem gX4_waysAsOddOrOdder_X3_withAtLeast : GoodIn wsX4_waysAsOddOrOdder (wsV RX4 209 RX3 yX3_withAtLeast wsX3_withAtLeast) := goodIn_app (goodIn_of _ (by decide +kernel)) ggX4_waysAsOddOrOdder_X3_withAtLeast
theorem dX4_waysAsOddOrOdder_0 : decode cX4_waysAsOddOrOdder 0 = .ok (.lload_n 1, 1) := by decide +kernel
theorem dX4_waysAsOddOrOdder_1 : decode cX4_waysAsOddOrOdder 1 = .ok (.lload_n 3, 1) := by decide +kernel
theorem dX4_waysAsOddOrOdder_2 : decode cX4_waysAsOddOrOdder 2 = .ok (.land, 1) := by decide +kernel
theorem dX4_waysAsOddOrOdder_3 : decode cX4_waysAsOddOrOdder 3 = .ok (.invokestatic 180, 3) := by decide +kernel
theorem dX4_waysAsOddOrOdder_6 : decode cX4_waysAsOddOrOdder 6 = .ok (.istore 5, 2) := by decide +kernel
theorem dX4_waysAsOddOrOdder_8 : decode cX4_waysAsOddOrOdder 8 = .ok (.aload_n 0, 1) := by decide +kernel
theorem dX4_waysAsOddOrOdder_9 : decode cX4_waysAsOddOrOdder 9 = .ok (.getfield 33, 3) := by decide +kernel
theorem dX4_waysAsOddOrOdder_12 : decode cX4_waysAsOddOrOdder 12 = .ok (.iload 5, 2) := by decide +kernel
theorem dX4_waysAsOddOrOdder_14 : decode cX4_waysAsOddOrOdder 14 = .ok (.lload_n 1, 1) := by decide +kernel
theorem dX4_waysAsOddOrOdder_15 : decode cX4_waysAsOddOrOdder 15 = .ok (.invokestatic 180, 3) := by decide +kernel
theorem dX4_waysAsOddOrOdder_18 : decode cX4_waysAsOddOrOdder 18 = .ok (.lload_n 3, 1) := by decide +kernel
theorem dX4_waysAsOddOrOdder_19 : decode cX4_waysAsOddOrOdder 19 = .ok (.invokestatic 180, 3) := by decide +kernel
theorem dX4_waysAsOddOrOdder_22 : decode cX4_waysAsOddOrOdder 22 = .ok (.aload_n 0, 1) := by decide +kernel
theorem dX4_waysAsOddOrOdder_23 : decode cX4_waysAsOddOrOdder 23 = .ok (.getfield 12, 3) := by decide +kernel
theorem dX4_waysAsOddOrOdder_26 : decode cX4_waysAsOddOrOdder 26 = .ok (.getfield 190, 3) := by decide +kernel
theorem dX4_waysAsOddOrOdder_29 : decode cX4_waysAsOddOrOdder 29 = .ok (.invokevirtual 209, 3) := by decide +kernel
theorem dX4_waysAsOddOrOdder_32 : decode cX4_waysAsOddOrOdder 32 = .ok (.lreturn, 1) := by decide +kernel
set_option maxRecDepth 20000 in
theorem ggX4_waysInAll_J13_bitCount_95d88 : GoodIn wsX4_waysInAll wsJ13_bitCount_95d88 := goodIn_r _ [6, 7, 8, 9] (by decide +kernel) (by decide +kernel)
set_option maxRecDepth 20000 in
theorem gX4_waysInAll_J13_bitCount_95d88 : GoodIn wsX4_waysInAll (va_wsS RX4 180 yJ13_bitCount_95d88 wsJ13_bitCount_95d88) := goodIn_app (goodIn_of _ (by decide +kernel)) ggX4_waysInAll_J13_bitCount_95d88
set_option maxRecDepth 20000 in
theorem ggX4_waysInAll_X3_choose : GoodIn wsX4_waysInAll wsX3_choose := goodIn_r _ [14, 15, 28] (by decide +kernel) (by decide +kernel)
set_option maxRecDepth 20000 in
theorem gX4_waysInAll_X3_choose : GoodIn wsX4_waysInAll (wsV RX4 212 RX3 yX3_choose wsX3_choose) := goodIn_app (goodIn_of _ (by decide +kernel)) ggX4_waysInAll_X3_choose
theorem dX4_waysInAll_0 : decode cX4_waysInAll 0 = .ok (.aload_n 0, 1) := by decide +kernel
theorem dX4_waysInAll_1 : decode cX4_waysInAll 1 = .ok (.getfield 33, 3) := by decide +kernel
theorem dX4_waysInAll_4 : decode cX4_waysInAll 4 = .ok (.aload_n 0, 1) := by decide +kernel
theorem dX4_waysInAll_5 : decode cX4_waysInAll 5 = .ok (.getfield 12, 3) := by decide +kernel
theorem dX4_waysInAll_8 : decode cX4_waysInAll 8 = .ok (.getfield 190, 3) := by decide +kernel
theorem dX4_waysInAll_11 : decode cX4_waysInAll 11 = .ok (.lload_n 1, 1) := by decide +kernel
theorem dX4_waysInAll_12 : decode cX4_waysInAll 12 = .ok (.invokestatic 180, 3) := by decide +kernel
theorem dX4_waysInAll_15 : decode cX4_waysInAll 15 = .ok (.invokevirtual 212, 3) := by decide +kernel
theorem dX4_waysInAll_18 : decode cX4_waysInAll 18 = .ok (.lreturn, 1) := by decide +kernel
set_option maxRecDepth 20000 in
theorem ggX4_paidBy_X1_firstWithMaker : GoodIn wsX4_paidBy wsX1_firstWithMaker := goodIn_r _ [7, 8, 9, 10, 11, 12, 13, 14, 15, 30, 31, 32] (by decide +kernel) (by decide +kernel)
set_option maxRecDepth 20000 in
theorem gX4_paidBy_X1_firstWithMaker : GoodIn wsX4_paidBy (wsV RX4 162 RX1 yX1_firstWithMaker wsX1_firstWithMaker) := goodIn_app (goodIn_of _ (by decide +kernel)) ggX4_paidBy_X1_firstWithMaker
set_option maxRecDepth 20000 in
theorem ggX4_paidBy_X4_isPart : GoodIn wsX4_paidBy wsX4_isPart := goodIn_r _ [12, 13, 14, 11, 15] (by decide +kernel) (by decide +kernel)
set_option maxRecDepth 20000 in
theorem gX4_paidBy_X4_isPart : GoodIn wsX4_paidBy (va_wsS RX4 81 yX4_isPart wsX4_isPart) := goodIn_app (goodIn_of _ (by decide +kernel)) ggX4_paidBy_X4_isPart
theorem dX4_paidBy_0 : decode cX4_paidBy 0 = .ok (.iconst 0, 1) := by decide +kernel
theorem dX4_paidBy_1 : decode cX4_paidBy 1 = .ok (.istore_n 2, 1) := by decide +kernel
theorem dX4_paidBy_2 : decode cX4_paidBy 2 = .ok (.iconst 0, 1) := by decide +kernel
theorem dX4_paidBy_3 : decode cX4_paidBy 3 = .ok (.istore_n 3, 1) := by decide +kernel
theorem dX4_paidBy_4 : decode cX4_paidBy 4 = .ok (.iload_n 3, 1) := by decide +kernel
theorem dX4_paidBy_5 : decode cX4_paidBy 5 = .ok (.aload_n 0, 1) := by decide +kernel
theorem dX4_paidBy_6 : decode cX4_paidBy 6 = .ok (.getfield 19, 3) := by decide +kernel
theorem dX4_paidBy_9 : decode cX4_paidBy 9 = .ok (.getfield 94, 3) := by decide +kernel
theorem dX4_paidBy_12 : decode cX4_paidBy 12 = .ok (.if_icmp .ge 90, 3) := by decide +kernel
theorem dX4_paidBy_15 : decode cX4_paidBy 15 = .ok (.aload_n 0, 1) := by decide +kernel
theorem dX4_paidBy_16 : decode cX4_paidBy 16 = .ok (.getfield 19, 3) := by decide +kernel
end
section
theorem dX4_paidBy_19 : decode cX4_paidBy 19 = .ok (.getfield 215, 3) := by decide +kernel
theorem dX4_paidBy_22 : decode cX4_paidBy 22 = .ok (.iload_n 3, 1) := by decide +kernel
theorem dX4_paidBy_23 : decode cX4_paidBy 23 = .ok (.iaload, 1) := by decide +kernel
theorem dX4_paidBy_24 : decode cX4_paidBy 24 = .ok (.ifCond .eq 6, 3) := by decide +kernel
theorem dX4_paidBy_27 : decode cX4_paidBy 27 = .ok (.goto 69, 3) := by decide +kernel
theorem dX4_paidBy_30 : decode cX4_paidBy 30 = .ok (.aload_n 0, 1) := by decide +kernel
theorem dX4_paidBy_31 : decode cX4_paidBy 31 = .ok (.getfield 26, 3) := by decide +kernel
theorem dX4_paidBy_34 : decode cX4_paidBy 34 = .ok (.aload_n 0, 1) := by decide +kernel
theorem dX4_paidBy_35 : decode cX4_paidBy 35 = .ok (.getfield 19, 3) := by decide +kernel
theorem dX4_paidBy_38 : decode cX4_paidBy 38 = .ok (.getfield 218, 3) := by decide +kernel
theorem dX4_paidBy_41 : decode cX4_paidBy 41 = .ok (.iload_n 3, 1) := by decide +kernel
theorem dX4_paidBy_42 : decode cX4_paidBy 42 = .ok (.iaload, 1) := by decide +kernel
theorem dX4_paidBy_43 : decode cX4_paidBy 43 = .ok (.invokevirtual 162, 3) := by decide +kernel
theorem dX4_paidBy_46 : decode cX4_paidBy 46 = .ok (.istore 4, 2) := by decide +kernel
theorem dX4_paidBy_48 : decode cX4_paidBy 48 = .ok (.iload 4, 2) := by decide +kernel
theorem dX4_paidBy_50 : decode cX4_paidBy 50 = .ok (.invokestatic 81, 3) := by decide +kernel
theorem dX4_paidBy_53 : decode cX4_paidBy 53 = .ok (.ifCond .eq 43, 3) := by decide +kernel
theorem dX4_paidBy_56 : decode cX4_paidBy 56 = .ok (.aload_n 0, 1) := by decide +kernel
theorem dX4_paidBy_57 : decode cX4_paidBy 57 = .ok (.getfield 26, 3) := by decide +kernel
theorem dX4_paidBy_60 : decode cX4_paidBy 60 = .ok (.getfield 156, 3) := by decide +kernel
theorem dX4_paidBy_63 : decode cX4_paidBy 63 = .ok (.iload 4, 2) := by decide +kernel
theorem dX4_paidBy_65 : decode cX4_paidBy 65 = .ok (.iaload, 1) := by decide +kernel
theorem dX4_paidBy_66 : decode cX4_paidBy 66 = .ok (.iload_n 1, 1) := by decide +kernel
theorem dX4_paidBy_67 : decode cX4_paidBy 67 = .ok (.if_icmp .ne 29, 3) := by decide +kernel
theorem dX4_paidBy_70 : decode cX4_paidBy 70 = .ok (.iload_n 2, 1) := by decide +kernel
theorem dX4_paidBy_71 : decode cX4_paidBy 71 = .ok (.aload_n 0, 1) := by decide +kernel
theorem dX4_paidBy_72 : decode cX4_paidBy 72 = .ok (.getfield 19, 3) := by decide +kernel
theorem dX4_paidBy_75 : decode cX4_paidBy 75 = .ok (.getfield 221, 3) := by decide +kernel
theorem dX4_paidBy_78 : decode cX4_paidBy 78 = .ok (.iload_n 3, 1) := by decide +kernel
theorem dX4_paidBy_79 : decode cX4_paidBy 79 = .ok (.iaload, 1) := by decide +kernel
theorem dX4_paidBy_80 : decode cX4_paidBy 80 = .ok (.aload_n 0, 1) := by decide +kernel
theorem dX4_paidBy_81 : decode cX4_paidBy 81 = .ok (.getfield 26, 3) := by decide +kernel
theorem dX4_paidBy_84 : decode cX4_paidBy 84 = .ok (.getfield 159, 3) := by decide +kernel
theorem dX4_paidBy_87 : decode cX4_paidBy 87 = .ok (.iload 4, 2) := by decide +kernel
theorem dX4_paidBy_89 : decode cX4_paidBy 89 = .ok (.iaload, 1) := by decide +kernel
theorem dX4_paidBy_90 : decode cX4_paidBy 90 = .ok (.imul, 1) := by decide +kernel
theorem dX4_paidBy_91 : decode cX4_paidBy 91 = .ok (.bipush 100, 2) := by decide +kernel
theorem dX4_paidBy_93 : decode cX4_paidBy 93 = .ok (.idiv, 1) := by decide +kernel
theorem dX4_paidBy_94 : decode cX4_paidBy 94 = .ok (.iadd, 1) := by decide +kernel
theorem dX4_paidBy_95 : decode cX4_paidBy 95 = .ok (.istore_n 2, 1) := by decide +kernel
theorem dX4_paidBy_96 : decode cX4_paidBy 96 = .ok (.iinc 3 1, 3) := by decide +kernel
theorem dX4_paidBy_99 : decode cX4_paidBy 99 = .ok (.goto (-95), 3) := by decide +kernel
theorem dX4_paidBy_102 : decode cX4_paidBy 102 = .ok (.iload_n 2, 1) := by decide +kernel
theorem dX4_paidBy_103 : decode cX4_paidBy 103 = .ok (.ireturn, 1) := by decide +kernel
set_option maxRecDepth 20000 in
theorem ggX4_thingsCalled_X1_withAllUnder : GoodIn wsX4_thingsCalled wsX1_withAllUnder := goodIn_r _ [9, 10, 11, 12, 8, 13, 14, 15, 16, 17, 18, 19, 20, 50, 51, 52] (by decide +kernel) (by decide +kernel)
set_option maxRecDepth 20000 in
theorem gX4_thingsCalled_X1_withAllUnder : GoodIn wsX4_thingsCalled (wsV RX4 224 RX1 yX1_withAllUnder wsX1_withAllUnder) := goodIn_app (goodIn_of _ (by decide +kernel)) ggX4_thingsCalled_X1_withAllUnder
set_option maxRecDepth 20000 in
theorem ggX4_thingsCalled_X0_thingsLetFor : GoodIn wsX4_thingsCalled wsX0_thingsLetFor := goodIn_r _ [25, 26, 27, 28, 29, 30, 31, 24, 32, 33, 34, 35, 16, 36, 53, 54, 55, 56, 57, 58, 59, 60] (by decide +kernel) (by decide +kernel)
set_option maxRecDepth 20000 in
theorem gX4_thingsCalled_X0_thingsLetFor : GoodIn wsX4_thingsCalled (wsV RX4 131 RX0 yX0_thingsLetFor wsX0_thingsLetFor) := goodIn_app (goodIn_of _ (by decide +kernel)) ggX4_thingsCalled_X0_thingsLetFor
set_option maxRecDepth 20000 in
theorem ggX4_thingsCalled_X2_soldOf : GoodIn wsX4_thingsCalled wsX2_soldOf := goodIn_r _ [41, 42, 43, 44, 35, 16, 36, 61, 62, 63, 64, 65, 66, 67] (by decide +kernel) (by decide +kernel)
set_option maxRecDepth 20000 in
theorem gX4_thingsCalled_X2_soldOf : GoodIn wsX4_thingsCalled (wsV RX4 227 RX2 yX2_soldOf wsX2_soldOf) := goodIn_app (goodIn_of _ (by decide +kernel)) ggX4_thingsCalled_X2_soldOf
theorem dX4_thingsCalled_0 : decode cX4_thingsCalled 0 = .ok (.aload_n 0, 1) := by decide +kernel
theorem dX4_thingsCalled_1 : decode cX4_thingsCalled 1 = .ok (.getfield 19, 3) := by decide +kernel
theorem dX4_thingsCalled_4 : decode cX4_thingsCalled 4 = .ok (.aload_n 0, 1) := by decide +kernel
theorem dX4_thingsCalled_5 : decode cX4_thingsCalled 5 = .ok (.getfield 26, 3) := by decide +kernel
theorem dX4_thingsCalled_8 : decode cX4_thingsCalled 8 = .ok (.iload_n 1, 1) := by decide +kernel
theorem dX4_thingsCalled_9 : decode cX4_thingsCalled 9 = .ok (.invokevirtual 224, 3) := by decide +kernel
theorem dX4_thingsCalled_12 : decode cX4_thingsCalled 12 = .ok (.sipush 300, 3) := by decide +kernel
theorem dX4_thingsCalled_15 : decode cX4_thingsCalled 15 = .ok (.invokevirtual 131, 3) := by decide +kernel
theorem dX4_thingsCalled_18 : decode cX4_thingsCalled 18 = .ok (.lstore 5, 2) := by decide +kernel
theorem dX4_thingsCalled_20 : decode cX4_thingsCalled 20 = .ok (.aload_n 0, 1) := by decide +kernel
theorem dX4_thingsCalled_21 : decode cX4_thingsCalled 21 = .ok (.getfield 12, 3) := by decide +kernel
theorem dX4_thingsCalled_24 : decode cX4_thingsCalled 24 = .ok (.iload_n 2, 1) := by decide +kernel
theorem dX4_thingsCalled_25 : decode cX4_thingsCalled 25 = .ok (.iload_n 3, 1) := by decide +kernel
theorem dX4_thingsCalled_26 : decode cX4_thingsCalled 26 = .ok (.iload 4, 2) := by decide +kernel
theorem dX4_thingsCalled_28 : decode cX4_thingsCalled 28 = .ok (.invokevirtual 227, 3) := by decide +kernel
theorem dX4_thingsCalled_31 : decode cX4_thingsCalled 31 = .ok (.lload 5, 2) := by decide +kernel
theorem dX4_thingsCalled_33 : decode cX4_thingsCalled 33 = .ok (.ldc2_w 231, 3) := by decide +kernel
theorem dX4_thingsCalled_36 : decode cX4_thingsCalled 36 = .ok (.lxor, 1) := by decide +kernel
theorem dX4_thingsCalled_37 : decode cX4_thingsCalled 37 = .ok (.land, 1) := by decide +kernel
theorem dX4_thingsCalled_38 : decode cX4_thingsCalled 38 = .ok (.lreturn, 1) := by decide +kernel
set_option maxRecDepth 20000 in
theorem ggX4_ofLowestTerms_X4_greatestCommonDivisor : GoodIn wsX4_ofLowestTerms wsX4_greatestCommonDivisor := goodIn_r _ [5] (by decide +kernel) (by decide +kernel)
set_option maxRecDepth 20000 in
theorem gX4_ofLowestTerms_X4_greatestCommonDivisor : GoodIn wsX4_ofLowestTerms (va_wsS RX4 233 yX4_greatestCommonDivisor wsX4_greatestCommonDivisor) := goodIn_app (goodIn_of _ (by decide +kernel)) ggX4_ofLowestTerms_X4_greatestCommonDivisor
theorem dX4_ofLowestTerms_0 : decode cX4_ofLowestTerms 0 = .ok (.lload_n 0, 1) := by decide +kernel
theorem dX4_ofLowestTerms_1 : decode cX4_ofLowestTerms 1 = .ok (.lload_n 2, 1) := by decide +kernel
theorem dX4_ofLowestTerms_2 : decode cX4_ofLowestTerms 2 = .ok (.invokestatic 233, 3) := by decide +kernel
theorem dX4_ofLowestTerms_5 : decode cX4_ofLowestTerms 5 = .ok (.lstore 5, 2) := by decide +kernel
theorem dX4_ofLowestTerms_7 : decode cX4_ofLowestTerms 7 = .ok (.lload 5, 2) := by decide +kernel
theorem dX4_ofLowestTerms_9 : decode cX4_ofLowestTerms 9 = .ok (.lconst 0, 1) := by decide +kernel
theorem dX4_ofLowestTerms_10 : decode cX4_ofLowestTerms 10 = .ok (.lcmp, 1) := by decide +kernel
theorem dX4_ofLowestTerms_11 : decode cX4_ofLowestTerms 11 = .ok (.ifCond .gt 7, 3) := by decide +kernel
theorem dX4_ofLowestTerms_14 : decode cX4_ofLowestTerms 14 = .ok (.ldc2_w 129, 3) := by decide +kernel
theorem dX4_ofLowestTerms_17 : decode cX4_ofLowestTerms 17 = .ok (.lreturn, 1) := by decide +kernel
theorem dX4_ofLowestTerms_18 : decode cX4_ofLowestTerms 18 = .ok (.iload 4, 2) := by decide +kernel
theorem dX4_ofLowestTerms_20 : decode cX4_ofLowestTerms 20 = .ok (.ifCond .ne 7, 3) := by decide +kernel
theorem dX4_ofLowestTerms_23 : decode cX4_ofLowestTerms 23 = .ok (.lload_n 0, 1) := by decide +kernel
theorem dX4_ofLowestTerms_24 : decode cX4_ofLowestTerms 24 = .ok (.goto 4, 3) := by decide +kernel
theorem dX4_ofLowestTerms_27 : decode cX4_ofLowestTerms 27 = .ok (.lload_n 2, 1) := by decide +kernel
theorem dX4_ofLowestTerms_28 : decode cX4_ofLowestTerms 28 = .ok (.lload 5, 2) := by decide +kernel
theorem dX4_ofLowestTerms_30 : decode cX4_ofLowestTerms 30 = .ok (.ldiv, 1) := by decide +kernel
theorem dX4_ofLowestTerms_31 : decode cX4_ofLowestTerms 31 = .ok (.lreturn, 1) := by decide +kernel
theorem dX4_greatestCommonDivisor_0 : decode cX4_greatestCommonDivisor 0 = .ok (.lload_n 0, 1) := by decide +kernel
theorem dX4_greatestCommonDivisor_1 : decode cX4_greatestCommonDivisor 1 = .ok (.lstore 4, 2) := by decide +kernel
theorem dX4_greatestCommonDivisor_3 : decode cX4_greatestCommonDivisor 3 = .ok (.lload_n 2, 1) := by decide +kernel
theorem dX4_greatestCommonDivisor_4 : decode cX4_greatestCommonDivisor 4 = .ok (.lstore 6, 2) := by decide +kernel
theorem dX4_greatestCommonDivisor_6 : decode cX4_greatestCommonDivisor 6 = .ok (.iconst 0, 1) := by decide +kernel
theorem dX4_greatestCommonDivisor_7 : decode cX4_greatestCommonDivisor 7 = .ok (.istore 8, 2) := by decide +kernel
theorem dX4_greatestCommonDivisor_9 : decode cX4_greatestCommonDivisor 9 = .ok (.iload 8, 2) := by decide +kernel
theorem dX4_greatestCommonDivisor_11 : decode cX4_greatestCommonDivisor 11 = .ok (.sipush 200, 3) := by decide +kernel
theorem dX4_greatestCommonDivisor_14 : decode cX4_greatestCommonDivisor 14 = .ok (.if_icmp .ge 31, 3) := by decide +kernel
theorem dX4_greatestCommonDivisor_17 : decode cX4_greatestCommonDivisor 17 = .ok (.lload 6, 2) := by decide +kernel
theorem dX4_greatestCommonDivisor_19 : decode cX4_greatestCommonDivisor 19 = .ok (.lconst 0, 1) := by decide +kernel
theorem dX4_greatestCommonDivisor_20 : decode cX4_greatestCommonDivisor 20 = .ok (.lcmp, 1) := by decide +kernel
theorem dX4_greatestCommonDivisor_21 : decode cX4_greatestCommonDivisor 21 = .ok (.ifCond .eq 24, 3) := by decide +kernel
theorem dX4_greatestCommonDivisor_24 : decode cX4_greatestCommonDivisor 24 = .ok (.lload 4, 2) := by decide +kernel
theorem dX4_greatestCommonDivisor_26 : decode cX4_greatestCommonDivisor 26 = .ok (.lload 6, 2) := by decide +kernel
theorem dX4_greatestCommonDivisor_28 : decode cX4_greatestCommonDivisor 28 = .ok (.lrem, 1) := by decide +kernel
theorem dX4_greatestCommonDivisor_29 : decode cX4_greatestCommonDivisor 29 = .ok (.lstore 9, 2) := by decide +kernel
theorem dX4_greatestCommonDivisor_31 : decode cX4_greatestCommonDivisor 31 = .ok (.lload 6, 2) := by decide +kernel
theorem dX4_greatestCommonDivisor_33 : decode cX4_greatestCommonDivisor 33 = .ok (.lstore 4, 2) := by decide +kernel
theorem dX4_greatestCommonDivisor_35 : decode cX4_greatestCommonDivisor 35 = .ok (.lload 9, 2) := by decide +kernel
theorem dX4_greatestCommonDivisor_37 : decode cX4_greatestCommonDivisor 37 = .ok (.lstore 6, 2) := by decide +kernel
theorem dX4_greatestCommonDivisor_39 : decode cX4_greatestCommonDivisor 39 = .ok (.iinc 8 1, 3) := by decide +kernel
theorem dX4_greatestCommonDivisor_42 : decode cX4_greatestCommonDivisor 42 = .ok (.goto (-33), 3) := by decide +kernel
theorem dX4_greatestCommonDivisor_45 : decode cX4_greatestCommonDivisor 45 = .ok (.lload 4, 2) := by decide +kernel
theorem dX4_greatestCommonDivisor_47 : decode cX4_greatestCommonDivisor 47 = .ok (.lreturn, 1) := by decide +kernel
theorem dX4_isLess_0 : decode cX4_isLess 0 = .ok (.lload_n 0, 1) := by decide +kernel
theorem dX4_isLess_1 : decode cX4_isLess 1 = .ok (.lstore 8, 2) := by decide +kernel
theorem dX4_isLess_3 : decode cX4_isLess 3 = .ok (.lload_n 2, 1) := by decide +kernel
theorem dX4_isLess_4 : decode cX4_isLess 4 = .ok (.lstore 10, 2) := by decide +kernel
theorem dX4_isLess_6 : decode cX4_isLess 6 = .ok (.lload 4, 2) := by decide +kernel
theorem dX4_isLess_8 : decode cX4_isLess 8 = .ok (.lstore 12, 2) := by decide +kernel
theorem dX4_isLess_10 : decode cX4_isLess 10 = .ok (.lload 6, 2) := by decide +kernel
theorem dX4_isLess_12 : decode cX4_isLess 12 = .ok (.lstore 14, 2) := by decide +kernel
theorem dX4_isLess_14 : decode cX4_isLess 14 = .ok (.iconst 0, 1) := by decide +kernel
theorem dX4_isLess_15 : decode cX4_isLess 15 = .ok (.istore 16, 2) := by decide +kernel
theorem dX4_isLess_17 : decode cX4_isLess 17 = .ok (.iload 16, 2) := by decide +kernel
theorem dX4_isLess_19 : decode cX4_isLess 19 = .ok (.sipush 200, 3) := by decide +kernel
theorem dX4_isLess_22 : decode cX4_isLess 22 = .ok (.if_icmp .ge 116, 3) := by decide +kernel
theorem dX4_isLess_25 : decode cX4_isLess 25 = .ok (.lload 10, 2) := by decide +kernel
theorem dX4_isLess_27 : decode cX4_isLess 27 = .ok (.lconst 0, 1) := by decide +kernel
theorem dX4_isLess_28 : decode cX4_isLess 28 = .ok (.lcmp, 1) := by decide +kernel
theorem dX4_isLess_29 : decode cX4_isLess 29 = .ok (.ifCond .le 109, 3) := by decide +kernel
theorem dX4_isLess_32 : decode cX4_isLess 32 = .ok (.lload 14, 2) := by decide +kernel
theorem dX4_isLess_34 : decode cX4_isLess 34 = .ok (.lconst 0, 1) := by decide +kernel
theorem dX4_isLess_35 : decode cX4_isLess 35 = .ok (.lcmp, 1) := by decide +kernel
theorem dX4_isLess_36 : decode cX4_isLess 36 = .ok (.ifCond .le 102, 3) := by decide +kernel
theorem dX4_isLess_39 : decode cX4_isLess 39 = .ok (.lload 8, 2) := by decide +kernel
theorem dX4_isLess_41 : decode cX4_isLess 41 = .ok (.lload 10, 2) := by decide +kernel
theorem dX4_isLess_43 : decode cX4_isLess 43 = .ok (.ldiv, 1) := by decide +kernel
theorem dX4_isLess_44 : decode cX4_isLess 44 = .ok (.lstore 17, 2) := by decide +kernel
theorem dX4_isLess_46 : decode cX4_isLess 46 = .ok (.lload 12, 2) := by decide +kernel
theorem dX4_isLess_48 : decode cX4_isLess 48 = .ok (.lload 14, 2) := by decide +kernel
theorem dX4_isLess_50 : decode cX4_isLess 50 = .ok (.ldiv, 1) := by decide +kernel
theorem dX4_isLess_51 : decode cX4_isLess 51 = .ok (.lstore 19, 2) := by decide +kernel
theorem dX4_isLess_53 : decode cX4_isLess 53 = .ok (.lload 17, 2) := by decide +kernel
theorem dX4_isLess_55 : decode cX4_isLess 55 = .ok (.lload 19, 2) := by decide +kernel
theorem dX4_isLess_57 : decode cX4_isLess 57 = .ok (.lcmp, 1) := by decide +kernel
theorem dX4_isLess_58 : decode cX4_isLess 58 = .ok (.ifCond .eq 17, 3) := by decide +kernel
theorem dX4_isLess_61 : decode cX4_isLess 61 = .ok (.lload 17, 2) := by decide +kernel
theorem dX4_isLess_63 : decode cX4_isLess 63 = .ok (.lload 19, 2) := by decide +kernel
theorem dX4_isLess_65 : decode cX4_isLess 65 = .ok (.lcmp, 1) := by decide +kernel
theorem dX4_isLess_66 : decode cX4_isLess 66 = .ok (.ifCond .ge 7, 3) := by decide +kernel
theorem dX4_isLess_69 : decode cX4_isLess 69 = .ok (.iconst 1, 1) := by decide +kernel
theorem dX4_isLess_70 : decode cX4_isLess 70 = .ok (.goto 4, 3) := by decide +kernel
theorem dX4_isLess_73 : decode cX4_isLess 73 = .ok (.iconst 0, 1) := by decide +kernel
theorem dX4_isLess_74 : decode cX4_isLess 74 = .ok (.ireturn, 1) := by decide +kernel
theorem dX4_isLess_75 : decode cX4_isLess 75 = .ok (.lload 8, 2) := by decide +kernel
theorem dX4_isLess_77 : decode cX4_isLess 77 = .ok (.lload 10, 2) := by decide +kernel
theorem dX4_isLess_79 : decode cX4_isLess 79 = .ok (.lrem, 1) := by decide +kernel
theorem dX4_isLess_80 : decode cX4_isLess 80 = .ok (.lstore 21, 2) := by decide +kernel
theorem dX4_isLess_82 : decode cX4_isLess 82 = .ok (.lload 12, 2) := by decide +kernel
theorem dX4_isLess_84 : decode cX4_isLess 84 = .ok (.lload 14, 2) := by decide +kernel
theorem dX4_isLess_86 : decode cX4_isLess 86 = .ok (.lrem, 1) := by decide +kernel
theorem dX4_isLess_87 : decode cX4_isLess 87 = .ok (.lstore 23, 2) := by decide +kernel
theorem dX4_isLess_89 : decode cX4_isLess 89 = .ok (.lload 21, 2) := by decide +kernel
theorem dX4_isLess_91 : decode cX4_isLess 91 = .ok (.lconst 0, 1) := by decide +kernel
theorem dX4_isLess_92 : decode cX4_isLess 92 = .ok (.lcmp, 1) := by decide +kernel
theorem dX4_isLess_93 : decode cX4_isLess 93 = .ok (.ifCond .eq 10, 3) := by decide +kernel
theorem dX4_isLess_96 : decode cX4_isLess 96 = .ok (.lload 23, 2) := by decide +kernel
theorem dX4_isLess_98 : decode cX4_isLess 98 = .ok (.lconst 0, 1) := by decide +kernel
theorem dX4_isLess_99 : decode cX4_isLess 99 = .ok (.lcmp, 1) := by decide +kernel
theorem dX4_isLess_100 : decode cX4_isLess 100 = .ok (.ifCond .ne 16, 3) := by decide +kernel
theorem dX4_isLess_103 : decode cX4_isLess 103 = .ok (.lload 23, 2) := by decide +kernel
theorem dX4_isLess_105 : decode cX4_isLess 105 = .ok (.lconst 0, 1) := by decide +kernel
theorem dX4_isLess_106 : decode cX4_isLess 106 = .ok (.lcmp, 1) := by decide +kernel
theorem dX4_isLess_107 : decode cX4_isLess 107 = .ok (.ifCond .le 7, 3) := by decide +kernel
theorem dX4_isLess_110 : decode cX4_isLess 110 = .ok (.iconst 1, 1) := by decide +kernel
theorem dX4_isLess_111 : decode cX4_isLess 111 = .ok (.goto 4, 3) := by decide +kernel
theorem dX4_isLess_114 : decode cX4_isLess 114 = .ok (.iconst 0, 1) := by decide +kernel
theorem dX4_isLess_115 : decode cX4_isLess 115 = .ok (.ireturn, 1) := by decide +kernel
theorem dX4_isLess_116 : decode cX4_isLess 116 = .ok (.lload 14, 2) := by decide +kernel
theorem dX4_isLess_118 : decode cX4_isLess 118 = .ok (.lstore 8, 2) := by decide +kernel
theorem dX4_isLess_120 : decode cX4_isLess 120 = .ok (.lload 10, 2) := by decide +kernel
theorem dX4_isLess_122 : decode cX4_isLess 122 = .ok (.lstore 12, 2) := by decide +kernel
theorem dX4_isLess_124 : decode cX4_isLess 124 = .ok (.lload 23, 2) := by decide +kernel
theorem dX4_isLess_126 : decode cX4_isLess 126 = .ok (.lstore 10, 2) := by decide +kernel
theorem dX4_isLess_128 : decode cX4_isLess 128 = .ok (.lload 21, 2) := by decide +kernel
theorem dX4_isLess_130 : decode cX4_isLess 130 = .ok (.lstore 14, 2) := by decide +kernel
theorem dX4_isLess_132 : decode cX4_isLess 132 = .ok (.iinc 16 1, 3) := by decide +kernel
theorem dX4_isLess_135 : decode cX4_isLess 135 = .ok (.goto (-118), 3) := by decide +kernel
theorem dX4_isLess_138 : decode cX4_isLess 138 = .ok (.iconst 0, 1) := by decide +kernel
theorem dX4_isLess_139 : decode cX4_isLess 139 = .ok (.ireturn, 1) := by decide +kernel
theorem dX5_init_0 : decode cX5_init 0 = .ok (.aload_n 0, 1) := by decide +kernel
theorem dX5_init_1 : decode cX5_init 1 = .ok (.invokespecial 1, 3) := by decide +kernel
theorem dX5_init_4 : decode cX5_init 4 = .ok (.aload_n 0, 1) := by decide +kernel
theorem dX5_init_5 : decode cX5_init 5 = .ok (.iconst 4, 1) := by decide +kernel
theorem dX5_init_6 : decode cX5_init 6 = .ok (.newarray .int, 2) := by decide +kernel
theorem dX5_init_8 : decode cX5_init 8 = .ok (.putfield 7, 3) := by decide +kernel
theorem dX5_init_11 : decode cX5_init 11 = .ok (.aload_n 0, 1) := by decide +kernel
theorem dX5_init_12 : decode cX5_init 12 = .ok (.iconst 4, 1) := by decide +kernel
theorem dX5_init_13 : decode cX5_init 13 = .ok (.newarray .int, 2) := by decide +kernel
theorem dX5_init_15 : decode cX5_init 15 = .ok (.putfield 13, 3) := by decide +kernel
theorem dX5_init_18 : decode cX5_init 18 = .ok (.aload_n 0, 1) := by decide +kernel
theorem dX5_init_19 : decode cX5_init 19 = .ok (.bipush 60, 2) := by decide +kernel
theorem dX5_init_21 : decode cX5_init 21 = .ok (.newarray .int, 2) := by decide +kernel
theorem dX5_init_23 : decode cX5_init 23 = .ok (.putfield 16, 3) := by decide +kernel
theorem dX5_init_26 : decode cX5_init 26 = .ok (.aload_n 0, 1) := by decide +kernel
theorem dX5_init_27 : decode cX5_init 27 = .ok (.bipush 60, 2) := by decide +kernel
theorem dX5_init_29 : decode cX5_init 29 = .ok (.newarray .int, 2) := by decide +kernel
theorem dX5_init_31 : decode cX5_init 31 = .ok (.putfield 19, 3) := by decide +kernel
theorem dX5_init_34 : decode cX5_init 34 = .ok (.aload_n 0, 1) := by decide +kernel
theorem dX5_init_35 : decode cX5_init 35 = .ok (.bipush 60, 2) := by decide +kernel
theorem dX5_init_37 : decode cX5_init 37 = .ok (.newarray .int, 2) := by decide +kernel
theorem dX5_init_39 : decode cX5_init 39 = .ok (.putfield 22, 3) := by decide +kernel
theorem dX5_init_42 : decode cX5_init 42 = .ok (.aload_n 0, 1) := by decide +kernel
theorem dX5_init_43 : decode cX5_init 43 = .ok (.bipush 60, 2) := by decide +kernel
theorem dX5_init_45 : decode cX5_init 45 = .ok (.newarray .int, 2) := by decide +kernel
theorem dX5_init_47 : decode cX5_init 47 = .ok (.putfield 25, 3) := by decide +kernel
theorem dX5_init_50 : decode cX5_init 50 = .ok (.aload_n 0, 1) := by decide +kernel
theorem dX5_init_51 : decode cX5_init 51 = .ok (.iconst 1, 1) := by decide +kernel
theorem dX5_init_52 : decode cX5_init 52 = .ok (.putfield 28, 3) := by decide +kernel
theorem dX5_init_55 : decode cX5_init 55 = .ok (.aload_n 0, 1) := by decide +kernel
theorem dX5_init_56 : decode cX5_init 56 = .ok (.bipush 100, 2) := by decide +kernel
theorem dX5_init_58 : decode cX5_init 58 = .ok (.newarray .int, 2) := by decide +kernel
theorem dX5_init_60 : decode cX5_init 60 = .ok (.putfield 32, 3) := by decide +kernel
theorem dX5_init_63 : decode cX5_init 63 = .ok (.aload_n 0, 1) := by decide +kernel
theorem dX5_init_64 : decode cX5_init 64 = .ok (.bipush 100, 2) := by decide +kernel
theorem dX5_init_66 : decode cX5_init 66 = .ok (.newarray .int, 2) := by decide +kernel
theorem dX5_init_68 : decode cX5_init 68 = .ok (.putfield 35, 3) := by decide +kernel
theorem dX5_init_71 : decode cX5_init 71 = .ok (.aload_n 0, 1) := by decide +kernel
theorem dX5_init_72 : decode cX5_init 72 = .ok (.bipush 100, 2) := by decide +kernel
theorem dX5_init_74 : decode cX5_init 74 = .ok (.newarray .int, 2) := by decide +kernel
theorem dX5_init_76 : decode cX5_init 76 = .ok (.putfield 38, 3) := by decide +kernel
theorem dX5_init_79 : decode cX5_init 79 = .ok (.aload_n 0, 1) := by decide +kernel
theorem dX5_init_80 : decode cX5_init 80 = .ok (.bipush 100, 2) := by decide +kernel
theorem dX5_init_82 : decode cX5_init 82 = .ok (.newarray .int, 2) := by decide +kernel
theorem dX5_init_84 : decode cX5_init 84 = .ok (.putfield 41, 3) := by decide +kernel
theorem dX5_init_87 : decode cX5_init 87 = .ok (.aload_n 0, 1) := by decide +kernel
theorem dX5_init_88 : decode cX5_init 88 = .ok (.bipush 100, 2) := by decide +kernel
theorem dX5_init_90 : decode cX5_init 90 = .ok (.newarray .int, 2) := by decide +kernel
theorem dX5_init_92 : decode cX5_init 92 = .ok (.putfield 44, 3) := by decide +kernel
theorem dX5_init_95 : decode cX5_init 95 = .ok (.aload_n 0, 1) := by decide +kernel
theorem dX5_init_96 : decode cX5_init 96 = .ok (.bipush 100, 2) := by decide +kernel
theorem dX5_init_98 : decode cX5_init 98 = .ok (.newarray .int, 2) := by decide +kernel
theorem dX5_init_100 : decode cX5_init 100 = .ok (.putfield 47, 3) := by decide +kernel
theorem dX5_init_103 : decode cX5_init 103 = .ok (.aload_n 0, 1) := by decide +kernel
theorem dX5_init_104 : decode cX5_init 104 = .ok (.sipush 3721, 3) := by decide +kernel
theorem dX5_init_107 : decode cX5_init 107 = .ok (.newarray .long, 2) := by decide +kernel
theorem dX5_init_109 : decode cX5_init 109 = .ok (.putfield 50, 3) := by decide +kernel
theorem dX5_init_112 : decode cX5_init 112 = .ok (.aload_n 0, 1) := by decide +kernel
theorem dX5_init_113 : decode cX5_init 113 = .ok (.bipush 10, 2) := by decide +kernel
theorem dX5_init_115 : decode cX5_init 115 = .ok (.newarray .int, 2) := by decide +kernel
theorem dX5_init_117 : decode cX5_init 117 = .ok (.putfield 54, 3) := by decide +kernel
theorem dX5_init_120 : decode cX5_init 120 = .ok (.aload_n 0, 1) := by decide +kernel
theorem dX5_init_121 : decode cX5_init 121 = .ok (.bipush 10, 2) := by decide +kernel
theorem dX5_init_123 : decode cX5_init 123 = .ok (.newarray .int, 2) := by decide +kernel
theorem dX5_init_125 : decode cX5_init 125 = .ok (.putfield 57, 3) := by decide +kernel
theorem dX5_init_128 : decode cX5_init 128 = .ok (.aload_n 0, 1) := by decide +kernel
theorem dX5_init_129 : decode cX5_init 129 = .ok (.bipush 10, 2) := by decide +kernel
theorem dX5_init_131 : decode cX5_init 131 = .ok (.newarray .int, 2) := by decide +kernel
theorem dX5_init_133 : decode cX5_init 133 = .ok (.putfield 60, 3) := by decide +kernel
theorem dX5_init_136 : decode cX5_init 136 = .ok (.iconst 0, 1) := by decide +kernel
theorem dX5_init_137 : decode cX5_init 137 = .ok (.istore_n 1, 1) := by decide +kernel
theorem dX5_init_138 : decode cX5_init 138 = .ok (.iload_n 1, 1) := by decide +kernel
theorem dX5_init_139 : decode cX5_init 139 = .ok (.iconst 4, 1) := by decide +kernel
theorem dX5_init_140 : decode cX5_init 140 = .ok (.if_icmp .ge 25, 3) := by decide +kernel
theorem dX5_init_143 : decode cX5_init 143 = .ok (.aload_n 0, 1) := by decide +kernel
theorem dX5_init_144 : decode cX5_init 144 = .ok (.getfield 7, 3) := by decide +kernel
theorem dX5_init_147 : decode cX5_init 147 = .ok (.iload_n 1, 1) := by decide +kernel
theorem dX5_init_148 : decode cX5_init 148 = .ok (.bipush 24, 2) := by decide +kernel
theorem dX5_init_150 : decode cX5_init 150 = .ok (.iastore, 1) := by decide +kernel
theorem dX5_init_151 : decode cX5_init 151 = .ok (.aload_n 0, 1) := by decide +kernel
theorem dX5_init_152 : decode cX5_init 152 = .ok (.getfield 13, 3) := by decide +kernel
theorem dX5_init_155 : decode cX5_init 155 = .ok (.iload_n 1, 1) := by decide +kernel
theorem dX5_init_156 : decode cX5_init 156 = .ok (.ldc 63, 2) := by decide +kernel
theorem dX5_init_158 : decode cX5_init 158 = .ok (.iastore, 1) := by decide +kernel
theorem dX5_init_159 : decode cX5_init 159 = .ok (.iinc 1 1, 3) := by decide +kernel
theorem dX5_init_162 : decode cX5_init 162 = .ok (.goto (-24), 3) := by decide +kernel
theorem dX5_init_165 : decode cX5_init 165 = .ok (.iconst 0, 1) := by decide +kernel
theorem dX5_init_166 : decode cX5_init 166 = .ok (.istore_n 1, 1) := by decide +kernel
theorem dX5_init_167 : decode cX5_init 167 = .ok (.iload_n 1, 1) := by decide +kernel
theorem dX5_init_168 : decode cX5_init 168 = .ok (.bipush 10, 2) := by decide +kernel
theorem dX5_init_170 : decode cX5_init 170 = .ok (.if_icmp .ge 23, 3) := by decide +kernel
theorem dX5_init_173 : decode cX5_init 173 = .ok (.aload_n 0, 1) := by decide +kernel
theorem dX5_init_174 : decode cX5_init 174 = .ok (.getfield 54, 3) := by decide +kernel
theorem dX5_init_177 : decode cX5_init 177 = .ok (.iload_n 1, 1) := by decide +kernel
theorem dX5_init_178 : decode cX5_init 178 = .ok (.iconst (-1), 1) := by decide +kernel
theorem dX5_init_179 : decode cX5_init 179 = .ok (.iastore, 1) := by decide +kernel
theorem dX5_init_180 : decode cX5_init 180 = .ok (.aload_n 0, 1) := by decide +kernel
theorem dX5_init_181 : decode cX5_init 181 = .ok (.getfield 57, 3) := by decide +kernel
theorem dX5_init_184 : decode cX5_init 184 = .ok (.iload_n 1, 1) := by decide +kernel
theorem dX5_init_185 : decode cX5_init 185 = .ok (.iconst (-1), 1) := by decide +kernel
theorem dX5_init_186 : decode cX5_init 186 = .ok (.iastore, 1) := by decide +kernel
theorem dX5_init_187 : decode cX5_init 187 = .ok (.iinc 1 1, 3) := by decide +kernel
theorem dX5_init_190 : decode cX5_init 190 = .ok (.goto (-23), 3) := by decide +kernel
theorem dX5_init_193 : decode cX5_init 193 = .ok (.iconst 0, 1) := by decide +kernel
theorem dX5_init_194 : decode cX5_init 194 = .ok (.istore_n 1, 1) := by decide +kernel
theorem dX5_init_195 : decode cX5_init 195 = .ok (.iload_n 1, 1) := by decide +kernel
theorem dX5_init_196 : decode cX5_init 196 = .ok (.bipush 61, 2) := by decide +kernel
theorem dX5_init_198 : decode cX5_init 198 = .ok (.if_icmp .ge 75, 3) := by decide +kernel
theorem dX5_init_201 : decode cX5_init 201 = .ok (.iconst 0, 1) := by decide +kernel
theorem dX5_init_202 : decode cX5_init 202 = .ok (.istore_n 2, 1) := by decide +kernel
theorem dX5_init_203 : decode cX5_init 203 = .ok (.iload_n 2, 1) := by decide +kernel
theorem dX5_init_204 : decode cX5_init 204 = .ok (.iload_n 1, 1) := by decide +kernel
theorem dX5_init_205 : decode cX5_init 205 = .ok (.if_icmp .gt 62, 3) := by decide +kernel
theorem dX5_init_208 : decode cX5_init 208 = .ok (.aload_n 0, 1) := by decide +kernel
theorem dX5_init_209 : decode cX5_init 209 = .ok (.getfield 50, 3) := by decide +kernel
theorem dX5_init_212 : decode cX5_init 212 = .ok (.bipush 61, 2) := by decide +kernel
theorem dX5_init_214 : decode cX5_init 214 = .ok (.iload_n 1, 1) := by decide +kernel
theorem dX5_init_215 : decode cX5_init 215 = .ok (.imul, 1) := by decide +kernel
theorem dX5_init_216 : decode cX5_init 216 = .ok (.iload_n 2, 1) := by decide +kernel
theorem dX5_init_217 : decode cX5_init 217 = .ok (.iadd, 1) := by decide +kernel
theorem dX5_init_218 : decode cX5_init 218 = .ok (.iload_n 2, 1) := by decide +kernel
theorem dX5_init_219 : decode cX5_init 219 = .ok (.ifCond .eq 8, 3) := by decide +kernel
theorem dX5_init_222 : decode cX5_init 222 = .ok (.iload_n 2, 1) := by decide +kernel
theorem dX5_init_223 : decode cX5_init 223 = .ok (.iload_n 1, 1) := by decide +kernel
theorem dX5_init_224 : decode cX5_init 224 = .ok (.if_icmp .ne 7, 3) := by decide +kernel
theorem dX5_init_227 : decode cX5_init 227 = .ok (.lconst 1, 1) := by decide +kernel
theorem dX5_init_228 : decode cX5_init 228 = .ok (.goto 32, 3) := by decide +kernel
theorem dX5_init_231 : decode cX5_init 231 = .ok (.aload_n 0, 1) := by decide +kernel
theorem dX5_init_232 : decode cX5_init 232 = .ok (.getfield 50, 3) := by decide +kernel
theorem dX5_init_235 : decode cX5_init 235 = .ok (.bipush 61, 2) := by decide +kernel
theorem dX5_init_237 : decode cX5_init 237 = .ok (.iload_n 1, 1) := by decide +kernel
theorem dX5_init_238 : decode cX5_init 238 = .ok (.iconst 1, 1) := by decide +kernel
theorem dX5_init_239 : decode cX5_init 239 = .ok (.isub, 1) := by decide +kernel
theorem dX5_init_240 : decode cX5_init 240 = .ok (.imul, 1) := by decide +kernel
theorem dX5_init_241 : decode cX5_init 241 = .ok (.iload_n 2, 1) := by decide +kernel
theorem dX5_init_242 : decode cX5_init 242 = .ok (.iadd, 1) := by decide +kernel
theorem dX5_init_243 : decode cX5_init 243 = .ok (.iconst 1, 1) := by decide +kernel
theorem dX5_init_244 : decode cX5_init 244 = .ok (.isub, 1) := by decide +kernel
theorem dX5_init_245 : decode cX5_init 245 = .ok (.laload, 1) := by decide +kernel
theorem dX5_init_246 : decode cX5_init 246 = .ok (.aload_n 0, 1) := by decide +kernel
theorem dX5_init_247 : decode cX5_init 247 = .ok (.getfield 50, 3) := by decide +kernel
theorem dX5_init_250 : decode cX5_init 250 = .ok (.bipush 61, 2) := by decide +kernel
theorem dX5_init_252 : decode cX5_init 252 = .ok (.iload_n 1, 1) := by decide +kernel
theorem dX5_init_253 : decode cX5_init 253 = .ok (.iconst 1, 1) := by decide +kernel
theorem dX5_init_254 : decode cX5_init 254 = .ok (.isub, 1) := by decide +kernel
theorem dX5_init_255 : decode cX5_init 255 = .ok (.imul, 1) := by decide +kernel
theorem dX5_init_256 : decode cX5_init 256 = .ok (.iload_n 2, 1) := by decide +kernel
theorem dX5_init_257 : decode cX5_init 257 = .ok (.iadd, 1) := by decide +kernel
theorem dX5_init_258 : decode cX5_init 258 = .ok (.laload, 1) := by decide +kernel
theorem dX5_init_259 : decode cX5_init 259 = .ok (.ladd, 1) := by decide +kernel
theorem dX5_init_260 : decode cX5_init 260 = .ok (.lastore, 1) := by decide +kernel
theorem dX5_init_261 : decode cX5_init 261 = .ok (.iinc 2 1, 3) := by decide +kernel
theorem dX5_init_264 : decode cX5_init 264 = .ok (.goto (-61), 3) := by decide +kernel
theorem dX5_init_267 : decode cX5_init 267 = .ok (.iinc 1 1, 3) := by decide +kernel
theorem dX5_init_270 : decode cX5_init 270 = .ok (.goto (-75), 3) := by decide +kernel
theorem dX5_init_273 : decode cX5_init 273 = .ok (.return_, 1) := by decide +kernel
theorem dX5_in_0 : decode cX5_in 0 = .ok (.lload_n 0, 1) := by decide +kernel
theorem dX5_in_1 : decode cX5_in 1 = .ok (.lload_n 2, 1) := by decide +kernel
theorem dX5_in_2 : decode cX5_in 2 = .ok (.lcmp, 1) := by decide +kernel
theorem dX5_in_3 : decode cX5_in 3 = .ok (.ifCond .lt 14, 3) := by decide +kernel
theorem dX5_in_6 : decode cX5_in 6 = .ok (.lload_n 0, 1) := by decide +kernel
theorem dX5_in_7 : decode cX5_in 7 = .ok (.lload 4, 2) := by decide +kernel
theorem dX5_in_9 : decode cX5_in 9 = .ok (.lcmp, 1) := by decide +kernel
theorem dX5_in_10 : decode cX5_in 10 = .ok (.ifCond .gt 7, 3) := by decide +kernel
theorem dX5_in_13 : decode cX5_in 13 = .ok (.iconst 1, 1) := by decide +kernel
theorem dX5_in_14 : decode cX5_in 14 = .ok (.goto 4, 3) := by decide +kernel
theorem dX5_in_17 : decode cX5_in 17 = .ok (.iconst 0, 1) := by decide +kernel
theorem dX5_in_18 : decode cX5_in 18 = .ok (.ireturn, 1) := by decide +kernel
set_option maxRecDepth 20000 in
theorem ggX5_isMonth_X5_in : GoodIn wsX5_isMonth wsX5_in := goodIn_r _ [5] (by decide +kernel) (by decide +kernel)
set_option maxRecDepth 20000 in
theorem gX5_isMonth_X5_in : GoodIn wsX5_isMonth (va_wsS RX5 66 yX5_in wsX5_in) := goodIn_app (goodIn_of _ (by decide +kernel)) ggX5_isMonth_X5_in
theorem dX5_isMonth_0 : decode cX5_isMonth 0 = .ok (.iload_n 0, 1) := by decide +kernel
theorem dX5_isMonth_1 : decode cX5_isMonth 1 = .ok (.i2l, 1) := by decide +kernel
theorem dX5_isMonth_2 : decode cX5_isMonth 2 = .ok (.lconst 0, 1) := by decide +kernel
theorem dX5_isMonth_3 : decode cX5_isMonth 3 = .ok (.ldc2_w 64, 3) := by decide +kernel
theorem dX5_isMonth_6 : decode cX5_isMonth 6 = .ok (.invokestatic 66, 3) := by decide +kernel
theorem dX5_isMonth_9 : decode cX5_isMonth 9 = .ok (.ireturn, 1) := by decide +kernel
set_option maxRecDepth 20000 in
theorem ggX5_noThing_X5_in : GoodIn wsX5_noThing wsX5_in := goodIn_r _ [5] (by decide +kernel) (by decide +kernel)
set_option maxRecDepth 20000 in
theorem gX5_noThing_X5_in : GoodIn wsX5_noThing (va_wsS RX5 66 yX5_in wsX5_in) := goodIn_app (goodIn_of _ (by decide +kernel)) ggX5_noThing_X5_in
theorem dX5_noThing_0 : decode cX5_noThing 0 = .ok (.iload_n 1, 1) := by decide +kernel
theorem dX5_noThing_1 : decode cX5_noThing 1 = .ok (.i2l, 1) := by decide +kernel
theorem dX5_noThing_2 : decode cX5_noThing 2 = .ok (.lconst 0, 1) := by decide +kernel
theorem dX5_noThing_3 : decode cX5_noThing 3 = .ok (.aload_n 0, 1) := by decide +kernel
theorem dX5_noThing_4 : decode cX5_noThing 4 = .ok (.getfield 70, 3) := by decide +kernel
theorem dX5_noThing_7 : decode cX5_noThing 7 = .ok (.iconst 1, 1) := by decide +kernel
theorem dX5_noThing_8 : decode cX5_noThing 8 = .ok (.isub, 1) := by decide +kernel
theorem dX5_noThing_9 : decode cX5_noThing 9 = .ok (.i2l, 1) := by decide +kernel
theorem dX5_noThing_10 : decode cX5_noThing 10 = .ok (.invokestatic 66, 3) := by decide +kernel
theorem dX5_noThing_13 : decode cX5_noThing 13 = .ok (.ifCond .ne 7, 3) := by decide +kernel
theorem dX5_noThing_16 : decode cX5_noThing 16 = .ok (.iconst 1, 1) := by decide +kernel
theorem dX5_noThing_17 : decode cX5_noThing 17 = .ok (.goto 4, 3) := by decide +kernel
theorem dX5_noThing_20 : decode cX5_noThing 20 = .ok (.iconst 0, 1) := by decide +kernel
theorem dX5_noThing_21 : decode cX5_noThing 21 = .ok (.ireturn, 1) := by decide +kernel
set_option maxRecDepth 20000 in
theorem ggX5_thing_X5_in : GoodIn wsX5_thing wsX5_in := goodIn_r _ [13] (by decide +kernel) (by decide +kernel)
set_option maxRecDepth 20000 in
theorem gX5_thing_X5_in : GoodIn wsX5_thing (va_wsS RX5 66 yX5_in wsX5_in) := goodIn_app (goodIn_of _ (by decide +kernel)) ggX5_thing_X5_in
theorem dX5_thing_0 : decode cX5_thing 0 = .ok (.iload_n 1, 1) := by decide +kernel
theorem dX5_thing_1 : decode cX5_thing 1 = .ok (.i2l, 1) := by decide +kernel
theorem dX5_thing_2 : decode cX5_thing 2 = .ok (.lconst 0, 1) := by decide +kernel
theorem dX5_thing_3 : decode cX5_thing 3 = .ok (.ldc2_w 73, 3) := by decide +kernel
theorem dX5_thing_6 : decode cX5_thing 6 = .ok (.invokestatic 66, 3) := by decide +kernel
theorem dX5_thing_9 : decode cX5_thing 9 = .ok (.ifCond .eq 40, 3) := by decide +kernel
theorem dX5_thing_12 : decode cX5_thing 12 = .ok (.iload_n 2, 1) := by decide +kernel
theorem dX5_thing_13 : decode cX5_thing 13 = .ok (.i2l, 1) := by decide +kernel
theorem dX5_thing_14 : decode cX5_thing 14 = .ok (.lconst 0, 1) := by decide +kernel
theorem dX5_thing_15 : decode cX5_thing 15 = .ok (.ldc2_w 75, 3) := by decide +kernel
theorem dX5_thing_18 : decode cX5_thing 18 = .ok (.invokestatic 66, 3) := by decide +kernel
theorem dX5_thing_21 : decode cX5_thing 21 = .ok (.ifCond .eq 28, 3) := by decide +kernel
theorem dX5_thing_24 : decode cX5_thing 24 = .ok (.iload_n 3, 1) := by decide +kernel
theorem dX5_thing_25 : decode cX5_thing 25 = .ok (.i2l, 1) := by decide +kernel
theorem dX5_thing_26 : decode cX5_thing 26 = .ok (.lconst 0, 1) := by decide +kernel
theorem dX5_thing_27 : decode cX5_thing 27 = .ok (.ldc2_w 77, 3) := by decide +kernel
theorem dX5_thing_30 : decode cX5_thing 30 = .ok (.invokestatic 66, 3) := by decide +kernel
theorem dX5_thing_33 : decode cX5_thing 33 = .ok (.ifCond .eq 16, 3) := by decide +kernel
theorem dX5_thing_36 : decode cX5_thing 36 = .ok (.iload 4, 2) := by decide +kernel
theorem dX5_thing_38 : decode cX5_thing 38 = .ok (.i2l, 1) := by decide +kernel
theorem dX5_thing_39 : decode cX5_thing 39 = .ok (.lconst 0, 1) := by decide +kernel
theorem dX5_thing_40 : decode cX5_thing 40 = .ok (.ldc2_w 79, 3) := by decide +kernel
theorem dX5_thing_43 : decode cX5_thing 43 = .ok (.invokestatic 66, 3) := by decide +kernel
theorem dX5_thing_46 : decode cX5_thing 46 = .ok (.ifCond .ne 6, 3) := by decide +kernel
theorem dX5_thing_49 : decode cX5_thing 49 = .ok (.bipush (-2), 2) := by decide +kernel
theorem dX5_thing_51 : decode cX5_thing 51 = .ok (.ireturn, 1) := by decide +kernel
theorem dX5_thing_52 : decode cX5_thing 52 = .ok (.aload_n 0, 1) := by decide +kernel
theorem dX5_thing_53 : decode cX5_thing 53 = .ok (.getfield 70, 3) := by decide +kernel
theorem dX5_thing_56 : decode cX5_thing 56 = .ok (.bipush 60, 2) := by decide +kernel
theorem dX5_thing_58 : decode cX5_thing 58 = .ok (.if_icmp .ne 6, 3) := by decide +kernel
theorem dX5_thing_61 : decode cX5_thing 61 = .ok (.bipush (-4), 2) := by decide +kernel
theorem dX5_thing_63 : decode cX5_thing 63 = .ok (.ireturn, 1) := by decide +kernel
theorem dX5_thing_64 : decode cX5_thing 64 = .ok (.aload_n 0, 1) := by decide +kernel
theorem dX5_thing_65 : decode cX5_thing 65 = .ok (.getfield 16, 3) := by decide +kernel
theorem dX5_thing_68 : decode cX5_thing 68 = .ok (.aload_n 0, 1) := by decide +kernel
theorem dX5_thing_69 : decode cX5_thing 69 = .ok (.getfield 70, 3) := by decide +kernel
theorem dX5_thing_72 : decode cX5_thing 72 = .ok (.iload_n 1, 1) := by decide +kernel
theorem dX5_thing_73 : decode cX5_thing 73 = .ok (.iastore, 1) := by decide +kernel
theorem dX5_thing_74 : decode cX5_thing 74 = .ok (.aload_n 0, 1) := by decide +kernel
theorem dX5_thing_75 : decode cX5_thing 75 = .ok (.getfield 19, 3) := by decide +kernel
theorem dX5_thing_78 : decode cX5_thing 78 = .ok (.aload_n 0, 1) := by decide +kernel
theorem dX5_thing_79 : decode cX5_thing 79 = .ok (.getfield 70, 3) := by decide +kernel
theorem dX5_thing_82 : decode cX5_thing 82 = .ok (.iload_n 2, 1) := by decide +kernel
theorem dX5_thing_83 : decode cX5_thing 83 = .ok (.iastore, 1) := by decide +kernel
theorem dX5_thing_84 : decode cX5_thing 84 = .ok (.aload_n 0, 1) := by decide +kernel
theorem dX5_thing_85 : decode cX5_thing 85 = .ok (.getfield 22, 3) := by decide +kernel
theorem dX5_thing_88 : decode cX5_thing 88 = .ok (.aload_n 0, 1) := by decide +kernel
theorem dX5_thing_89 : decode cX5_thing 89 = .ok (.getfield 70, 3) := by decide +kernel
theorem dX5_thing_92 : decode cX5_thing 92 = .ok (.iload_n 3, 1) := by decide +kernel
theorem dX5_thing_93 : decode cX5_thing 93 = .ok (.iastore, 1) := by decide +kernel
theorem dX5_thing_94 : decode cX5_thing 94 = .ok (.aload_n 0, 1) := by decide +kernel
theorem dX5_thing_95 : decode cX5_thing 95 = .ok (.getfield 25, 3) := by decide +kernel
theorem dX5_thing_98 : decode cX5_thing 98 = .ok (.aload_n 0, 1) := by decide +kernel
theorem dX5_thing_99 : decode cX5_thing 99 = .ok (.getfield 70, 3) := by decide +kernel
theorem dX5_thing_102 : decode cX5_thing 102 = .ok (.iload 4, 2) := by decide +kernel
theorem dX5_thing_104 : decode cX5_thing 104 = .ok (.iastore, 1) := by decide +kernel
theorem dX5_thing_105 : decode cX5_thing 105 = .ok (.aload_n 0, 1) := by decide +kernel
theorem dX5_thing_106 : decode cX5_thing 106 = .ok (.dup, 1) := by decide +kernel
theorem dX5_thing_107 : decode cX5_thing 107 = .ok (.getfield 70, 3) := by decide +kernel
theorem dX5_thing_110 : decode cX5_thing 110 = .ok (.iconst 1, 1) := by decide +kernel
theorem dX5_thing_111 : decode cX5_thing 111 = .ok (.iadd, 1) := by decide +kernel
theorem dX5_thing_112 : decode cX5_thing 112 = .ok (.putfield 70, 3) := by decide +kernel
theorem dX5_thing_115 : decode cX5_thing 115 = .ok (.aload_n 0, 1) := by decide +kernel
theorem dX5_thing_116 : decode cX5_thing 116 = .ok (.getfield 70, 3) := by decide +kernel
theorem dX5_thing_119 : decode cX5_thing 119 = .ok (.iconst 1, 1) := by decide +kernel
theorem dX5_thing_120 : decode cX5_thing 120 = .ok (.isub, 1) := by decide +kernel
theorem dX5_thing_121 : decode cX5_thing 121 = .ok (.ireturn, 1) := by decide +kernel
set_option maxRecDepth 20000 in
theorem ggX5_promise_X5_in : GoodIn wsX5_promise wsX5_in := goodIn_r _ [9] (by decide +kernel) (by decide +kernel)
set_option maxRecDepth 20000 in
theorem gX5_promise_X5_in : GoodIn wsX5_promise (va_wsS RX5 66 yX5_in wsX5_in) := goodIn_app (goodIn_of _ (by decide +kernel)) ggX5_promise_X5_in
theorem dX5_promise_0 : decode cX5_promise 0 = .ok (.iload_n 1, 1) := by decide +kernel
theorem dX5_promise_1 : decode cX5_promise 1 = .ok (.i2l, 1) := by decide +kernel
theorem dX5_promise_2 : decode cX5_promise 2 = .ok (.lconst 0, 1) := by decide +kernel
theorem dX5_promise_3 : decode cX5_promise 3 = .ok (.ldc2_w 79, 3) := by decide +kernel
theorem dX5_promise_6 : decode cX5_promise 6 = .ok (.invokestatic 66, 3) := by decide +kernel
theorem dX5_promise_9 : decode cX5_promise 9 = .ok (.ifCond .eq 27, 3) := by decide +kernel
theorem dX5_promise_12 : decode cX5_promise 12 = .ok (.iload_n 2, 1) := by decide +kernel
theorem dX5_promise_13 : decode cX5_promise 13 = .ok (.i2l, 1) := by decide +kernel
theorem dX5_promise_14 : decode cX5_promise 14 = .ok (.lconst 0, 1) := by decide +kernel
theorem dX5_promise_15 : decode cX5_promise 15 = .ok (.ldc2_w 81, 3) := by decide +kernel
theorem dX5_promise_18 : decode cX5_promise 18 = .ok (.invokestatic 66, 3) := by decide +kernel
theorem dX5_promise_21 : decode cX5_promise 21 = .ok (.ifCond .eq 15, 3) := by decide +kernel
theorem dX5_promise_24 : decode cX5_promise 24 = .ok (.iload_n 3, 1) := by decide +kernel
theorem dX5_promise_25 : decode cX5_promise 25 = .ok (.i2l, 1) := by decide +kernel
theorem dX5_promise_26 : decode cX5_promise 26 = .ok (.lconst 0, 1) := by decide +kernel
theorem dX5_promise_27 : decode cX5_promise 27 = .ok (.ldc2_w 83, 3) := by decide +kernel
theorem dX5_promise_30 : decode cX5_promise 30 = .ok (.invokestatic 66, 3) := by decide +kernel
theorem dX5_promise_33 : decode cX5_promise 33 = .ok (.ifCond .ne 6, 3) := by decide +kernel
theorem dX5_promise_36 : decode cX5_promise 36 = .ok (.bipush (-2), 2) := by decide +kernel
theorem dX5_promise_38 : decode cX5_promise 38 = .ok (.ireturn, 1) := by decide +kernel
theorem dX5_promise_39 : decode cX5_promise 39 = .ok (.aload_n 0, 1) := by decide +kernel
theorem dX5_promise_40 : decode cX5_promise 40 = .ok (.getfield 7, 3) := by decide +kernel
theorem dX5_promise_43 : decode cX5_promise 43 = .ok (.iload_n 1, 1) := by decide +kernel
theorem dX5_promise_44 : decode cX5_promise 44 = .ok (.iload_n 2, 1) := by decide +kernel
theorem dX5_promise_45 : decode cX5_promise 45 = .ok (.iastore, 1) := by decide +kernel
theorem dX5_promise_46 : decode cX5_promise 46 = .ok (.aload_n 0, 1) := by decide +kernel
theorem dX5_promise_47 : decode cX5_promise 47 = .ok (.getfield 13, 3) := by decide +kernel
theorem dX5_promise_50 : decode cX5_promise 50 = .ok (.iload_n 1, 1) := by decide +kernel
theorem dX5_promise_51 : decode cX5_promise 51 = .ok (.iload_n 3, 1) := by decide +kernel
theorem dX5_promise_52 : decode cX5_promise 52 = .ok (.iastore, 1) := by decide +kernel
theorem dX5_promise_53 : decode cX5_promise 53 = .ok (.iconst 1, 1) := by decide +kernel
theorem dX5_promise_54 : decode cX5_promise 54 = .ok (.ireturn, 1) := by decide +kernel
set_option maxRecDepth 20000 in
theorem ggX5_again_X5_in : GoodIn wsX5_again wsX5_in := goodIn_r _ [6] (by decide +kernel) (by decide +kernel)
set_option maxRecDepth 20000 in
theorem gX5_again_X5_in : GoodIn wsX5_again (va_wsS RX5 66 yX5_in wsX5_in) := goodIn_app (goodIn_of _ (by decide +kernel)) ggX5_again_X5_in
theorem dX5_again_0 : decode cX5_again 0 = .ok (.iload_n 1, 1) := by decide +kernel
theorem dX5_again_1 : decode cX5_again 1 = .ok (.i2l, 1) := by decide +kernel
theorem dX5_again_2 : decode cX5_again 2 = .ok (.lconst 0, 1) := by decide +kernel
theorem dX5_again_3 : decode cX5_again 3 = .ok (.ldc2_w 85, 3) := by decide +kernel
theorem dX5_again_6 : decode cX5_again 6 = .ok (.invokestatic 66, 3) := by decide +kernel
theorem dX5_again_9 : decode cX5_again 9 = .ok (.ifCond .ne 6, 3) := by decide +kernel
theorem dX5_again_12 : decode cX5_again 12 = .ok (.bipush (-2), 2) := by decide +kernel
theorem dX5_again_14 : decode cX5_again 14 = .ok (.ireturn, 1) := by decide +kernel
theorem dX5_again_15 : decode cX5_again 15 = .ok (.aload_n 0, 1) := by decide +kernel
theorem dX5_again_16 : decode cX5_again 16 = .ok (.getfield 28, 3) := by decide +kernel
theorem dX5_again_19 : decode cX5_again 19 = .ok (.istore_n 2, 1) := by decide +kernel
theorem dX5_again_20 : decode cX5_again 20 = .ok (.aload_n 0, 1) := by decide +kernel
theorem dX5_again_21 : decode cX5_again 21 = .ok (.iload_n 1, 1) := by decide +kernel
theorem dX5_again_22 : decode cX5_again 22 = .ok (.putfield 28, 3) := by decide +kernel
theorem dX5_again_25 : decode cX5_again 25 = .ok (.iload_n 2, 1) := by decide +kernel
theorem dX5_again_26 : decode cX5_again 26 = .ok (.ireturn, 1) := by decide +kernel
theorem dX5_isPromised_0 : decode cX5_isPromised 0 = .ok (.iload_n 2, 1) := by decide +kernel
theorem dX5_isPromised_1 : decode cX5_isPromised 1 = .ok (.aload_n 0, 1) := by decide +kernel
theorem dX5_isPromised_2 : decode cX5_isPromised 2 = .ok (.getfield 19, 3) := by decide +kernel
theorem dX5_isPromised_5 : decode cX5_isPromised 5 = .ok (.iload_n 1, 1) := by decide +kernel
theorem dX5_isPromised_6 : decode cX5_isPromised 6 = .ok (.iaload, 1) := by decide +kernel
theorem dX5_isPromised_7 : decode cX5_isPromised 7 = .ok (.isub, 1) := by decide +kernel
theorem dX5_isPromised_8 : decode cX5_isPromised 8 = .ok (.istore_n 3, 1) := by decide +kernel
theorem dX5_isPromised_9 : decode cX5_isPromised 9 = .ok (.iload_n 3, 1) := by decide +kernel
theorem dX5_isPromised_10 : decode cX5_isPromised 10 = .ok (.ifCond .lt 44, 3) := by decide +kernel
theorem dX5_isPromised_13 : decode cX5_isPromised 13 = .ok (.iload_n 3, 1) := by decide +kernel
theorem dX5_isPromised_14 : decode cX5_isPromised 14 = .ok (.aload_n 0, 1) := by decide +kernel
theorem dX5_isPromised_15 : decode cX5_isPromised 15 = .ok (.getfield 7, 3) := by decide +kernel
theorem dX5_isPromised_18 : decode cX5_isPromised 18 = .ok (.aload_n 0, 1) := by decide +kernel
theorem dX5_isPromised_19 : decode cX5_isPromised 19 = .ok (.getfield 25, 3) := by decide +kernel
theorem dX5_isPromised_22 : decode cX5_isPromised 22 = .ok (.iload_n 1, 1) := by decide +kernel
theorem dX5_isPromised_23 : decode cX5_isPromised 23 = .ok (.iaload, 1) := by decide +kernel
theorem dX5_isPromised_24 : decode cX5_isPromised 24 = .ok (.iaload, 1) := by decide +kernel
theorem dX5_isPromised_25 : decode cX5_isPromised 25 = .ok (.if_icmp .ge 29, 3) := by decide +kernel
theorem dX5_isPromised_28 : decode cX5_isPromised 28 = .ok (.iload_n 3, 1) := by decide +kernel
theorem dX5_isPromised_29 : decode cX5_isPromised 29 = .ok (.aload_n 0, 1) := by decide +kernel
theorem dX5_isPromised_30 : decode cX5_isPromised 30 = .ok (.getfield 22, 3) := by decide +kernel
theorem dX5_isPromised_33 : decode cX5_isPromised 33 = .ok (.iload_n 1, 1) := by decide +kernel
theorem dX5_isPromised_34 : decode cX5_isPromised 34 = .ok (.iaload, 1) := by decide +kernel
theorem dX5_isPromised_35 : decode cX5_isPromised 35 = .ok (.imul, 1) := by decide +kernel
theorem dX5_isPromised_36 : decode cX5_isPromised 36 = .ok (.aload_n 0, 1) := by decide +kernel
theorem dX5_isPromised_37 : decode cX5_isPromised 37 = .ok (.getfield 13, 3) := by decide +kernel
theorem dX5_isPromised_40 : decode cX5_isPromised 40 = .ok (.aload_n 0, 1) := by decide +kernel
theorem dX5_isPromised_41 : decode cX5_isPromised 41 = .ok (.getfield 25, 3) := by decide +kernel
theorem dX5_isPromised_44 : decode cX5_isPromised 44 = .ok (.iload_n 1, 1) := by decide +kernel
theorem dX5_isPromised_45 : decode cX5_isPromised 45 = .ok (.iaload, 1) := by decide +kernel
theorem dX5_isPromised_46 : decode cX5_isPromised 46 = .ok (.iaload, 1) := by decide +kernel
theorem dX5_isPromised_47 : decode cX5_isPromised 47 = .ok (.if_icmp .ge 7, 3) := by decide +kernel
theorem dX5_isPromised_50 : decode cX5_isPromised 50 = .ok (.iconst 1, 1) := by decide +kernel
theorem dX5_isPromised_51 : decode cX5_isPromised 51 = .ok (.goto 4, 3) := by decide +kernel
theorem dX5_isPromised_54 : decode cX5_isPromised 54 = .ok (.iconst 0, 1) := by decide +kernel
theorem dX5_isPromised_55 : decode cX5_isPromised 55 = .ok (.ireturn, 1) := by decide +kernel
set_option maxRecDepth 20000 in
theorem ggX5_promised_X5_noThing : GoodIn wsX5_promised wsX5_noThing := goodIn_r _ [5, 6, 7, 8, 4, 9, 23, 24, 25, 26, 27, 28, 29, 30, 31, 32, 33, 34, 35, 36, 37, 38, 39, 40, 41, 42, 43] (by decide +kernel) (by decide +kernel)
set_option maxRecDepth 20000 in
theorem gX5_promised_X5_noThing : GoodIn wsX5_promised (wsV RX5 87 RX5 yX5_noThing wsX5_noThing) := goodIn_app (goodIn_of _ (by decide +kernel)) ggX5_promised_X5_noThing
set_option maxRecDepth 20000 in
theorem ggX5_promised_X5_isMonth : GoodIn wsX5_promised wsX5_isMonth := goodIn_r _ [12, 13, 7, 8, 4, 9] (by decide +kernel) (by decide +kernel)
set_option maxRecDepth 20000 in
theorem gX5_promised_X5_isMonth : GoodIn wsX5_promised (va_wsS RX5 91 yX5_isMonth wsX5_isMonth) := goodIn_app (goodIn_of _ (by decide +kernel)) ggX5_promised_X5_isMonth
set_option maxRecDepth 20000 in
theorem ggX5_promised_X5_isPromised : GoodIn wsX5_promised wsX5_isPromised := goodIn_r _ [17, 18, 19, 20, 21, 22, 23, 24, 25, 26, 27, 28, 29, 30, 31, 32, 33, 34, 35, 36, 37, 38, 39, 40, 41, 42, 43] (by decide +kernel) (by decide +kernel)
set_option maxRecDepth 20000 in
theorem gX5_promised_X5_isPromised : GoodIn wsX5_promised (wsV RX5 94 RX5 yX5_isPromised wsX5_isPromised) := goodIn_app (goodIn_of _ (by decide +kernel)) ggX5_promised_X5_isPromised
theorem dX5_promised_0 : decode cX5_promised 0 = .ok (.aload_n 0, 1) := by decide +kernel
theorem dX5_promised_1 : decode cX5_promised 1 = .ok (.iload_n 1, 1) := by decide +kernel
theorem dX5_promised_2 : decode cX5_promised 2 = .ok (.invokevirtual 87, 3) := by decide +kernel
theorem dX5_promised_5 : decode cX5_promised 5 = .ok (.ifCond .ne 10, 3) := by decide +kernel
theorem dX5_promised_8 : decode cX5_promised 8 = .ok (.iload_n 2, 1) := by decide +kernel
theorem dX5_promised_9 : decode cX5_promised 9 = .ok (.invokestatic 91, 3) := by decide +kernel
theorem dX5_promised_12 : decode cX5_promised 12 = .ok (.ifCond .ne 8, 3) := by decide +kernel
theorem dX5_promised_15 : decode cX5_promised 15 = .ok (.bipush (-2), 2) := by decide +kernel
theorem dX5_promised_17 : decode cX5_promised 17 = .ok (.goto 17, 3) := by decide +kernel
theorem dX5_promised_20 : decode cX5_promised 20 = .ok (.aload_n 0, 1) := by decide +kernel
theorem dX5_promised_21 : decode cX5_promised 21 = .ok (.iload_n 1, 1) := by decide +kernel
theorem dX5_promised_22 : decode cX5_promised 22 = .ok (.iload_n 2, 1) := by decide +kernel
theorem dX5_promised_23 : decode cX5_promised 23 = .ok (.invokevirtual 94, 3) := by decide +kernel
theorem dX5_promised_26 : decode cX5_promised 26 = .ok (.ifCond .eq 7, 3) := by decide +kernel
theorem dX5_promised_29 : decode cX5_promised 29 = .ok (.iconst 1, 1) := by decide +kernel
theorem dX5_promised_30 : decode cX5_promised 30 = .ok (.goto 4, 3) := by decide +kernel
theorem dX5_promised_33 : decode cX5_promised 33 = .ok (.iconst 0, 1) := by decide +kernel
theorem dX5_promised_34 : decode cX5_promised 34 = .ok (.ireturn, 1) := by decide +kernel
set_option maxRecDepth 20000 in
theorem ggX5_lastOf_X5_isPromised : GoodIn wsX5_lastOf wsX5_isPromised := goodIn_r _ [6, 1, 7, 8, 9, 10, 11, 12, 13, 14, 15, 16, 17, 18, 19, 20, 21, 22, 23, 24, 25, 26, 27, 28, 29, 30, 31] (by decide +kernel) (by decide +kernel)
set_option maxRecDepth 20000 in
theorem gX5_lastOf_X5_isPromised : GoodIn wsX5_lastOf (wsV RX5 94 RX5 yX5_isPromised wsX5_isPromised) := goodIn_app (goodIn_of _ (by decide +kernel)) ggX5_lastOf_X5_isPromised
theorem dX5_lastOf_0 : decode cX5_lastOf 0 = .ok (.iconst (-1), 1) := by decide +kernel
theorem dX5_lastOf_1 : decode cX5_lastOf 1 = .ok (.istore_n 2, 1) := by decide +kernel
theorem dX5_lastOf_2 : decode cX5_lastOf 2 = .ok (.aload_n 0, 1) := by decide +kernel
theorem dX5_lastOf_3 : decode cX5_lastOf 3 = .ok (.getfield 19, 3) := by decide +kernel
theorem dX5_lastOf_6 : decode cX5_lastOf 6 = .ok (.iload_n 1, 1) := by decide +kernel
theorem dX5_lastOf_7 : decode cX5_lastOf 7 = .ok (.iaload, 1) := by decide +kernel
theorem dX5_lastOf_8 : decode cX5_lastOf 8 = .ok (.istore_n 3, 1) := by decide +kernel
theorem dX5_lastOf_9 : decode cX5_lastOf 9 = .ok (.iload_n 3, 1) := by decide +kernel
theorem dX5_lastOf_10 : decode cX5_lastOf 10 = .ok (.aload_n 0, 1) := by decide +kernel
theorem dX5_lastOf_11 : decode cX5_lastOf 11 = .ok (.getfield 19, 3) := by decide +kernel
theorem dX5_lastOf_14 : decode cX5_lastOf 14 = .ok (.iload_n 1, 1) := by decide +kernel
theorem dX5_lastOf_15 : decode cX5_lastOf 15 = .ok (.iaload, 1) := by decide +kernel
theorem dX5_lastOf_16 : decode cX5_lastOf 16 = .ok (.bipush 120, 2) := by decide +kernel
theorem dX5_lastOf_18 : decode cX5_lastOf 18 = .ok (.iadd, 1) := by decide +kernel
theorem dX5_lastOf_19 : decode cX5_lastOf 19 = .ok (.if_icmp .gt 24, 3) := by decide +kernel
theorem dX5_lastOf_22 : decode cX5_lastOf 22 = .ok (.aload_n 0, 1) := by decide +kernel
theorem dX5_lastOf_23 : decode cX5_lastOf 23 = .ok (.iload_n 1, 1) := by decide +kernel
theorem dX5_lastOf_24 : decode cX5_lastOf 24 = .ok (.iload_n 3, 1) := by decide +kernel
theorem dX5_lastOf_25 : decode cX5_lastOf 25 = .ok (.invokevirtual 94, 3) := by decide +kernel
theorem dX5_lastOf_28 : decode cX5_lastOf 28 = .ok (.ifCond .eq 7, 3) := by decide +kernel
theorem dX5_lastOf_31 : decode cX5_lastOf 31 = .ok (.iload_n 3, 1) := by decide +kernel
theorem dX5_lastOf_32 : decode cX5_lastOf 32 = .ok (.goto 4, 3) := by decide +kernel
theorem dX5_lastOf_35 : decode cX5_lastOf 35 = .ok (.iload_n 2, 1) := by decide +kernel
theorem dX5_lastOf_36 : decode cX5_lastOf 36 = .ok (.istore_n 2, 1) := by decide +kernel
theorem dX5_lastOf_37 : decode cX5_lastOf 37 = .ok (.iinc 3 1, 3) := by decide +kernel
theorem dX5_lastOf_40 : decode cX5_lastOf 40 = .ok (.goto (-31), 3) := by decide +kernel
theorem dX5_lastOf_43 : decode cX5_lastOf 43 = .ok (.iload_n 2, 1) := by decide +kernel
theorem dX5_lastOf_44 : decode cX5_lastOf 44 = .ok (.ireturn, 1) := by decide +kernel
set_option maxRecDepth 20000 in
theorem ggX5_last_X5_noThing : GoodIn wsX5_last wsX5_noThing := goodIn_r _ [5, 6, 7, 8, 4, 9, 23, 24, 25, 26, 27, 28, 29, 30, 31, 32, 33, 34, 35, 36, 37, 38, 39, 40, 41, 42, 43] (by decide +kernel) (by decide +kernel)
set_option maxRecDepth 20000 in
theorem gX5_last_X5_noThing : GoodIn wsX5_last (wsV RX5 87 RX5 yX5_noThing wsX5_noThing) := goodIn_app (goodIn_of _ (by decide +kernel)) ggX5_last_X5_noThing
set_option maxRecDepth 20000 in
theorem ggX5_last_X5_lastOf : GoodIn wsX5_last wsX5_lastOf := goodIn_r _ [13, 14, 15, 16, 17, 4, 18, 19, 20, 21, 22, 23, 24, 25, 26, 27, 28, 29, 30, 31, 32, 33, 34, 35, 36, 37, 38, 39, 40, 41, 42, 43] (by decide +kernel) (by decide +kernel)
set_option maxRecDepth 20000 in
theorem gX5_last_X5_lastOf : GoodIn wsX5_last (wsV RX5 98 RX5 yX5_lastOf wsX5_lastOf) := goodIn_app (goodIn_of _ (by decide +kernel)) ggX5_last_X5_lastOf
theorem dX5_last_0 : decode cX5_last 0 = .ok (.aload_n 0, 1) := by decide +kernel
theorem dX5_last_1 : decode cX5_last 1 = .ok (.iload_n 1, 1) := by decide +kernel
theorem dX5_last_2 : decode cX5_last 2 = .ok (.invokevirtual 87, 3) := by decide +kernel
theorem dX5_last_5 : decode cX5_last 5 = .ok (.ifCond .eq 8, 3) := by decide +kernel
theorem dX5_last_8 : decode cX5_last 8 = .ok (.bipush (-2), 2) := by decide +kernel
theorem dX5_last_10 : decode cX5_last 10 = .ok (.goto 8, 3) := by decide +kernel
theorem dX5_last_13 : decode cX5_last 13 = .ok (.aload_n 0, 1) := by decide +kernel
theorem dX5_last_14 : decode cX5_last 14 = .ok (.iload_n 1, 1) := by decide +kernel
theorem dX5_last_15 : decode cX5_last 15 = .ok (.invokevirtual 98, 3) := by decide +kernel
theorem dX5_last_18 : decode cX5_last 18 = .ok (.ireturn, 1) := by decide +kernel
set_option maxRecDepth 20000 in
theorem ggX5_wasLet_X5_in : GoodIn wsX5_wasLet wsX5_in := goodIn_r _ [9] (by decide +kernel) (by decide +kernel)
set_option maxRecDepth 20000 in
theorem gX5_wasLet_X5_in : GoodIn wsX5_wasLet (va_wsS RX5 66 yX5_in wsX5_in) := goodIn_app (goodIn_of _ (by decide +kernel)) ggX5_wasLet_X5_in
theorem dX5_wasLet_0 : decode cX5_wasLet 0 = .ok (.iconst 0, 1) := by decide +kernel
theorem dX5_wasLet_1 : decode cX5_wasLet 1 = .ok (.istore 5, 2) := by decide +kernel
theorem dX5_wasLet_3 : decode cX5_wasLet 3 = .ok (.iconst 0, 1) := by decide +kernel
theorem dX5_wasLet_4 : decode cX5_wasLet 4 = .ok (.istore 6, 2) := by decide +kernel
theorem dX5_wasLet_6 : decode cX5_wasLet 6 = .ok (.iload 6, 2) := by decide +kernel
theorem dX5_wasLet_8 : decode cX5_wasLet 8 = .ok (.aload_n 0, 1) := by decide +kernel
theorem dX5_wasLet_9 : decode cX5_wasLet 9 = .ok (.getfield 102, 3) := by decide +kernel
theorem dX5_wasLet_12 : decode cX5_wasLet 12 = .ok (.if_icmp .ge 72, 3) := by decide +kernel
theorem dX5_wasLet_15 : decode cX5_wasLet 15 = .ok (.iload 5, 2) := by decide +kernel
theorem dX5_wasLet_17 : decode cX5_wasLet 17 = .ok (.ifCond .ne 54, 3) := by decide +kernel
theorem dX5_wasLet_20 : decode cX5_wasLet 20 = .ok (.aload_n 0, 1) := by decide +kernel
theorem dX5_wasLet_21 : decode cX5_wasLet 21 = .ok (.getfield 47, 3) := by decide +kernel
theorem dX5_wasLet_24 : decode cX5_wasLet 24 = .ok (.iload 6, 2) := by decide +kernel
theorem dX5_wasLet_26 : decode cX5_wasLet 26 = .ok (.iaload, 1) := by decide +kernel
theorem dX5_wasLet_27 : decode cX5_wasLet 27 = .ok (.ifCond .ne 48, 3) := by decide +kernel
theorem dX5_wasLet_30 : decode cX5_wasLet 30 = .ok (.aload_n 0, 1) := by decide +kernel
theorem dX5_wasLet_31 : decode cX5_wasLet 31 = .ok (.getfield 32, 3) := by decide +kernel
theorem dX5_wasLet_34 : decode cX5_wasLet 34 = .ok (.iload 6, 2) := by decide +kernel
theorem dX5_wasLet_36 : decode cX5_wasLet 36 = .ok (.iaload, 1) := by decide +kernel
theorem dX5_wasLet_37 : decode cX5_wasLet 37 = .ok (.iload_n 1, 1) := by decide +kernel
theorem dX5_wasLet_38 : decode cX5_wasLet 38 = .ok (.if_icmp .ne 37, 3) := by decide +kernel
theorem dX5_wasLet_41 : decode cX5_wasLet 41 = .ok (.aload_n 0, 1) := by decide +kernel
theorem dX5_wasLet_42 : decode cX5_wasLet 42 = .ok (.getfield 35, 3) := by decide +kernel
theorem dX5_wasLet_45 : decode cX5_wasLet 45 = .ok (.iload 6, 2) := by decide +kernel
theorem dX5_wasLet_47 : decode cX5_wasLet 47 = .ok (.iaload, 1) := by decide +kernel
theorem dX5_wasLet_48 : decode cX5_wasLet 48 = .ok (.iload_n 2, 1) := by decide +kernel
theorem dX5_wasLet_49 : decode cX5_wasLet 49 = .ok (.if_icmp .ne 26, 3) := by decide +kernel
theorem dX5_wasLet_52 : decode cX5_wasLet 52 = .ok (.aload_n 0, 1) := by decide +kernel
theorem dX5_wasLet_53 : decode cX5_wasLet 53 = .ok (.getfield 38, 3) := by decide +kernel
theorem dX5_wasLet_56 : decode cX5_wasLet 56 = .ok (.iload 6, 2) := by decide +kernel
theorem dX5_wasLet_58 : decode cX5_wasLet 58 = .ok (.iaload, 1) := by decide +kernel
theorem dX5_wasLet_59 : decode cX5_wasLet 59 = .ok (.i2l, 1) := by decide +kernel
theorem dX5_wasLet_60 : decode cX5_wasLet 60 = .ok (.iload_n 3, 1) := by decide +kernel
theorem dX5_wasLet_61 : decode cX5_wasLet 61 = .ok (.i2l, 1) := by decide +kernel
theorem dX5_wasLet_62 : decode cX5_wasLet 62 = .ok (.iload 4, 2) := by decide +kernel
theorem dX5_wasLet_64 : decode cX5_wasLet 64 = .ok (.i2l, 1) := by decide +kernel
theorem dX5_wasLet_65 : decode cX5_wasLet 65 = .ok (.invokestatic 66, 3) := by decide +kernel
theorem dX5_wasLet_68 : decode cX5_wasLet 68 = .ok (.ifCond .eq 7, 3) := by decide +kernel
theorem dX5_wasLet_71 : decode cX5_wasLet 71 = .ok (.iconst 1, 1) := by decide +kernel
theorem dX5_wasLet_72 : decode cX5_wasLet 72 = .ok (.goto 4, 3) := by decide +kernel
theorem dX5_wasLet_75 : decode cX5_wasLet 75 = .ok (.iconst 0, 1) := by decide +kernel
theorem dX5_wasLet_76 : decode cX5_wasLet 76 = .ok (.istore 5, 2) := by decide +kernel
theorem dX5_wasLet_78 : decode cX5_wasLet 78 = .ok (.iinc 6 1, 3) := by decide +kernel
theorem dX5_wasLet_81 : decode cX5_wasLet 81 = .ok (.goto (-75), 3) := by decide +kernel
theorem dX5_wasLet_84 : decode cX5_wasLet 84 = .ok (.iload 5, 2) := by decide +kernel
theorem dX5_wasLet_86 : decode cX5_wasLet 86 = .ok (.ireturn, 1) := by decide +kernel
set_option maxRecDepth 20000 in
theorem ggX5_judge_X5_wasLet : GoodIn wsX5_judge wsX5_wasLet := goodIn_r _ [7, 8, 9, 10, 11, 12, 13, 14, 6, 15, 24, 25, 26, 27, 28, 29, 30, 31, 32, 33, 34, 35, 36, 37, 38, 39, 40, 41, 42, 43, 44] (by decide +kernel) (by decide +kernel)
set_option maxRecDepth 20000 in
theorem gX5_judge_X5_wasLet : GoodIn wsX5_judge (wsV RX5 105 RX5 yX5_wasLet wsX5_wasLet) := goodIn_app (goodIn_of _ (by decide +kernel)) ggX5_judge_X5_wasLet
set_option maxRecDepth 20000 in
theorem ggX5_judge_X5_isPromised : GoodIn wsX5_judge wsX5_isPromised := goodIn_r _ [19, 1, 20, 21, 22, 23, 24, 25, 26, 27, 28, 29, 30, 31, 32, 33, 34, 35, 36, 37, 38, 39, 40, 41, 42, 43, 44] (by decide +kernel) (by decide +kernel)
set_option maxRecDepth 20000 in
theorem gX5_judge_X5_isPromised : GoodIn wsX5_judge (wsV RX5 94 RX5 yX5_isPromised wsX5_isPromised) := goodIn_app (goodIn_of _ (by decide +kernel)) ggX5_judge_X5_isPromised
theorem dX5_judge_0 : decode cX5_judge 0 = .ok (.iload_n 3, 1) := by decide +kernel
theorem dX5_judge_1 : decode cX5_judge 1 = .ok (.aload_n 0, 1) := by decide +kernel
theorem dX5_judge_2 : decode cX5_judge 2 = .ok (.getfield 19, 3) := by decide +kernel
theorem dX5_judge_5 : decode cX5_judge 5 = .ok (.iload_n 1, 1) := by decide +kernel
theorem dX5_judge_6 : decode cX5_judge 6 = .ok (.iaload, 1) := by decide +kernel
theorem dX5_judge_7 : decode cX5_judge 7 = .ok (.if_icmp .ge 5, 3) := by decide +kernel
theorem dX5_judge_10 : decode cX5_judge 10 = .ok (.iconst 1, 1) := by decide +kernel
theorem dX5_judge_11 : decode cX5_judge 11 = .ok (.ireturn, 1) := by decide +kernel
theorem dX5_judge_12 : decode cX5_judge 12 = .ok (.aload_n 0, 1) := by decide +kernel
theorem dX5_judge_13 : decode cX5_judge 13 = .ok (.iload_n 1, 1) := by decide +kernel
theorem dX5_judge_14 : decode cX5_judge 14 = .ok (.iload_n 2, 1) := by decide +kernel
theorem dX5_judge_15 : decode cX5_judge 15 = .ok (.iload_n 3, 1) := by decide +kernel
theorem dX5_judge_16 : decode cX5_judge 16 = .ok (.iload_n 3, 1) := by decide +kernel
theorem dX5_judge_17 : decode cX5_judge 17 = .ok (.invokevirtual 105, 3) := by decide +kernel
theorem dX5_judge_20 : decode cX5_judge 20 = .ok (.ifCond .eq 5, 3) := by decide +kernel
theorem dX5_judge_23 : decode cX5_judge 23 = .ok (.iconst 2, 1) := by decide +kernel
theorem dX5_judge_24 : decode cX5_judge 24 = .ok (.ireturn, 1) := by decide +kernel
theorem dX5_judge_25 : decode cX5_judge 25 = .ok (.aload_n 0, 1) := by decide +kernel
theorem dX5_judge_26 : decode cX5_judge 26 = .ok (.iload_n 1, 1) := by decide +kernel
theorem dX5_judge_27 : decode cX5_judge 27 = .ok (.iload_n 3, 1) := by decide +kernel
theorem dX5_judge_28 : decode cX5_judge 28 = .ok (.invokevirtual 94, 3) := by decide +kernel
theorem dX5_judge_31 : decode cX5_judge 31 = .ok (.ifCond .ne 5, 3) := by decide +kernel
theorem dX5_judge_34 : decode cX5_judge 34 = .ok (.iconst 3, 1) := by decide +kernel
theorem dX5_judge_35 : decode cX5_judge 35 = .ok (.ireturn, 1) := by decide +kernel
theorem dX5_judge_36 : decode cX5_judge 36 = .ok (.aload_n 0, 1) := by decide +kernel
theorem dX5_judge_37 : decode cX5_judge 37 = .ok (.iload_n 1, 1) := by decide +kernel
theorem dX5_judge_38 : decode cX5_judge 38 = .ok (.iload_n 2, 1) := by decide +kernel
theorem dX5_judge_39 : decode cX5_judge 39 = .ok (.iload_n 3, 1) := by decide +kernel
theorem dX5_judge_40 : decode cX5_judge 40 = .ok (.aload_n 0, 1) := by decide +kernel
theorem dX5_judge_41 : decode cX5_judge 41 = .ok (.getfield 28, 3) := by decide +kernel
theorem dX5_judge_44 : decode cX5_judge 44 = .ok (.isub, 1) := by decide +kernel
theorem dX5_judge_45 : decode cX5_judge 45 = .ok (.iload_n 3, 1) := by decide +kernel
theorem dX5_judge_46 : decode cX5_judge 46 = .ok (.iconst 1, 1) := by decide +kernel
theorem dX5_judge_47 : decode cX5_judge 47 = .ok (.isub, 1) := by decide +kernel
theorem dX5_judge_48 : decode cX5_judge 48 = .ok (.invokevirtual 105, 3) := by decide +kernel
theorem dX5_judge_51 : decode cX5_judge 51 = .ok (.ifCond .eq 7, 3) := by decide +kernel
theorem dX5_judge_54 : decode cX5_judge 54 = .ok (.iconst 4, 1) := by decide +kernel
theorem dX5_judge_55 : decode cX5_judge 55 = .ok (.goto 4, 3) := by decide +kernel
theorem dX5_judge_58 : decode cX5_judge 58 = .ok (.iconst 0, 1) := by decide +kernel
theorem dX5_judge_59 : decode cX5_judge 59 = .ok (.ireturn, 1) := by decide +kernel
set_option maxRecDepth 20000 in
theorem ggX5_claim_X5_noThing : GoodIn wsX5_claim wsX5_noThing := goodIn_r _ [14, 15, 16, 17, 13, 18, 41, 42, 43, 44, 45, 46, 47, 48, 49, 50, 51, 52, 53, 54, 55, 56, 57, 58, 59, 60, 61] (by decide +kernel) (by decide +kernel)
set_option maxRecDepth 20000 in
theorem gX5_claim_X5_noThing : GoodIn wsX5_claim (wsV RX5 87 RX5 yX5_noThing wsX5_noThing) := goodIn_app (goodIn_of _ (by decide +kernel)) ggX5_claim_X5_noThing
set_option maxRecDepth 20000 in
theorem ggX5_claim_X5_in : GoodIn wsX5_claim wsX5_in := goodIn_r _ [18] (by decide +kernel) (by decide +kernel)
set_option maxRecDepth 20000 in
theorem gX5_claim_X5_in : GoodIn wsX5_claim (va_wsS RX5 66 yX5_in wsX5_in) := goodIn_app (goodIn_of _ (by decide +kernel)) ggX5_claim_X5_in
set_option maxRecDepth 20000 in
theorem ggX5_claim_X5_isMonth : GoodIn wsX5_claim wsX5_isMonth := goodIn_r _ [21, 22, 16, 17, 13, 18] (by decide +kernel) (by decide +kernel)
set_option maxRecDepth 20000 in
theorem gX5_claim_X5_isMonth : GoodIn wsX5_claim (va_wsS RX5 91 yX5_isMonth wsX5_isMonth) := goodIn_app (goodIn_of _ (by decide +kernel)) ggX5_claim_X5_isMonth
set_option maxRecDepth 20000 in
theorem ggX5_claim_X5_judge : GoodIn wsX5_claim wsX5_judge := goodIn_r _ [26, 27, 28, 29, 30, 31, 13, 32, 3, 9, 4, 5, 6, 16, 17, 18, 33, 34, 35, 36, 37, 38, 39, 40, 41, 42, 43, 44, 45, 46, 47, 48, 49, 50, 51, 52, 53, 54, 55, 56, 57, 58, 59, 60, 61] (by decide +kernel) (by decide +kernel)
set_option maxRecDepth 20000 in
theorem gX5_claim_X5_judge : GoodIn wsX5_claim (wsV RX5 113 RX5 yX5_judge wsX5_judge) := goodIn_app (goodIn_of _ (by decide +kernel)) ggX5_claim_X5_judge
theorem dX5_claim_0 : decode cX5_claim 0 = .ok (.aload_n 0, 1) := by decide +kernel
theorem dX5_claim_1 : decode cX5_claim 1 = .ok (.iload_n 1, 1) := by decide +kernel
theorem dX5_claim_2 : decode cX5_claim 2 = .ok (.invokevirtual 87, 3) := by decide +kernel
theorem dX5_claim_5 : decode cX5_claim 5 = .ok (.ifCond .ne 49, 3) := by decide +kernel
theorem dX5_claim_8 : decode cX5_claim 8 = .ok (.iload_n 2, 1) := by decide +kernel
theorem dX5_claim_9 : decode cX5_claim 9 = .ok (.i2l, 1) := by decide +kernel
theorem dX5_claim_10 : decode cX5_claim 10 = .ok (.lconst 0, 1) := by decide +kernel
theorem dX5_claim_11 : decode cX5_claim 11 = .ok (.ldc2_w 109, 3) := by decide +kernel
theorem dX5_claim_14 : decode cX5_claim 14 = .ok (.invokestatic 66, 3) := by decide +kernel
theorem dX5_claim_17 : decode cX5_claim 17 = .ok (.ifCond .eq 37, 3) := by decide +kernel
theorem dX5_claim_20 : decode cX5_claim 20 = .ok (.iload_n 3, 1) := by decide +kernel
theorem dX5_claim_21 : decode cX5_claim 21 = .ok (.invokestatic 91, 3) := by decide +kernel
theorem dX5_claim_24 : decode cX5_claim 24 = .ok (.ifCond .eq 30, 3) := by decide +kernel
theorem dX5_claim_27 : decode cX5_claim 27 = .ok (.iload 4, 2) := by decide +kernel
theorem dX5_claim_29 : decode cX5_claim 29 = .ok (.invokestatic 91, 3) := by decide +kernel
theorem dX5_claim_32 : decode cX5_claim 32 = .ok (.ifCond .eq 22, 3) := by decide +kernel
theorem dX5_claim_35 : decode cX5_claim 35 = .ok (.iload 4, 2) := by decide +kernel
theorem dX5_claim_37 : decode cX5_claim 37 = .ok (.iload_n 3, 1) := by decide +kernel
theorem dX5_claim_38 : decode cX5_claim 38 = .ok (.if_icmp .lt 16, 3) := by decide +kernel
theorem dX5_claim_41 : decode cX5_claim 41 = .ok (.iload 5, 2) := by decide +kernel
theorem dX5_claim_43 : decode cX5_claim 43 = .ok (.i2l, 1) := by decide +kernel
theorem dX5_claim_44 : decode cX5_claim 44 = .ok (.lconst 0, 1) := by decide +kernel
theorem dX5_claim_45 : decode cX5_claim 45 = .ok (.ldc2_w 111, 3) := by decide +kernel
theorem dX5_claim_48 : decode cX5_claim 48 = .ok (.invokestatic 66, 3) := by decide +kernel
theorem dX5_claim_51 : decode cX5_claim 51 = .ok (.ifCond .ne 6, 3) := by decide +kernel
theorem dX5_claim_54 : decode cX5_claim 54 = .ok (.bipush (-2), 2) := by decide +kernel
theorem dX5_claim_56 : decode cX5_claim 56 = .ok (.ireturn, 1) := by decide +kernel
theorem dX5_claim_57 : decode cX5_claim 57 = .ok (.aload_n 0, 1) := by decide +kernel
theorem dX5_claim_58 : decode cX5_claim 58 = .ok (.getfield 102, 3) := by decide +kernel
theorem dX5_claim_61 : decode cX5_claim 61 = .ok (.bipush 100, 2) := by decide +kernel
theorem dX5_claim_63 : decode cX5_claim 63 = .ok (.if_icmp .ne 6, 3) := by decide +kernel
theorem dX5_claim_66 : decode cX5_claim 66 = .ok (.bipush (-4), 2) := by decide +kernel
theorem dX5_claim_68 : decode cX5_claim 68 = .ok (.ireturn, 1) := by decide +kernel
theorem dX5_claim_69 : decode cX5_claim 69 = .ok (.aload_n 0, 1) := by decide +kernel
theorem dX5_claim_70 : decode cX5_claim 70 = .ok (.iload_n 1, 1) := by decide +kernel
theorem dX5_claim_71 : decode cX5_claim 71 = .ok (.iload_n 2, 1) := by decide +kernel
theorem dX5_claim_72 : decode cX5_claim 72 = .ok (.iload_n 3, 1) := by decide +kernel
theorem dX5_claim_73 : decode cX5_claim 73 = .ok (.invokevirtual 113, 3) := by decide +kernel
theorem dX5_claim_76 : decode cX5_claim 76 = .ok (.istore 6, 2) := by decide +kernel
theorem dX5_claim_78 : decode cX5_claim 78 = .ok (.aload_n 0, 1) := by decide +kernel
theorem dX5_claim_79 : decode cX5_claim 79 = .ok (.getfield 32, 3) := by decide +kernel
theorem dX5_claim_82 : decode cX5_claim 82 = .ok (.aload_n 0, 1) := by decide +kernel
theorem dX5_claim_83 : decode cX5_claim 83 = .ok (.getfield 102, 3) := by decide +kernel
theorem dX5_claim_86 : decode cX5_claim 86 = .ok (.iload_n 1, 1) := by decide +kernel
theorem dX5_claim_87 : decode cX5_claim 87 = .ok (.iastore, 1) := by decide +kernel
theorem dX5_claim_88 : decode cX5_claim 88 = .ok (.aload_n 0, 1) := by decide +kernel
theorem dX5_claim_89 : decode cX5_claim 89 = .ok (.getfield 35, 3) := by decide +kernel
theorem dX5_claim_92 : decode cX5_claim 92 = .ok (.aload_n 0, 1) := by decide +kernel
theorem dX5_claim_93 : decode cX5_claim 93 = .ok (.getfield 102, 3) := by decide +kernel
theorem dX5_claim_96 : decode cX5_claim 96 = .ok (.iload_n 2, 1) := by decide +kernel
theorem dX5_claim_97 : decode cX5_claim 97 = .ok (.iastore, 1) := by decide +kernel
theorem dX5_claim_98 : decode cX5_claim 98 = .ok (.aload_n 0, 1) := by decide +kernel
theorem dX5_claim_99 : decode cX5_claim 99 = .ok (.getfield 38, 3) := by decide +kernel
theorem dX5_claim_102 : decode cX5_claim 102 = .ok (.aload_n 0, 1) := by decide +kernel
theorem dX5_claim_103 : decode cX5_claim 103 = .ok (.getfield 102, 3) := by decide +kernel
theorem dX5_claim_106 : decode cX5_claim 106 = .ok (.iload_n 3, 1) := by decide +kernel
theorem dX5_claim_107 : decode cX5_claim 107 = .ok (.iastore, 1) := by decide +kernel
theorem dX5_claim_108 : decode cX5_claim 108 = .ok (.aload_n 0, 1) := by decide +kernel
theorem dX5_claim_109 : decode cX5_claim 109 = .ok (.getfield 41, 3) := by decide +kernel
theorem dX5_claim_112 : decode cX5_claim 112 = .ok (.aload_n 0, 1) := by decide +kernel
theorem dX5_claim_113 : decode cX5_claim 113 = .ok (.getfield 102, 3) := by decide +kernel
theorem dX5_claim_116 : decode cX5_claim 116 = .ok (.iload 4, 2) := by decide +kernel
theorem dX5_claim_118 : decode cX5_claim 118 = .ok (.iastore, 1) := by decide +kernel
theorem dX5_claim_119 : decode cX5_claim 119 = .ok (.aload_n 0, 1) := by decide +kernel
theorem dX5_claim_120 : decode cX5_claim 120 = .ok (.getfield 44, 3) := by decide +kernel
theorem dX5_claim_123 : decode cX5_claim 123 = .ok (.aload_n 0, 1) := by decide +kernel
theorem dX5_claim_124 : decode cX5_claim 124 = .ok (.getfield 102, 3) := by decide +kernel
theorem dX5_claim_127 : decode cX5_claim 127 = .ok (.iload 5, 2) := by decide +kernel
theorem dX5_claim_129 : decode cX5_claim 129 = .ok (.iastore, 1) := by decide +kernel
theorem dX5_claim_130 : decode cX5_claim 130 = .ok (.aload_n 0, 1) := by decide +kernel
theorem dX5_claim_131 : decode cX5_claim 131 = .ok (.getfield 47, 3) := by decide +kernel
theorem dX5_claim_134 : decode cX5_claim 134 = .ok (.aload_n 0, 1) := by decide +kernel
theorem dX5_claim_135 : decode cX5_claim 135 = .ok (.getfield 102, 3) := by decide +kernel
theorem dX5_claim_138 : decode cX5_claim 138 = .ok (.iload 6, 2) := by decide +kernel
theorem dX5_claim_140 : decode cX5_claim 140 = .ok (.iastore, 1) := by decide +kernel
theorem dX5_claim_141 : decode cX5_claim 141 = .ok (.aload_n 0, 1) := by decide +kernel
theorem dX5_claim_142 : decode cX5_claim 142 = .ok (.dup, 1) := by decide +kernel
theorem dX5_claim_143 : decode cX5_claim 143 = .ok (.getfield 102, 3) := by decide +kernel
theorem dX5_claim_146 : decode cX5_claim 146 = .ok (.iconst 1, 1) := by decide +kernel
theorem dX5_claim_147 : decode cX5_claim 147 = .ok (.iadd, 1) := by decide +kernel
theorem dX5_claim_148 : decode cX5_claim 148 = .ok (.putfield 102, 3) := by decide +kernel
theorem dX5_claim_151 : decode cX5_claim 151 = .ok (.iload 6, 2) := by decide +kernel
theorem dX5_claim_153 : decode cX5_claim 153 = .ok (.ireturn, 1) := by decide +kernel
theorem dX5_aboutOf_0 : decode cX5_aboutOf 0 = .ok (.iload_n 2, 1) := by decide +kernel
theorem dX5_aboutOf_1 : decode cX5_aboutOf 1 = .ok (.tableswitch 81 0 5 #[39, 46, 53, 60, 67, 74], 39) := by decide +kernel
theorem dX5_aboutOf_40 : decode cX5_aboutOf 40 = .ok (.aload_n 0, 1) := by decide +kernel
theorem dX5_aboutOf_41 : decode cX5_aboutOf 41 = .ok (.getfield 32, 3) := by decide +kernel
theorem dX5_aboutOf_44 : decode cX5_aboutOf 44 = .ok (.iload_n 1, 1) := by decide +kernel
theorem dX5_aboutOf_45 : decode cX5_aboutOf 45 = .ok (.iaload, 1) := by decide +kernel
theorem dX5_aboutOf_46 : decode cX5_aboutOf 46 = .ok (.ireturn, 1) := by decide +kernel
theorem dX5_aboutOf_47 : decode cX5_aboutOf 47 = .ok (.aload_n 0, 1) := by decide +kernel
theorem dX5_aboutOf_48 : decode cX5_aboutOf 48 = .ok (.getfield 35, 3) := by decide +kernel
theorem dX5_aboutOf_51 : decode cX5_aboutOf 51 = .ok (.iload_n 1, 1) := by decide +kernel
theorem dX5_aboutOf_52 : decode cX5_aboutOf 52 = .ok (.iaload, 1) := by decide +kernel
theorem dX5_aboutOf_53 : decode cX5_aboutOf 53 = .ok (.ireturn, 1) := by decide +kernel
theorem dX5_aboutOf_54 : decode cX5_aboutOf 54 = .ok (.aload_n 0, 1) := by decide +kernel
theorem dX5_aboutOf_55 : decode cX5_aboutOf 55 = .ok (.getfield 38, 3) := by decide +kernel
theorem dX5_aboutOf_58 : decode cX5_aboutOf 58 = .ok (.iload_n 1, 1) := by decide +kernel
theorem dX5_aboutOf_59 : decode cX5_aboutOf 59 = .ok (.iaload, 1) := by decide +kernel
theorem dX5_aboutOf_60 : decode cX5_aboutOf 60 = .ok (.ireturn, 1) := by decide +kernel
theorem dX5_aboutOf_61 : decode cX5_aboutOf 61 = .ok (.aload_n 0, 1) := by decide +kernel
theorem dX5_aboutOf_62 : decode cX5_aboutOf 62 = .ok (.getfield 41, 3) := by decide +kernel
theorem dX5_aboutOf_65 : decode cX5_aboutOf 65 = .ok (.iload_n 1, 1) := by decide +kernel
theorem dX5_aboutOf_66 : decode cX5_aboutOf 66 = .ok (.iaload, 1) := by decide +kernel
theorem dX5_aboutOf_67 : decode cX5_aboutOf 67 = .ok (.ireturn, 1) := by decide +kernel
theorem dX5_aboutOf_68 : decode cX5_aboutOf 68 = .ok (.aload_n 0, 1) := by decide +kernel
theorem dX5_aboutOf_69 : decode cX5_aboutOf 69 = .ok (.getfield 44, 3) := by decide +kernel
theorem dX5_aboutOf_72 : decode cX5_aboutOf 72 = .ok (.iload_n 1, 1) := by decide +kernel
theorem dX5_aboutOf_73 : decode cX5_aboutOf 73 = .ok (.iaload, 1) := by decide +kernel
theorem dX5_aboutOf_74 : decode cX5_aboutOf 74 = .ok (.ireturn, 1) := by decide +kernel
theorem dX5_aboutOf_75 : decode cX5_aboutOf 75 = .ok (.aload_n 0, 1) := by decide +kernel
theorem dX5_aboutOf_76 : decode cX5_aboutOf 76 = .ok (.getfield 47, 3) := by decide +kernel
theorem dX5_aboutOf_79 : decode cX5_aboutOf 79 = .ok (.iload_n 1, 1) := by decide +kernel
theorem dX5_aboutOf_80 : decode cX5_aboutOf 80 = .ok (.iaload, 1) := by decide +kernel
theorem dX5_aboutOf_81 : decode cX5_aboutOf 81 = .ok (.ireturn, 1) := by decide +kernel
theorem dX5_aboutOf_82 : decode cX5_aboutOf 82 = .ok (.aload_n 0, 1) := by decide +kernel
theorem dX5_aboutOf_83 : decode cX5_aboutOf 83 = .ok (.getfield 41, 3) := by decide +kernel
theorem dX5_aboutOf_86 : decode cX5_aboutOf 86 = .ok (.iload_n 1, 1) := by decide +kernel
theorem dX5_aboutOf_87 : decode cX5_aboutOf 87 = .ok (.iaload, 1) := by decide +kernel
theorem dX5_aboutOf_88 : decode cX5_aboutOf 88 = .ok (.aload_n 0, 1) := by decide +kernel
theorem dX5_aboutOf_89 : decode cX5_aboutOf 89 = .ok (.getfield 38, 3) := by decide +kernel
theorem dX5_aboutOf_92 : decode cX5_aboutOf 92 = .ok (.iload_n 1, 1) := by decide +kernel
theorem dX5_aboutOf_93 : decode cX5_aboutOf 93 = .ok (.iaload, 1) := by decide +kernel
theorem dX5_aboutOf_94 : decode cX5_aboutOf 94 = .ok (.isub, 1) := by decide +kernel
theorem dX5_aboutOf_95 : decode cX5_aboutOf 95 = .ok (.ireturn, 1) := by decide +kernel
set_option maxRecDepth 20000 in
theorem ggX5_about_X5_in : GoodIn wsX5_about wsX5_in := goodIn_r _ [6] (by decide +kernel) (by decide +kernel)
set_option maxRecDepth 20000 in
theorem gX5_about_X5_in : GoodIn wsX5_about (va_wsS RX5 66 yX5_in wsX5_in) := goodIn_app (goodIn_of _ (by decide +kernel)) ggX5_about_X5_in
set_option maxRecDepth 20000 in
theorem ggX5_about_X5_aboutOf : GoodIn wsX5_about wsX5_aboutOf := goodIn_r _ [10, 11, 12, 13, 14, 15, 16, 17, 18, 19, 20, 21, 22, 23, 24, 25, 26, 27, 28, 29, 30, 31, 32, 33, 34, 35, 36, 37] (by decide +kernel) (by decide +kernel)
set_option maxRecDepth 20000 in
theorem gX5_about_X5_aboutOf : GoodIn wsX5_about (wsV RX5 119 RX5 yX5_aboutOf wsX5_aboutOf) := goodIn_app (goodIn_of _ (by decide +kernel)) ggX5_about_X5_aboutOf
theorem dX5_about_0 : decode cX5_about 0 = .ok (.iload_n 1, 1) := by decide +kernel
theorem dX5_about_1 : decode cX5_about 1 = .ok (.ifCond .lt 15, 3) := by decide +kernel
theorem dX5_about_4 : decode cX5_about 4 = .ok (.iload_n 2, 1) := by decide +kernel
theorem dX5_about_5 : decode cX5_about 5 = .ok (.i2l, 1) := by decide +kernel
theorem dX5_about_6 : decode cX5_about 6 = .ok (.lconst 0, 1) := by decide +kernel
theorem dX5_about_7 : decode cX5_about 7 = .ok (.ldc2_w 117, 3) := by decide +kernel
theorem dX5_about_10 : decode cX5_about 10 = .ok (.invokestatic 66, 3) := by decide +kernel
theorem dX5_about_13 : decode cX5_about 13 = .ok (.ifCond .ne 8, 3) := by decide +kernel
theorem dX5_about_16 : decode cX5_about 16 = .ok (.bipush (-2), 2) := by decide +kernel
theorem dX5_about_18 : decode cX5_about 18 = .ok (.goto 21, 3) := by decide +kernel
theorem dX5_about_21 : decode cX5_about 21 = .ok (.iload_n 1, 1) := by decide +kernel
theorem dX5_about_22 : decode cX5_about 22 = .ok (.aload_n 0, 1) := by decide +kernel
theorem dX5_about_23 : decode cX5_about 23 = .ok (.getfield 102, 3) := by decide +kernel
theorem dX5_about_26 : decode cX5_about 26 = .ok (.if_icmp .lt 7, 3) := by decide +kernel
theorem dX5_about_29 : decode cX5_about 29 = .ok (.iconst (-1), 1) := by decide +kernel
theorem dX5_about_30 : decode cX5_about 30 = .ok (.goto 9, 3) := by decide +kernel
theorem dX5_about_33 : decode cX5_about 33 = .ok (.aload_n 0, 1) := by decide +kernel
theorem dX5_about_34 : decode cX5_about 34 = .ok (.iload_n 1, 1) := by decide +kernel
theorem dX5_about_35 : decode cX5_about 35 = .ok (.iload_n 2, 1) := by decide +kernel
theorem dX5_about_36 : decode cX5_about 36 = .ok (.invokevirtual 119, 3) := by decide +kernel
theorem dX5_about_39 : decode cX5_about 39 = .ok (.ireturn, 1) := by decide +kernel
theorem dX5_counts_0 : decode cX5_counts 0 = .ok (.aload_n 0, 1) := by decide +kernel
theorem dX5_counts_1 : decode cX5_counts 1 = .ok (.getfield 47, 3) := by decide +kernel
theorem dX5_counts_4 : decode cX5_counts 4 = .ok (.iload_n 1, 1) := by decide +kernel
theorem dX5_counts_5 : decode cX5_counts 5 = .ok (.iaload, 1) := by decide +kernel
theorem dX5_counts_6 : decode cX5_counts 6 = .ok (.ifCond .ne 17, 3) := by decide +kernel
theorem dX5_counts_9 : decode cX5_counts 9 = .ok (.aload_n 0, 1) := by decide +kernel
theorem dX5_counts_10 : decode cX5_counts 10 = .ok (.getfield 41, 3) := by decide +kernel
theorem dX5_counts_13 : decode cX5_counts 13 = .ok (.iload_n 1, 1) := by decide +kernel
theorem dX5_counts_14 : decode cX5_counts 14 = .ok (.iaload, 1) := by decide +kernel
theorem dX5_counts_15 : decode cX5_counts 15 = .ok (.iload_n 2, 1) := by decide +kernel
theorem dX5_counts_16 : decode cX5_counts 16 = .ok (.if_icmp .gt 7, 3) := by decide +kernel
theorem dX5_counts_19 : decode cX5_counts 19 = .ok (.iconst 1, 1) := by decide +kernel
theorem dX5_counts_20 : decode cX5_counts 20 = .ok (.goto 4, 3) := by decide +kernel
theorem dX5_counts_23 : decode cX5_counts 23 = .ok (.iconst 0, 1) := by decide +kernel
theorem dX5_counts_24 : decode cX5_counts 24 = .ok (.ireturn, 1) := by decide +kernel
set_option maxRecDepth 20000 in
theorem ggX5_table_X5_in : GoodIn wsX5_table wsX5_in := goodIn_r _ [9] (by decide +kernel) (by decide +kernel)
set_option maxRecDepth 20000 in
theorem gX5_table_X5_in : GoodIn wsX5_table (va_wsS RX5 66 yX5_in wsX5_in) := goodIn_app (goodIn_of _ (by decide +kernel)) ggX5_table_X5_in
set_option maxRecDepth 20000 in
theorem ggX5_table_X5_isMonth : GoodIn wsX5_table wsX5_isMonth := goodIn_r _ [12, 13, 6, 7, 8, 9] (by decide +kernel) (by decide +kernel)
set_option maxRecDepth 20000 in
theorem gX5_table_X5_isMonth : GoodIn wsX5_table (va_wsS RX5 91 yX5_isMonth wsX5_isMonth) := goodIn_app (goodIn_of _ (by decide +kernel)) ggX5_table_X5_isMonth
set_option maxRecDepth 20000 in
theorem ggX5_table_X5_counts : GoodIn wsX5_table wsX5_counts := goodIn_r _ [17, 18, 19, 20, 21, 22, 23, 24, 25, 26, 27, 28, 29, 30, 31, 32, 33, 34, 35, 36, 37, 38, 39, 40] (by decide +kernel) (by decide +kernel)
set_option maxRecDepth 20000 in
theorem gX5_table_X5_counts : GoodIn wsX5_table (wsV RX5 123 RX5 yX5_counts wsX5_counts) := goodIn_app (goodIn_of _ (by decide +kernel)) ggX5_table_X5_counts
theorem dX5_table_0 : decode cX5_table 0 = .ok (.iload_n 1, 1) := by decide +kernel
theorem dX5_table_1 : decode cX5_table 1 = .ok (.i2l, 1) := by decide +kernel
theorem dX5_table_2 : decode cX5_table 2 = .ok (.lconst 0, 1) := by decide +kernel
theorem dX5_table_3 : decode cX5_table 3 = .ok (.ldc2_w 75, 3) := by decide +kernel
theorem dX5_table_6 : decode cX5_table 6 = .ok (.invokestatic 66, 3) := by decide +kernel
theorem dX5_table_9 : decode cX5_table 9 = .ok (.ifCond .eq 17, 3) := by decide +kernel
theorem dX5_table_12 : decode cX5_table 12 = .ok (.iload_n 2, 1) := by decide +kernel
theorem dX5_table_13 : decode cX5_table 13 = .ok (.invokestatic 91, 3) := by decide +kernel
theorem dX5_table_16 : decode cX5_table 16 = .ok (.ifCond .eq 10, 3) := by decide +kernel
theorem dX5_table_19 : decode cX5_table 19 = .ok (.iload_n 3, 1) := by decide +kernel
theorem dX5_table_20 : decode cX5_table 20 = .ok (.invokestatic 91, 3) := by decide +kernel
theorem dX5_table_23 : decode cX5_table 23 = .ok (.ifCond .ne 6, 3) := by decide +kernel
theorem dX5_table_26 : decode cX5_table 26 = .ok (.bipush (-2), 2) := by decide +kernel
theorem dX5_table_28 : decode cX5_table 28 = .ok (.ireturn, 1) := by decide +kernel
theorem dX5_table_29 : decode cX5_table 29 = .ok (.iconst 0, 1) := by decide +kernel
theorem dX5_table_30 : decode cX5_table 30 = .ok (.istore 4, 2) := by decide +kernel
theorem dX5_table_32 : decode cX5_table 32 = .ok (.iconst 0, 1) := by decide +kernel
theorem dX5_table_33 : decode cX5_table 33 = .ok (.istore 5, 2) := by decide +kernel
theorem dX5_table_35 : decode cX5_table 35 = .ok (.iload 5, 2) := by decide +kernel
theorem dX5_table_37 : decode cX5_table 37 = .ok (.aload_n 0, 1) := by decide +kernel
theorem dX5_table_38 : decode cX5_table 38 = .ok (.getfield 102, 3) := by decide +kernel
theorem dX5_table_41 : decode cX5_table 41 = .ok (.if_icmp .ge 58, 3) := by decide +kernel
theorem dX5_table_44 : decode cX5_table 44 = .ok (.iload 4, 2) := by decide +kernel
theorem dX5_table_46 : decode cX5_table 46 = .ok (.aload_n 0, 1) := by decide +kernel
theorem dX5_table_47 : decode cX5_table 47 = .ok (.iload 5, 2) := by decide +kernel
theorem dX5_table_49 : decode cX5_table 49 = .ok (.iload_n 3, 1) := by decide +kernel
theorem dX5_table_50 : decode cX5_table 50 = .ok (.invokevirtual 123, 3) := by decide +kernel
theorem dX5_table_53 : decode cX5_table 53 = .ok (.ifCond .eq 36, 3) := by decide +kernel
theorem dX5_table_56 : decode cX5_table 56 = .ok (.aload_n 0, 1) := by decide +kernel
theorem dX5_table_57 : decode cX5_table 57 = .ok (.getfield 19, 3) := by decide +kernel
theorem dX5_table_60 : decode cX5_table 60 = .ok (.aload_n 0, 1) := by decide +kernel
theorem dX5_table_61 : decode cX5_table 61 = .ok (.getfield 32, 3) := by decide +kernel
theorem dX5_table_64 : decode cX5_table 64 = .ok (.iload 5, 2) := by decide +kernel
theorem dX5_table_66 : decode cX5_table 66 = .ok (.iaload, 1) := by decide +kernel
theorem dX5_table_67 : decode cX5_table 67 = .ok (.iaload, 1) := by decide +kernel
theorem dX5_table_68 : decode cX5_table 68 = .ok (.iload_n 1, 1) := by decide +kernel
theorem dX5_table_69 : decode cX5_table 69 = .ok (.if_icmp .ne 20, 3) := by decide +kernel
theorem dX5_table_72 : decode cX5_table 72 = .ok (.aload_n 0, 1) := by decide +kernel
theorem dX5_table_73 : decode cX5_table 73 = .ok (.getfield 38, 3) := by decide +kernel
theorem dX5_table_76 : decode cX5_table 76 = .ok (.iload 5, 2) := by decide +kernel
theorem dX5_table_78 : decode cX5_table 78 = .ok (.iaload, 1) := by decide +kernel
theorem dX5_table_79 : decode cX5_table 79 = .ok (.iload_n 1, 1) := by decide +kernel
theorem dX5_table_80 : decode cX5_table 80 = .ok (.iload_n 2, 1) := by decide +kernel
theorem dX5_table_81 : decode cX5_table 81 = .ok (.iadd, 1) := by decide +kernel
theorem dX5_table_82 : decode cX5_table 82 = .ok (.if_icmp .ne 7, 3) := by decide +kernel
theorem dX5_table_85 : decode cX5_table 85 = .ok (.iconst 1, 1) := by decide +kernel
theorem dX5_table_86 : decode cX5_table 86 = .ok (.goto 4, 3) := by decide +kernel
theorem dX5_table_89 : decode cX5_table 89 = .ok (.iconst 0, 1) := by decide +kernel
theorem dX5_table_90 : decode cX5_table 90 = .ok (.iadd, 1) := by decide +kernel
theorem dX5_table_91 : decode cX5_table 91 = .ok (.istore 4, 2) := by decide +kernel
theorem dX5_table_93 : decode cX5_table 93 = .ok (.iinc 5 1, 3) := by decide +kernel
theorem dX5_table_96 : decode cX5_table 96 = .ok (.goto (-61), 3) := by decide +kernel
theorem dX5_table_99 : decode cX5_table 99 = .ok (.iload 4, 2) := by decide +kernel
theorem dX5_table_101 : decode cX5_table 101 = .ok (.ireturn, 1) := by decide +kernel
set_option maxRecDepth 20000 in
theorem ggX5_exposedAt_X5_isPromised : GoodIn wsX5_exposedAt wsX5_isPromised := goodIn_r _ [7, 2, 8, 9, 10, 11, 12, 13, 14, 15, 16, 17, 18, 19, 20, 21, 22, 23, 24, 25, 26, 27, 28, 29, 30, 31, 32] (by decide +kernel) (by decide +kernel)
set_option maxRecDepth 20000 in
theorem gX5_exposedAt_X5_isPromised : GoodIn wsX5_exposedAt (wsV RX5 94 RX5 yX5_isPromised wsX5_isPromised) := goodIn_app (goodIn_of _ (by decide +kernel)) ggX5_exposedAt_X5_isPromised
theorem dX5_exposedAt_0 : decode cX5_exposedAt 0 = .ok (.iconst 0, 1) := by decide +kernel
theorem dX5_exposedAt_1 : decode cX5_exposedAt 1 = .ok (.istore_n 3, 1) := by decide +kernel
theorem dX5_exposedAt_2 : decode cX5_exposedAt 2 = .ok (.iconst 0, 1) := by decide +kernel
theorem dX5_exposedAt_3 : decode cX5_exposedAt 3 = .ok (.istore 4, 2) := by decide +kernel
theorem dX5_exposedAt_5 : decode cX5_exposedAt 5 = .ok (.iload 4, 2) := by decide +kernel
theorem dX5_exposedAt_7 : decode cX5_exposedAt 7 = .ok (.aload_n 0, 1) := by decide +kernel
theorem dX5_exposedAt_8 : decode cX5_exposedAt 8 = .ok (.getfield 70, 3) := by decide +kernel
theorem dX5_exposedAt_11 : decode cX5_exposedAt 11 = .ok (.if_icmp .ge 48, 3) := by decide +kernel
theorem dX5_exposedAt_14 : decode cX5_exposedAt 14 = .ok (.iload_n 3, 1) := by decide +kernel
theorem dX5_exposedAt_15 : decode cX5_exposedAt 15 = .ok (.aload_n 0, 1) := by decide +kernel
theorem dX5_exposedAt_16 : decode cX5_exposedAt 16 = .ok (.getfield 19, 3) := by decide +kernel
theorem dX5_exposedAt_19 : decode cX5_exposedAt 19 = .ok (.iload 4, 2) := by decide +kernel
theorem dX5_exposedAt_21 : decode cX5_exposedAt 21 = .ok (.iaload, 1) := by decide +kernel
theorem dX5_exposedAt_22 : decode cX5_exposedAt 22 = .ok (.iload_n 1, 1) := by decide +kernel
theorem dX5_exposedAt_23 : decode cX5_exposedAt 23 = .ok (.iadd, 1) := by decide +kernel
theorem dX5_exposedAt_24 : decode cX5_exposedAt 24 = .ok (.iload_n 2, 1) := by decide +kernel
theorem dX5_exposedAt_25 : decode cX5_exposedAt 25 = .ok (.if_icmp .gt 25, 3) := by decide +kernel
theorem dX5_exposedAt_28 : decode cX5_exposedAt 28 = .ok (.aload_n 0, 1) := by decide +kernel
theorem dX5_exposedAt_29 : decode cX5_exposedAt 29 = .ok (.iload 4, 2) := by decide +kernel
theorem dX5_exposedAt_31 : decode cX5_exposedAt 31 = .ok (.aload_n 0, 1) := by decide +kernel
theorem dX5_exposedAt_32 : decode cX5_exposedAt 32 = .ok (.getfield 19, 3) := by decide +kernel
theorem dX5_exposedAt_35 : decode cX5_exposedAt 35 = .ok (.iload 4, 2) := by decide +kernel
theorem dX5_exposedAt_37 : decode cX5_exposedAt 37 = .ok (.iaload, 1) := by decide +kernel
theorem dX5_exposedAt_38 : decode cX5_exposedAt 38 = .ok (.iload_n 1, 1) := by decide +kernel
theorem dX5_exposedAt_39 : decode cX5_exposedAt 39 = .ok (.iadd, 1) := by decide +kernel
theorem dX5_exposedAt_40 : decode cX5_exposedAt 40 = .ok (.invokevirtual 94, 3) := by decide +kernel
theorem dX5_exposedAt_43 : decode cX5_exposedAt 43 = .ok (.ifCond .eq 7, 3) := by decide +kernel
theorem dX5_exposedAt_46 : decode cX5_exposedAt 46 = .ok (.iconst 1, 1) := by decide +kernel
theorem dX5_exposedAt_47 : decode cX5_exposedAt 47 = .ok (.goto 4, 3) := by decide +kernel
theorem dX5_exposedAt_50 : decode cX5_exposedAt 50 = .ok (.iconst 0, 1) := by decide +kernel
theorem dX5_exposedAt_51 : decode cX5_exposedAt 51 = .ok (.iadd, 1) := by decide +kernel
theorem dX5_exposedAt_52 : decode cX5_exposedAt 52 = .ok (.istore_n 3, 1) := by decide +kernel
theorem dX5_exposedAt_53 : decode cX5_exposedAt 53 = .ok (.iinc 4 1, 3) := by decide +kernel
theorem dX5_exposedAt_56 : decode cX5_exposedAt 56 = .ok (.goto (-51), 3) := by decide +kernel
theorem dX5_exposedAt_59 : decode cX5_exposedAt 59 = .ok (.iload_n 3, 1) := by decide +kernel
theorem dX5_exposedAt_60 : decode cX5_exposedAt 60 = .ok (.ireturn, 1) := by decide +kernel
set_option maxRecDepth 20000 in
theorem ggX5_exposed_X5_isMonth : GoodIn wsX5_exposed wsX5_isMonth := goodIn_r _ [4, 5, 6, 7, 3, 8] (by decide +kernel) (by decide +kernel)
set_option maxRecDepth 20000 in
theorem gX5_exposed_X5_isMonth : GoodIn wsX5_exposed (va_wsS RX5 91 yX5_isMonth wsX5_isMonth) := goodIn_app (goodIn_of _ (by decide +kernel)) ggX5_exposed_X5_isMonth
set_option maxRecDepth 20000 in
theorem ggX5_exposed_X5_exposedAt : GoodIn wsX5_exposed wsX5_exposedAt := goodIn_r _ [12, 13, 14, 15, 16, 17, 3, 18, 19, 20, 21, 22, 23, 24, 25, 26, 27, 28, 29, 30, 31, 32, 33, 34, 35, 36, 37, 38, 39, 40, 41, 42, 43] (by decide +kernel) (by decide +kernel)
set_option maxRecDepth 20000 in
theorem gX5_exposed_X5_exposedAt : GoodIn wsX5_exposed (wsV RX5 126 RX5 yX5_exposedAt wsX5_exposedAt) := goodIn_app (goodIn_of _ (by decide +kernel)) ggX5_exposed_X5_exposedAt
theorem dX5_exposed_0 : decode cX5_exposed 0 = .ok (.iload_n 1, 1) := by decide +kernel
theorem dX5_exposed_1 : decode cX5_exposed 1 = .ok (.invokestatic 91, 3) := by decide +kernel
theorem dX5_exposed_4 : decode cX5_exposed 4 = .ok (.ifCond .eq 10, 3) := by decide +kernel
theorem dX5_exposed_7 : decode cX5_exposed 7 = .ok (.iload_n 2, 1) := by decide +kernel
theorem dX5_exposed_8 : decode cX5_exposed 8 = .ok (.invokestatic 91, 3) := by decide +kernel
theorem dX5_exposed_11 : decode cX5_exposed 11 = .ok (.ifCond .ne 8, 3) := by decide +kernel
theorem dX5_exposed_14 : decode cX5_exposed 14 = .ok (.bipush (-2), 2) := by decide +kernel
theorem dX5_exposed_16 : decode cX5_exposed 16 = .ok (.goto 9, 3) := by decide +kernel
theorem dX5_exposed_19 : decode cX5_exposed 19 = .ok (.aload_n 0, 1) := by decide +kernel
theorem dX5_exposed_20 : decode cX5_exposed 20 = .ok (.iload_n 1, 1) := by decide +kernel
theorem dX5_exposed_21 : decode cX5_exposed 21 = .ok (.iload_n 2, 1) := by decide +kernel
theorem dX5_exposed_22 : decode cX5_exposed 22 = .ok (.invokevirtual 126, 3) := by decide +kernel
theorem dX5_exposed_25 : decode cX5_exposed 25 = .ok (.ireturn, 1) := by decide +kernel
theorem dX5_gcd_0 : decode cX5_gcd 0 = .ok (.lload_n 0, 1) := by decide +kernel
theorem dX5_gcd_1 : decode cX5_gcd 1 = .ok (.lstore 4, 2) := by decide +kernel
theorem dX5_gcd_3 : decode cX5_gcd 3 = .ok (.lload_n 2, 1) := by decide +kernel
theorem dX5_gcd_4 : decode cX5_gcd 4 = .ok (.lstore 6, 2) := by decide +kernel
theorem dX5_gcd_6 : decode cX5_gcd 6 = .ok (.lload 6, 2) := by decide +kernel
theorem dX5_gcd_8 : decode cX5_gcd 8 = .ok (.lconst 0, 1) := by decide +kernel
theorem dX5_gcd_9 : decode cX5_gcd 9 = .ok (.lcmp, 1) := by decide +kernel
theorem dX5_gcd_10 : decode cX5_gcd 10 = .ok (.ifCond .eq 21, 3) := by decide +kernel
theorem dX5_gcd_13 : decode cX5_gcd 13 = .ok (.lload 4, 2) := by decide +kernel
theorem dX5_gcd_15 : decode cX5_gcd 15 = .ok (.lload 6, 2) := by decide +kernel
theorem dX5_gcd_17 : decode cX5_gcd 17 = .ok (.lrem, 1) := by decide +kernel
theorem dX5_gcd_18 : decode cX5_gcd 18 = .ok (.lstore 8, 2) := by decide +kernel
theorem dX5_gcd_20 : decode cX5_gcd 20 = .ok (.lload 6, 2) := by decide +kernel
theorem dX5_gcd_22 : decode cX5_gcd 22 = .ok (.lstore 4, 2) := by decide +kernel
theorem dX5_gcd_24 : decode cX5_gcd 24 = .ok (.lload 8, 2) := by decide +kernel
theorem dX5_gcd_26 : decode cX5_gcd 26 = .ok (.lstore 6, 2) := by decide +kernel
theorem dX5_gcd_28 : decode cX5_gcd 28 = .ok (.goto (-22), 3) := by decide +kernel
theorem dX5_gcd_31 : decode cX5_gcd 31 = .ok (.lload 4, 2) := by decide +kernel
theorem dX5_gcd_33 : decode cX5_gcd 33 = .ok (.lreturn, 1) := by decide +kernel
set_option maxRecDepth 20000 in
theorem ggX5_rate_X5_isMonth : GoodIn wsX5_rate wsX5_isMonth := goodIn_r _ [8, 9, 10, 11, 7, 12] (by decide +kernel) (by decide +kernel)
set_option maxRecDepth 20000 in
theorem gX5_rate_X5_isMonth : GoodIn wsX5_rate (va_wsS RX5 91 yX5_isMonth wsX5_isMonth) := goodIn_app (goodIn_of _ (by decide +kernel)) ggX5_rate_X5_isMonth
set_option maxRecDepth 20000 in
theorem ggX5_rate_X5_in : GoodIn wsX5_rate wsX5_in := goodIn_r _ [12] (by decide +kernel) (by decide +kernel)
set_option maxRecDepth 20000 in
theorem gX5_rate_X5_in : GoodIn wsX5_rate (va_wsS RX5 66 yX5_in wsX5_in) := goodIn_app (goodIn_of _ (by decide +kernel)) ggX5_rate_X5_in
set_option maxRecDepth 20000 in
theorem ggX5_rate_X5_exposedAt : GoodIn wsX5_rate wsX5_exposedAt := goodIn_r _ [16, 17, 3, 18, 19, 20, 7, 21, 22, 23, 24, 25, 35, 36, 37, 38, 39, 40, 41, 42, 43, 44, 45, 46, 47, 48, 49, 50, 51, 52, 53, 54, 55] (by decide +kernel) (by decide +kernel)
set_option maxRecDepth 20000 in
theorem gX5_rate_X5_exposedAt : GoodIn wsX5_rate (wsV RX5 126 RX5 yX5_exposedAt wsX5_exposedAt) := goodIn_app (goodIn_of _ (by decide +kernel)) ggX5_rate_X5_exposedAt
set_option maxRecDepth 20000 in
theorem ggX5_rate_X5_counts : GoodIn wsX5_rate wsX5_counts := goodIn_r _ [29, 30, 31, 35, 36, 37, 38, 39, 40, 41, 42, 43, 44, 45, 46, 47, 48, 49, 50, 51, 52, 53, 54, 55] (by decide +kernel) (by decide +kernel)
set_option maxRecDepth 20000 in
theorem gX5_rate_X5_counts : GoodIn wsX5_rate (wsV RX5 123 RX5 yX5_counts wsX5_counts) := goodIn_app (goodIn_of _ (by decide +kernel)) ggX5_rate_X5_counts
set_option maxRecDepth 20000 in
theorem ggX5_rate_X5_gcd : GoodIn wsX5_rate wsX5_gcd := goodIn_r _ [34] (by decide +kernel) (by decide +kernel)
set_option maxRecDepth 20000 in
theorem gX5_rate_X5_gcd : GoodIn wsX5_rate (va_wsS RX5 129 yX5_gcd wsX5_gcd) := goodIn_app (goodIn_of _ (by decide +kernel)) ggX5_rate_X5_gcd
theorem dX5_rate_0 : decode cX5_rate 0 = .ok (.iload_n 1, 1) := by decide +kernel
theorem dX5_rate_1 : decode cX5_rate 1 = .ok (.invokestatic 91, 3) := by decide +kernel
theorem dX5_rate_4 : decode cX5_rate 4 = .ok (.ifCond .eq 20, 3) := by decide +kernel
theorem dX5_rate_7 : decode cX5_rate 7 = .ok (.iload_n 2, 1) := by decide +kernel
theorem dX5_rate_8 : decode cX5_rate 8 = .ok (.invokestatic 91, 3) := by decide +kernel
theorem dX5_rate_11 : decode cX5_rate 11 = .ok (.ifCond .eq 13, 3) := by decide +kernel
theorem dX5_rate_14 : decode cX5_rate 14 = .ok (.iload_n 3, 1) := by decide +kernel
theorem dX5_rate_15 : decode cX5_rate 15 = .ok (.i2l, 1) := by decide +kernel
theorem dX5_rate_16 : decode cX5_rate 16 = .ok (.lconst 0, 1) := by decide +kernel
theorem dX5_rate_17 : decode cX5_rate 17 = .ok (.lconst 1, 1) := by decide +kernel
theorem dX5_rate_18 : decode cX5_rate 18 = .ok (.invokestatic 66, 3) := by decide +kernel
theorem dX5_rate_21 : decode cX5_rate 21 = .ok (.ifCond .ne 6, 3) := by decide +kernel
theorem dX5_rate_24 : decode cX5_rate 24 = .ok (.bipush (-2), 2) := by decide +kernel
theorem dX5_rate_26 : decode cX5_rate 26 = .ok (.ireturn, 1) := by decide +kernel
theorem dX5_rate_27 : decode cX5_rate 27 = .ok (.aload_n 0, 1) := by decide +kernel
theorem dX5_rate_28 : decode cX5_rate 28 = .ok (.iload_n 1, 1) := by decide +kernel
theorem dX5_rate_29 : decode cX5_rate 29 = .ok (.iload_n 2, 1) := by decide +kernel
theorem dX5_rate_30 : decode cX5_rate 30 = .ok (.invokevirtual 126, 3) := by decide +kernel
theorem dX5_rate_33 : decode cX5_rate 33 = .ok (.istore 4, 2) := by decide +kernel
theorem dX5_rate_35 : decode cX5_rate 35 = .ok (.iload 4, 2) := by decide +kernel
theorem dX5_rate_37 : decode cX5_rate 37 = .ok (.ifCond .ne 6, 3) := by decide +kernel
theorem dX5_rate_40 : decode cX5_rate 40 = .ok (.bipush (-3), 2) := by decide +kernel
theorem dX5_rate_42 : decode cX5_rate 42 = .ok (.ireturn, 1) := by decide +kernel
theorem dX5_rate_43 : decode cX5_rate 43 = .ok (.iconst 0, 1) := by decide +kernel
theorem dX5_rate_44 : decode cX5_rate 44 = .ok (.istore 5, 2) := by decide +kernel
theorem dX5_rate_46 : decode cX5_rate 46 = .ok (.iconst 0, 1) := by decide +kernel
theorem dX5_rate_47 : decode cX5_rate 47 = .ok (.istore 6, 2) := by decide +kernel
theorem dX5_rate_49 : decode cX5_rate 49 = .ok (.iload 6, 2) := by decide +kernel
theorem dX5_rate_51 : decode cX5_rate 51 = .ok (.aload_n 0, 1) := by decide +kernel
theorem dX5_rate_52 : decode cX5_rate 52 = .ok (.getfield 102, 3) := by decide +kernel
theorem dX5_rate_55 : decode cX5_rate 55 = .ok (.if_icmp .ge 53, 3) := by decide +kernel
theorem dX5_rate_58 : decode cX5_rate 58 = .ok (.iload 5, 2) := by decide +kernel
theorem dX5_rate_60 : decode cX5_rate 60 = .ok (.aload_n 0, 1) := by decide +kernel
theorem dX5_rate_61 : decode cX5_rate 61 = .ok (.iload 6, 2) := by decide +kernel
theorem dX5_rate_63 : decode cX5_rate 63 = .ok (.iload_n 2, 1) := by decide +kernel
theorem dX5_rate_64 : decode cX5_rate 64 = .ok (.invokevirtual 123, 3) := by decide +kernel
theorem dX5_rate_67 : decode cX5_rate 67 = .ok (.ifCond .eq 31, 3) := by decide +kernel
theorem dX5_rate_70 : decode cX5_rate 70 = .ok (.aload_n 0, 1) := by decide +kernel
theorem dX5_rate_71 : decode cX5_rate 71 = .ok (.getfield 38, 3) := by decide +kernel
theorem dX5_rate_74 : decode cX5_rate 74 = .ok (.iload 6, 2) := by decide +kernel
theorem dX5_rate_76 : decode cX5_rate 76 = .ok (.iaload, 1) := by decide +kernel
theorem dX5_rate_77 : decode cX5_rate 77 = .ok (.aload_n 0, 1) := by decide +kernel
theorem dX5_rate_78 : decode cX5_rate 78 = .ok (.getfield 19, 3) := by decide +kernel
theorem dX5_rate_81 : decode cX5_rate 81 = .ok (.aload_n 0, 1) := by decide +kernel
theorem dX5_rate_82 : decode cX5_rate 82 = .ok (.getfield 32, 3) := by decide +kernel
theorem dX5_rate_85 : decode cX5_rate 85 = .ok (.iload 6, 2) := by decide +kernel
theorem dX5_rate_87 : decode cX5_rate 87 = .ok (.iaload, 1) := by decide +kernel
theorem dX5_rate_88 : decode cX5_rate 88 = .ok (.iaload, 1) := by decide +kernel
theorem dX5_rate_89 : decode cX5_rate 89 = .ok (.isub, 1) := by decide +kernel
theorem dX5_rate_90 : decode cX5_rate 90 = .ok (.iload_n 1, 1) := by decide +kernel
theorem dX5_rate_91 : decode cX5_rate 91 = .ok (.if_icmp .ne 7, 3) := by decide +kernel
theorem dX5_rate_94 : decode cX5_rate 94 = .ok (.iconst 1, 1) := by decide +kernel
theorem dX5_rate_95 : decode cX5_rate 95 = .ok (.goto 4, 3) := by decide +kernel
theorem dX5_rate_98 : decode cX5_rate 98 = .ok (.iconst 0, 1) := by decide +kernel
theorem dX5_rate_99 : decode cX5_rate 99 = .ok (.iadd, 1) := by decide +kernel
theorem dX5_rate_100 : decode cX5_rate 100 = .ok (.istore 5, 2) := by decide +kernel
theorem dX5_rate_102 : decode cX5_rate 102 = .ok (.iinc 6 1, 3) := by decide +kernel
theorem dX5_rate_105 : decode cX5_rate 105 = .ok (.goto (-56), 3) := by decide +kernel
theorem dX5_rate_108 : decode cX5_rate 108 = .ok (.iload 5, 2) := by decide +kernel
theorem dX5_rate_110 : decode cX5_rate 110 = .ok (.i2l, 1) := by decide +kernel
theorem dX5_rate_111 : decode cX5_rate 111 = .ok (.iload 4, 2) := by decide +kernel
theorem dX5_rate_113 : decode cX5_rate 113 = .ok (.i2l, 1) := by decide +kernel
end
section
theorem dX5_rate_114 : decode cX5_rate 114 = .ok (.invokestatic 129, 3) := by decide +kernel
theorem dX5_rate_117 : decode cX5_rate 117 = .ok (.l2i, 1) := by decide +kernel
theorem dX5_rate_118 : decode cX5_rate 118 = .ok (.istore 6, 2) := by decide +kernel
theorem dX5_rate_120 : decode cX5_rate 120 = .ok (.iload_n 3, 1) := by decide +kernel
theorem dX5_rate_121 : decode cX5_rate 121 = .ok (.ifCond .ne 11, 3) := by decide +kernel
theorem dX5_rate_124 : decode cX5_rate 124 = .ok (.iload 5, 2) := by decide +kernel
theorem dX5_rate_126 : decode cX5_rate 126 = .ok (.iload 6, 2) := by decide +kernel
theorem dX5_rate_128 : decode cX5_rate 128 = .ok (.idiv, 1) := by decide +kernel
theorem dX5_rate_129 : decode cX5_rate 129 = .ok (.goto 8, 3) := by decide +kernel
theorem dX5_rate_132 : decode cX5_rate 132 = .ok (.iload 4, 2) := by decide +kernel
theorem dX5_rate_134 : decode cX5_rate 134 = .ok (.iload 6, 2) := by decide +kernel
theorem dX5_rate_136 : decode cX5_rate 136 = .ok (.idiv, 1) := by decide +kernel
theorem dX5_rate_137 : decode cX5_rate 137 = .ok (.ireturn, 1) := by decide +kernel
set_option maxRecDepth 20000 in
theorem ggX5_delaysOf_X5_counts : GoodIn wsX5_delaysOf wsX5_counts := goodIn_r _ [8, 9, 2, 10, 11, 12, 13, 14, 15, 16, 17, 18, 19, 20, 21, 22, 23, 24, 25, 26, 27, 28, 29, 30] (by decide +kernel) (by decide +kernel)
set_option maxRecDepth 20000 in
theorem gX5_delaysOf_X5_counts : GoodIn wsX5_delaysOf (wsV RX5 123 RX5 yX5_counts wsX5_counts) := goodIn_app (goodIn_of _ (by decide +kernel)) ggX5_delaysOf_X5_counts
theorem dX5_delaysOf_0 : decode cX5_delaysOf 0 = .ok (.iconst 0, 1) := by decide +kernel
theorem dX5_delaysOf_1 : decode cX5_delaysOf 1 = .ok (.istore_n 3, 1) := by decide +kernel
theorem dX5_delaysOf_2 : decode cX5_delaysOf 2 = .ok (.iconst 0, 1) := by decide +kernel
theorem dX5_delaysOf_3 : decode cX5_delaysOf 3 = .ok (.istore 4, 2) := by decide +kernel
theorem dX5_delaysOf_5 : decode cX5_delaysOf 5 = .ok (.iload 4, 2) := by decide +kernel
theorem dX5_delaysOf_7 : decode cX5_delaysOf 7 = .ok (.aload_n 0, 1) := by decide +kernel
theorem dX5_delaysOf_8 : decode cX5_delaysOf 8 = .ok (.getfield 102, 3) := by decide +kernel
theorem dX5_delaysOf_11 : decode cX5_delaysOf 11 = .ok (.if_icmp .ge 60, 3) := by decide +kernel
theorem dX5_delaysOf_14 : decode cX5_delaysOf 14 = .ok (.iload_n 3, 1) := by decide +kernel
theorem dX5_delaysOf_15 : decode cX5_delaysOf 15 = .ok (.aload_n 0, 1) := by decide +kernel
theorem dX5_delaysOf_16 : decode cX5_delaysOf 16 = .ok (.iload 4, 2) := by decide +kernel
theorem dX5_delaysOf_18 : decode cX5_delaysOf 18 = .ok (.iload_n 1, 1) := by decide +kernel
theorem dX5_delaysOf_19 : decode cX5_delaysOf 19 = .ok (.invokevirtual 123, 3) := by decide +kernel
theorem dX5_delaysOf_22 : decode cX5_delaysOf 22 = .ok (.ifCond .eq 40, 3) := by decide +kernel
theorem dX5_delaysOf_25 : decode cX5_delaysOf 25 = .ok (.aload_n 0, 1) := by decide +kernel
theorem dX5_delaysOf_26 : decode cX5_delaysOf 26 = .ok (.getfield 41, 3) := by decide +kernel
theorem dX5_delaysOf_29 : decode cX5_delaysOf 29 = .ok (.iload 4, 2) := by decide +kernel
theorem dX5_delaysOf_31 : decode cX5_delaysOf 31 = .ok (.iaload, 1) := by decide +kernel
theorem dX5_delaysOf_32 : decode cX5_delaysOf 32 = .ok (.aload_n 0, 1) := by decide +kernel
theorem dX5_delaysOf_33 : decode cX5_delaysOf 33 = .ok (.getfield 38, 3) := by decide +kernel
theorem dX5_delaysOf_36 : decode cX5_delaysOf 36 = .ok (.iload 4, 2) := by decide +kernel
theorem dX5_delaysOf_38 : decode cX5_delaysOf 38 = .ok (.iaload, 1) := by decide +kernel
theorem dX5_delaysOf_39 : decode cX5_delaysOf 39 = .ok (.isub, 1) := by decide +kernel
theorem dX5_delaysOf_40 : decode cX5_delaysOf 40 = .ok (.iload_n 2, 1) := by decide +kernel
theorem dX5_delaysOf_41 : decode cX5_delaysOf 41 = .ok (.if_icmp .ne 21, 3) := by decide +kernel
theorem dX5_delaysOf_44 : decode cX5_delaysOf 44 = .ok (.aload_n 0, 1) := by decide +kernel
theorem dX5_delaysOf_45 : decode cX5_delaysOf 45 = .ok (.getfield 38, 3) := by decide +kernel
theorem dX5_delaysOf_48 : decode cX5_delaysOf 48 = .ok (.iload 4, 2) := by decide +kernel
theorem dX5_delaysOf_50 : decode cX5_delaysOf 50 = .ok (.iaload, 1) := by decide +kernel
theorem dX5_delaysOf_51 : decode cX5_delaysOf 51 = .ok (.iload_n 1, 1) := by decide +kernel
theorem dX5_delaysOf_52 : decode cX5_delaysOf 52 = .ok (.bipush 11, 2) := by decide +kernel
theorem dX5_delaysOf_54 : decode cX5_delaysOf 54 = .ok (.isub, 1) := by decide +kernel
theorem dX5_delaysOf_55 : decode cX5_delaysOf 55 = .ok (.if_icmp .gt 7, 3) := by decide +kernel
theorem dX5_delaysOf_58 : decode cX5_delaysOf 58 = .ok (.iconst 1, 1) := by decide +kernel
theorem dX5_delaysOf_59 : decode cX5_delaysOf 59 = .ok (.goto 4, 3) := by decide +kernel
theorem dX5_delaysOf_62 : decode cX5_delaysOf 62 = .ok (.iconst 0, 1) := by decide +kernel
theorem dX5_delaysOf_63 : decode cX5_delaysOf 63 = .ok (.iadd, 1) := by decide +kernel
theorem dX5_delaysOf_64 : decode cX5_delaysOf 64 = .ok (.istore_n 3, 1) := by decide +kernel
theorem dX5_delaysOf_65 : decode cX5_delaysOf 65 = .ok (.iinc 4 1, 3) := by decide +kernel
theorem dX5_delaysOf_68 : decode cX5_delaysOf 68 = .ok (.goto (-63), 3) := by decide +kernel
theorem dX5_delaysOf_71 : decode cX5_delaysOf 71 = .ok (.iload_n 3, 1) := by decide +kernel
theorem dX5_delaysOf_72 : decode cX5_delaysOf 72 = .ok (.ireturn, 1) := by decide +kernel
set_option maxRecDepth 20000 in
theorem ggX5_delays_X5_isMonth : GoodIn wsX5_delays wsX5_isMonth := goodIn_r _ [5, 6, 7, 8, 4, 9] (by decide +kernel) (by decide +kernel)
set_option maxRecDepth 20000 in
theorem gX5_delays_X5_isMonth : GoodIn wsX5_delays (va_wsS RX5 91 yX5_isMonth wsX5_isMonth) := goodIn_app (goodIn_of _ (by decide +kernel)) ggX5_delays_X5_isMonth
set_option maxRecDepth 20000 in
theorem ggX5_delays_X5_in : GoodIn wsX5_delays wsX5_in := goodIn_r _ [9] (by decide +kernel) (by decide +kernel)
set_option maxRecDepth 20000 in
theorem gX5_delays_X5_in : GoodIn wsX5_delays (va_wsS RX5 66 yX5_in wsX5_in) := goodIn_app (goodIn_of _ (by decide +kernel)) ggX5_delays_X5_in
set_option maxRecDepth 20000 in
theorem ggX5_delays_X5_delaysOf : GoodIn wsX5_delays wsX5_delaysOf := goodIn_r _ [13, 14, 15, 16, 17, 18, 19, 4, 20, 21, 22, 23, 24, 25, 26, 27, 28, 29, 30, 31, 32, 33, 34, 35, 36, 37, 38, 39, 40, 41, 42] (by decide +kernel) (by decide +kernel)
set_option maxRecDepth 20000 in
theorem gX5_delays_X5_delaysOf : GoodIn wsX5_delays (wsV RX5 135 RX5 yX5_delaysOf wsX5_delaysOf) := goodIn_app (goodIn_of _ (by decide +kernel)) ggX5_delays_X5_delaysOf
theorem dX5_delays_0 : decode cX5_delays 0 = .ok (.iload_n 1, 1) := by decide +kernel
theorem dX5_delays_1 : decode cX5_delays 1 = .ok (.invokestatic 91, 3) := by decide +kernel
theorem dX5_delays_4 : decode cX5_delays 4 = .ok (.ifCond .eq 15, 3) := by decide +kernel
theorem dX5_delays_7 : decode cX5_delays 7 = .ok (.iload_n 2, 1) := by decide +kernel
theorem dX5_delays_8 : decode cX5_delays 8 = .ok (.i2l, 1) := by decide +kernel
theorem dX5_delays_9 : decode cX5_delays 9 = .ok (.lconst 0, 1) := by decide +kernel
theorem dX5_delays_10 : decode cX5_delays 10 = .ok (.ldc2_w 133, 3) := by decide +kernel
theorem dX5_delays_13 : decode cX5_delays 13 = .ok (.invokestatic 66, 3) := by decide +kernel
theorem dX5_delays_16 : decode cX5_delays 16 = .ok (.ifCond .ne 8, 3) := by decide +kernel
theorem dX5_delays_19 : decode cX5_delays 19 = .ok (.bipush (-2), 2) := by decide +kernel
theorem dX5_delays_21 : decode cX5_delays 21 = .ok (.goto 9, 3) := by decide +kernel
theorem dX5_delays_24 : decode cX5_delays 24 = .ok (.aload_n 0, 1) := by decide +kernel
theorem dX5_delays_25 : decode cX5_delays 25 = .ok (.iload_n 1, 1) := by decide +kernel
theorem dX5_delays_26 : decode cX5_delays 26 = .ok (.iload_n 2, 1) := by decide +kernel
theorem dX5_delays_27 : decode cX5_delays 27 = .ok (.invokevirtual 135, 3) := by decide +kernel
theorem dX5_delays_30 : decode cX5_delays 30 = .ok (.ireturn, 1) := by decide +kernel
set_option maxRecDepth 20000 in
theorem ggX5_undone_X5_isMonth : GoodIn wsX5_undone wsX5_isMonth := goodIn_r _ [6, 7, 8, 9, 5, 10] (by decide +kernel) (by decide +kernel)
set_option maxRecDepth 20000 in
theorem gX5_undone_X5_isMonth : GoodIn wsX5_undone (va_wsS RX5 91 yX5_isMonth wsX5_isMonth) := goodIn_app (goodIn_of _ (by decide +kernel)) ggX5_undone_X5_isMonth
set_option maxRecDepth 20000 in
theorem ggX5_undone_X5_counts : GoodIn wsX5_undone wsX5_counts := goodIn_r _ [14, 15, 16, 21, 22, 23, 24, 25, 26, 27, 28, 29, 30, 31, 32, 33, 34, 35, 36, 37, 38, 39, 40, 41] (by decide +kernel) (by decide +kernel)
set_option maxRecDepth 20000 in
theorem gX5_undone_X5_counts : GoodIn wsX5_undone (wsV RX5 123 RX5 yX5_counts wsX5_counts) := goodIn_app (goodIn_of _ (by decide +kernel)) ggX5_undone_X5_counts
set_option maxRecDepth 20000 in
theorem ggX5_undone_X5_delaysOf : GoodIn wsX5_undone wsX5_delaysOf := goodIn_r _ [20, 1, 16, 2, 11, 12, 13, 5, 14, 15, 21, 22, 23, 24, 25, 26, 27, 28, 29, 30, 31, 32, 33, 34, 35, 36, 37, 38, 39, 40, 41] (by decide +kernel) (by decide +kernel)
set_option maxRecDepth 20000 in
theorem gX5_undone_X5_delaysOf : GoodIn wsX5_undone (wsV RX5 135 RX5 yX5_delaysOf wsX5_delaysOf) := goodIn_app (goodIn_of _ (by decide +kernel)) ggX5_undone_X5_delaysOf
theorem dX5_undone_0 : decode cX5_undone 0 = .ok (.iload_n 1, 1) := by decide +kernel
theorem dX5_undone_1 : decode cX5_undone 1 = .ok (.invokestatic 91, 3) := by decide +kernel
theorem dX5_undone_4 : decode cX5_undone 4 = .ok (.ifCond .eq 15, 3) := by decide +kernel
theorem dX5_undone_7 : decode cX5_undone 7 = .ok (.iload_n 2, 1) := by decide +kernel
theorem dX5_undone_8 : decode cX5_undone 8 = .ok (.invokestatic 91, 3) := by decide +kernel
theorem dX5_undone_11 : decode cX5_undone 11 = .ok (.ifCond .eq 8, 3) := by decide +kernel
theorem dX5_undone_14 : decode cX5_undone 14 = .ok (.iload_n 1, 1) := by decide +kernel
theorem dX5_undone_15 : decode cX5_undone 15 = .ok (.iload_n 2, 1) := by decide +kernel
theorem dX5_undone_16 : decode cX5_undone 16 = .ok (.if_icmp .le 6, 3) := by decide +kernel
theorem dX5_undone_19 : decode cX5_undone 19 = .ok (.bipush (-2), 2) := by decide +kernel
theorem dX5_undone_21 : decode cX5_undone 21 = .ok (.ireturn, 1) := by decide +kernel
theorem dX5_undone_22 : decode cX5_undone 22 = .ok (.iconst 0, 1) := by decide +kernel
theorem dX5_undone_23 : decode cX5_undone 23 = .ok (.istore_n 3, 1) := by decide +kernel
theorem dX5_undone_24 : decode cX5_undone 24 = .ok (.iconst 0, 1) := by decide +kernel
theorem dX5_undone_25 : decode cX5_undone 25 = .ok (.istore 4, 2) := by decide +kernel
theorem dX5_undone_27 : decode cX5_undone 27 = .ok (.iload 4, 2) := by decide +kernel
theorem dX5_undone_29 : decode cX5_undone 29 = .ok (.aload_n 0, 1) := by decide +kernel
theorem dX5_undone_30 : decode cX5_undone 30 = .ok (.getfield 102, 3) := by decide +kernel
theorem dX5_undone_33 : decode cX5_undone 33 = .ok (.if_icmp .ge 38, 3) := by decide +kernel
theorem dX5_undone_36 : decode cX5_undone 36 = .ok (.iload_n 3, 1) := by decide +kernel
theorem dX5_undone_37 : decode cX5_undone 37 = .ok (.aload_n 0, 1) := by decide +kernel
theorem dX5_undone_38 : decode cX5_undone 38 = .ok (.iload 4, 2) := by decide +kernel
theorem dX5_undone_40 : decode cX5_undone 40 = .ok (.iload_n 2, 1) := by decide +kernel
theorem dX5_undone_41 : decode cX5_undone 41 = .ok (.invokevirtual 123, 3) := by decide +kernel
theorem dX5_undone_44 : decode cX5_undone 44 = .ok (.ifCond .eq 18, 3) := by decide +kernel
theorem dX5_undone_47 : decode cX5_undone 47 = .ok (.aload_n 0, 1) := by decide +kernel
theorem dX5_undone_48 : decode cX5_undone 48 = .ok (.getfield 38, 3) := by decide +kernel
theorem dX5_undone_51 : decode cX5_undone 51 = .ok (.iload 4, 2) := by decide +kernel
theorem dX5_undone_53 : decode cX5_undone 53 = .ok (.iaload, 1) := by decide +kernel
theorem dX5_undone_54 : decode cX5_undone 54 = .ok (.iload_n 1, 1) := by decide +kernel
theorem dX5_undone_55 : decode cX5_undone 55 = .ok (.if_icmp .ne 7, 3) := by decide +kernel
theorem dX5_undone_58 : decode cX5_undone 58 = .ok (.iconst 1, 1) := by decide +kernel
theorem dX5_undone_59 : decode cX5_undone 59 = .ok (.goto 4, 3) := by decide +kernel
theorem dX5_undone_62 : decode cX5_undone 62 = .ok (.iconst 0, 1) := by decide +kernel
theorem dX5_undone_63 : decode cX5_undone 63 = .ok (.iadd, 1) := by decide +kernel
theorem dX5_undone_64 : decode cX5_undone 64 = .ok (.istore_n 3, 1) := by decide +kernel
theorem dX5_undone_65 : decode cX5_undone 65 = .ok (.iinc 4 1, 3) := by decide +kernel
theorem dX5_undone_68 : decode cX5_undone 68 = .ok (.goto (-41), 3) := by decide +kernel
theorem dX5_undone_71 : decode cX5_undone 71 = .ok (.iload_n 2, 1) := by decide +kernel
theorem dX5_undone_72 : decode cX5_undone 72 = .ok (.iload_n 1, 1) := by decide +kernel
theorem dX5_undone_73 : decode cX5_undone 73 = .ok (.isub, 1) := by decide +kernel
theorem dX5_undone_74 : decode cX5_undone 74 = .ok (.bipush 11, 2) := by decide +kernel
theorem dX5_undone_76 : decode cX5_undone 76 = .ok (.if_icmp .lt 5, 3) := by decide +kernel
theorem dX5_undone_79 : decode cX5_undone 79 = .ok (.iload_n 3, 1) := by decide +kernel
theorem dX5_undone_80 : decode cX5_undone 80 = .ok (.ireturn, 1) := by decide +kernel
theorem dX5_undone_81 : decode cX5_undone 81 = .ok (.iconst 0, 1) := by decide +kernel
theorem dX5_undone_82 : decode cX5_undone 82 = .ok (.istore 4, 2) := by decide +kernel
theorem dX5_undone_84 : decode cX5_undone 84 = .ok (.iconst 0, 1) := by decide +kernel
theorem dX5_undone_85 : decode cX5_undone 85 = .ok (.istore 5, 2) := by decide +kernel
theorem dX5_undone_87 : decode cX5_undone 87 = .ok (.iconst 0, 1) := by decide +kernel
theorem dX5_undone_88 : decode cX5_undone 88 = .ok (.istore 6, 2) := by decide +kernel
theorem dX5_undone_90 : decode cX5_undone 90 = .ok (.iload 6, 2) := by decide +kernel
theorem dX5_undone_92 : decode cX5_undone 92 = .ok (.bipush 12, 2) := by decide +kernel
theorem dX5_undone_94 : decode cX5_undone 94 = .ok (.if_icmp .ge 45, 3) := by decide +kernel
theorem dX5_undone_97 : decode cX5_undone 97 = .ok (.iload 4, 2) := by decide +kernel
theorem dX5_undone_99 : decode cX5_undone 99 = .ok (.aload_n 0, 1) := by decide +kernel
theorem dX5_undone_100 : decode cX5_undone 100 = .ok (.iload_n 2, 1) := by decide +kernel
theorem dX5_undone_101 : decode cX5_undone 101 = .ok (.iload 6, 2) := by decide +kernel
theorem dX5_undone_103 : decode cX5_undone 103 = .ok (.invokevirtual 135, 3) := by decide +kernel
theorem dX5_undone_106 : decode cX5_undone 106 = .ok (.iadd, 1) := by decide +kernel
theorem dX5_undone_107 : decode cX5_undone 107 = .ok (.istore 4, 2) := by decide +kernel
theorem dX5_undone_109 : decode cX5_undone 109 = .ok (.iload 5, 2) := by decide +kernel
theorem dX5_undone_111 : decode cX5_undone 111 = .ok (.iload 6, 2) := by decide +kernel
theorem dX5_undone_113 : decode cX5_undone 113 = .ok (.iload_n 2, 1) := by decide +kernel
theorem dX5_undone_114 : decode cX5_undone 114 = .ok (.iload_n 1, 1) := by decide +kernel
theorem dX5_undone_115 : decode cX5_undone 115 = .ok (.isub, 1) := by decide +kernel
theorem dX5_undone_116 : decode cX5_undone 116 = .ok (.if_icmp .gt 13, 3) := by decide +kernel
theorem dX5_undone_119 : decode cX5_undone 119 = .ok (.aload_n 0, 1) := by decide +kernel
theorem dX5_undone_120 : decode cX5_undone 120 = .ok (.iload_n 2, 1) := by decide +kernel
theorem dX5_undone_121 : decode cX5_undone 121 = .ok (.iload 6, 2) := by decide +kernel
theorem dX5_undone_123 : decode cX5_undone 123 = .ok (.invokevirtual 135, 3) := by decide +kernel
theorem dX5_undone_126 : decode cX5_undone 126 = .ok (.goto 4, 3) := by decide +kernel
theorem dX5_undone_129 : decode cX5_undone 129 = .ok (.iconst 0, 1) := by decide +kernel
theorem dX5_undone_130 : decode cX5_undone 130 = .ok (.iadd, 1) := by decide +kernel
theorem dX5_undone_131 : decode cX5_undone 131 = .ok (.istore 5, 2) := by decide +kernel
theorem dX5_undone_133 : decode cX5_undone 133 = .ok (.iinc 6 1, 3) := by decide +kernel
theorem dX5_undone_136 : decode cX5_undone 136 = .ok (.goto (-46), 3) := by decide +kernel
theorem dX5_undone_139 : decode cX5_undone 139 = .ok (.iload 5, 2) := by decide +kernel
theorem dX5_undone_141 : decode cX5_undone 141 = .ok (.ifCond .ne 7, 3) := by decide +kernel
theorem dX5_undone_144 : decode cX5_undone 144 = .ok (.iconst (-1), 1) := by decide +kernel
theorem dX5_undone_145 : decode cX5_undone 145 = .ok (.goto 10, 3) := by decide +kernel
theorem dX5_undone_148 : decode cX5_undone 148 = .ok (.iload_n 3, 1) := by decide +kernel
theorem dX5_undone_149 : decode cX5_undone 149 = .ok (.iload 4, 2) := by decide +kernel
theorem dX5_undone_151 : decode cX5_undone 151 = .ok (.imul, 1) := by decide +kernel
theorem dX5_undone_152 : decode cX5_undone 152 = .ok (.iload 5, 2) := by decide +kernel
theorem dX5_undone_154 : decode cX5_undone 154 = .ok (.idiv, 1) := by decide +kernel
theorem dX5_undone_155 : decode cX5_undone 155 = .ok (.ireturn, 1) := by decide +kernel
set_option maxRecDepth 20000 in
theorem ggX5_hasClaim_X5_counts : GoodIn wsX5_hasClaim wsX5_counts := goodIn_r _ [8, 9, 10, 11, 12, 13, 14, 15, 16, 17, 18, 19, 20, 21, 22, 23, 24, 25, 26, 27, 28, 29, 30, 31] (by decide +kernel) (by decide +kernel)
set_option maxRecDepth 20000 in
theorem gX5_hasClaim_X5_counts : GoodIn wsX5_hasClaim (wsV RX5 123 RX5 yX5_counts wsX5_counts) := goodIn_app (goodIn_of _ (by decide +kernel)) ggX5_hasClaim_X5_counts
theorem dX5_hasClaim_0 : decode cX5_hasClaim 0 = .ok (.iconst 0, 1) := by decide +kernel
theorem dX5_hasClaim_1 : decode cX5_hasClaim 1 = .ok (.istore 4, 2) := by decide +kernel
theorem dX5_hasClaim_3 : decode cX5_hasClaim 3 = .ok (.iconst 0, 1) := by decide +kernel
theorem dX5_hasClaim_4 : decode cX5_hasClaim 4 = .ok (.istore 5, 2) := by decide +kernel
theorem dX5_hasClaim_6 : decode cX5_hasClaim 6 = .ok (.iload 5, 2) := by decide +kernel
theorem dX5_hasClaim_8 : decode cX5_hasClaim 8 = .ok (.aload_n 0, 1) := by decide +kernel
theorem dX5_hasClaim_9 : decode cX5_hasClaim 9 = .ok (.getfield 102, 3) := by decide +kernel
theorem dX5_hasClaim_12 : decode cX5_hasClaim 12 = .ok (.if_icmp .ge 53, 3) := by decide +kernel
theorem dX5_hasClaim_15 : decode cX5_hasClaim 15 = .ok (.iload 4, 2) := by decide +kernel
theorem dX5_hasClaim_17 : decode cX5_hasClaim 17 = .ok (.ifCond .ne 35, 3) := by decide +kernel
theorem dX5_hasClaim_20 : decode cX5_hasClaim 20 = .ok (.aload_n 0, 1) := by decide +kernel
theorem dX5_hasClaim_21 : decode cX5_hasClaim 21 = .ok (.iload 5, 2) := by decide +kernel
theorem dX5_hasClaim_23 : decode cX5_hasClaim 23 = .ok (.iload_n 3, 1) := by decide +kernel
theorem dX5_hasClaim_24 : decode cX5_hasClaim 24 = .ok (.invokevirtual 123, 3) := by decide +kernel
theorem dX5_hasClaim_27 : decode cX5_hasClaim 27 = .ok (.ifCond .eq 29, 3) := by decide +kernel
theorem dX5_hasClaim_30 : decode cX5_hasClaim 30 = .ok (.aload_n 0, 1) := by decide +kernel
theorem dX5_hasClaim_31 : decode cX5_hasClaim 31 = .ok (.getfield 32, 3) := by decide +kernel
theorem dX5_hasClaim_34 : decode cX5_hasClaim 34 = .ok (.iload 5, 2) := by decide +kernel
theorem dX5_hasClaim_36 : decode cX5_hasClaim 36 = .ok (.iaload, 1) := by decide +kernel
theorem dX5_hasClaim_37 : decode cX5_hasClaim 37 = .ok (.iload_n 1, 1) := by decide +kernel
theorem dX5_hasClaim_38 : decode cX5_hasClaim 38 = .ok (.if_icmp .ne 18, 3) := by decide +kernel
theorem dX5_hasClaim_41 : decode cX5_hasClaim 41 = .ok (.aload_n 0, 1) := by decide +kernel
theorem dX5_hasClaim_42 : decode cX5_hasClaim 42 = .ok (.getfield 35, 3) := by decide +kernel
theorem dX5_hasClaim_45 : decode cX5_hasClaim 45 = .ok (.iload 5, 2) := by decide +kernel
theorem dX5_hasClaim_47 : decode cX5_hasClaim 47 = .ok (.iaload, 1) := by decide +kernel
theorem dX5_hasClaim_48 : decode cX5_hasClaim 48 = .ok (.iload_n 2, 1) := by decide +kernel
theorem dX5_hasClaim_49 : decode cX5_hasClaim 49 = .ok (.if_icmp .ne 7, 3) := by decide +kernel
theorem dX5_hasClaim_52 : decode cX5_hasClaim 52 = .ok (.iconst 1, 1) := by decide +kernel
theorem dX5_hasClaim_53 : decode cX5_hasClaim 53 = .ok (.goto 4, 3) := by decide +kernel
theorem dX5_hasClaim_56 : decode cX5_hasClaim 56 = .ok (.iconst 0, 1) := by decide +kernel
theorem dX5_hasClaim_57 : decode cX5_hasClaim 57 = .ok (.istore 4, 2) := by decide +kernel
theorem dX5_hasClaim_59 : decode cX5_hasClaim 59 = .ok (.iinc 5 1, 3) := by decide +kernel
theorem dX5_hasClaim_62 : decode cX5_hasClaim 62 = .ok (.goto (-56), 3) := by decide +kernel
theorem dX5_hasClaim_65 : decode cX5_hasClaim 65 = .ok (.iload 4, 2) := by decide +kernel
theorem dX5_hasClaim_67 : decode cX5_hasClaim 67 = .ok (.ireturn, 1) := by decide +kernel
set_option maxRecDepth 20000 in
theorem ggX5_choose_X5_in : GoodIn wsX5_choose wsX5_in := goodIn_r _ [5] (by decide +kernel) (by decide +kernel)
set_option maxRecDepth 20000 in
theorem gX5_choose_X5_in : GoodIn wsX5_choose (va_wsS RX5 66 yX5_in wsX5_in) := goodIn_app (goodIn_of _ (by decide +kernel)) ggX5_choose_X5_in
theorem dX5_choose_0 : decode cX5_choose 0 = .ok (.iload_n 2, 1) := by decide +kernel
theorem dX5_choose_1 : decode cX5_choose 1 = .ok (.i2l, 1) := by decide +kernel
theorem dX5_choose_2 : decode cX5_choose 2 = .ok (.lconst 0, 1) := by decide +kernel
theorem dX5_choose_3 : decode cX5_choose 3 = .ok (.iload_n 1, 1) := by decide +kernel
theorem dX5_choose_4 : decode cX5_choose 4 = .ok (.i2l, 1) := by decide +kernel
theorem dX5_choose_5 : decode cX5_choose 5 = .ok (.invokestatic 66, 3) := by decide +kernel
theorem dX5_choose_8 : decode cX5_choose 8 = .ok (.ifCond .eq 17, 3) := by decide +kernel
theorem dX5_choose_11 : decode cX5_choose 11 = .ok (.aload_n 0, 1) := by decide +kernel
theorem dX5_choose_12 : decode cX5_choose 12 = .ok (.getfield 50, 3) := by decide +kernel
theorem dX5_choose_15 : decode cX5_choose 15 = .ok (.bipush 61, 2) := by decide +kernel
theorem dX5_choose_17 : decode cX5_choose 17 = .ok (.iload_n 1, 1) := by decide +kernel
theorem dX5_choose_18 : decode cX5_choose 18 = .ok (.imul, 1) := by decide +kernel
theorem dX5_choose_19 : decode cX5_choose 19 = .ok (.iload_n 2, 1) := by decide +kernel
theorem dX5_choose_20 : decode cX5_choose 20 = .ok (.iadd, 1) := by decide +kernel
theorem dX5_choose_21 : decode cX5_choose 21 = .ok (.laload, 1) := by decide +kernel
theorem dX5_choose_22 : decode cX5_choose 22 = .ok (.goto 4, 3) := by decide +kernel
theorem dX5_choose_25 : decode cX5_choose 25 = .ok (.lconst 0, 1) := by decide +kernel
theorem dX5_choose_26 : decode cX5_choose 26 = .ok (.lreturn, 1) := by decide +kernel
set_option maxRecDepth 20000 in
theorem ggX5_findChance_X5_hasClaim : GoodIn wsX5_findChance wsX5_hasClaim := goodIn_r _ [9, 10, 11, 12, 13, 14, 15, 8, 16, 17, 18, 30, 31, 32, 33, 34, 35, 36, 37, 38, 39, 40, 41, 42, 43, 44, 45, 46, 47, 48, 49, 50] (by decide +kernel) (by decide +kernel)
set_option maxRecDepth 20000 in
theorem gX5_findChance_X5_hasClaim : GoodIn wsX5_findChance (wsV RX5 138 RX5 yX5_hasClaim wsX5_hasClaim) := goodIn_app (goodIn_of _ (by decide +kernel)) ggX5_findChance_X5_hasClaim
set_option maxRecDepth 20000 in
theorem ggX5_findChance_X5_choose : GoodIn wsX5_findChance wsX5_choose := goodIn_r _ [22, 23, 24, 25, 8, 26, 30, 31, 32, 33, 34, 35, 36, 37, 38, 39, 40, 41, 42, 43, 44, 45, 46, 47, 48, 49, 50] (by decide +kernel) (by decide +kernel)
set_option maxRecDepth 20000 in
theorem gX5_findChance_X5_choose : GoodIn wsX5_findChance (wsV RX5 146 RX5 yX5_choose wsX5_choose) := goodIn_app (goodIn_of _ (by decide +kernel)) ggX5_findChance_X5_choose
set_option maxRecDepth 20000 in
theorem ggX5_findChance_X5_gcd : GoodIn wsX5_findChance wsX5_gcd := goodIn_r _ [29] (by decide +kernel) (by decide +kernel)
set_option maxRecDepth 20000 in
theorem gX5_findChance_X5_gcd : GoodIn wsX5_findChance (va_wsS RX5 129 yX5_gcd wsX5_gcd) := goodIn_app (goodIn_of _ (by decide +kernel)) ggX5_findChance_X5_gcd
theorem dX5_findChance_0 : decode cX5_findChance 0 = .ok (.iconst 0, 1) := by decide +kernel
theorem dX5_findChance_1 : decode cX5_findChance 1 = .ok (.istore 4, 2) := by decide +kernel
theorem dX5_findChance_3 : decode cX5_findChance 3 = .ok (.iconst 0, 1) := by decide +kernel
theorem dX5_findChance_4 : decode cX5_findChance 4 = .ok (.istore 5, 2) := by decide +kernel
theorem dX5_findChance_6 : decode cX5_findChance 6 = .ok (.iconst 0, 1) := by decide +kernel
theorem dX5_findChance_7 : decode cX5_findChance 7 = .ok (.istore 6, 2) := by decide +kernel
theorem dX5_findChance_9 : decode cX5_findChance 9 = .ok (.iconst 0, 1) := by decide +kernel
theorem dX5_findChance_10 : decode cX5_findChance 10 = .ok (.istore 7, 2) := by decide +kernel
theorem dX5_findChance_12 : decode cX5_findChance 12 = .ok (.iload 7, 2) := by decide +kernel
theorem dX5_findChance_14 : decode cX5_findChance 14 = .ok (.aload_n 0, 1) := by decide +kernel
theorem dX5_findChance_15 : decode cX5_findChance 15 = .ok (.getfield 70, 3) := by decide +kernel
theorem dX5_findChance_18 : decode cX5_findChance 18 = .ok (.if_icmp .ge 87, 3) := by decide +kernel
theorem dX5_findChance_21 : decode cX5_findChance 21 = .ok (.aload_n 0, 1) := by decide +kernel
theorem dX5_findChance_22 : decode cX5_findChance 22 = .ok (.getfield 16, 3) := by decide +kernel
theorem dX5_findChance_25 : decode cX5_findChance 25 = .ok (.iload 7, 2) := by decide +kernel
theorem dX5_findChance_27 : decode cX5_findChance 27 = .ok (.iaload, 1) := by decide +kernel
theorem dX5_findChance_28 : decode cX5_findChance 28 = .ok (.iload_n 1, 1) := by decide +kernel
theorem dX5_findChance_29 : decode cX5_findChance 29 = .ok (.if_icmp .ne 7, 3) := by decide +kernel
theorem dX5_findChance_32 : decode cX5_findChance 32 = .ok (.iconst 1, 1) := by decide +kernel
theorem dX5_findChance_33 : decode cX5_findChance 33 = .ok (.goto 4, 3) := by decide +kernel
theorem dX5_findChance_36 : decode cX5_findChance 36 = .ok (.iconst 0, 1) := by decide +kernel
theorem dX5_findChance_37 : decode cX5_findChance 37 = .ok (.istore 8, 2) := by decide +kernel
theorem dX5_findChance_39 : decode cX5_findChance 39 = .ok (.aload_n 0, 1) := by decide +kernel
theorem dX5_findChance_40 : decode cX5_findChance 40 = .ok (.iload 7, 2) := by decide +kernel
theorem dX5_findChance_42 : decode cX5_findChance 42 = .ok (.iload_n 2, 1) := by decide +kernel
theorem dX5_findChance_43 : decode cX5_findChance 43 = .ok (.iload_n 3, 1) := by decide +kernel
theorem dX5_findChance_44 : decode cX5_findChance 44 = .ok (.invokevirtual 138, 3) := by decide +kernel
theorem dX5_findChance_47 : decode cX5_findChance 47 = .ok (.istore 9, 2) := by decide +kernel
theorem dX5_findChance_49 : decode cX5_findChance 49 = .ok (.iload 4, 2) := by decide +kernel
theorem dX5_findChance_51 : decode cX5_findChance 51 = .ok (.iload 8, 2) := by decide +kernel
theorem dX5_findChance_53 : decode cX5_findChance 53 = .ok (.ifCond .eq 7, 3) := by decide +kernel
theorem dX5_findChance_56 : decode cX5_findChance 56 = .ok (.iconst 1, 1) := by decide +kernel
theorem dX5_findChance_57 : decode cX5_findChance 57 = .ok (.goto 4, 3) := by decide +kernel
theorem dX5_findChance_60 : decode cX5_findChance 60 = .ok (.iconst 0, 1) := by decide +kernel
theorem dX5_findChance_61 : decode cX5_findChance 61 = .ok (.iadd, 1) := by decide +kernel
theorem dX5_findChance_62 : decode cX5_findChance 62 = .ok (.istore 4, 2) := by decide +kernel
theorem dX5_findChance_64 : decode cX5_findChance 64 = .ok (.iload 5, 2) := by decide +kernel
theorem dX5_findChance_66 : decode cX5_findChance 66 = .ok (.iload 8, 2) := by decide +kernel
theorem dX5_findChance_68 : decode cX5_findChance 68 = .ok (.ifCond .eq 12, 3) := by decide +kernel
theorem dX5_findChance_71 : decode cX5_findChance 71 = .ok (.iload 9, 2) := by decide +kernel
theorem dX5_findChance_73 : decode cX5_findChance 73 = .ok (.ifCond .eq 7, 3) := by decide +kernel
theorem dX5_findChance_76 : decode cX5_findChance 76 = .ok (.iconst 1, 1) := by decide +kernel
theorem dX5_findChance_77 : decode cX5_findChance 77 = .ok (.goto 4, 3) := by decide +kernel
theorem dX5_findChance_80 : decode cX5_findChance 80 = .ok (.iconst 0, 1) := by decide +kernel
theorem dX5_findChance_81 : decode cX5_findChance 81 = .ok (.iadd, 1) := by decide +kernel
theorem dX5_findChance_82 : decode cX5_findChance 82 = .ok (.istore 5, 2) := by decide +kernel
theorem dX5_findChance_84 : decode cX5_findChance 84 = .ok (.iload 6, 2) := by decide +kernel
theorem dX5_findChance_86 : decode cX5_findChance 86 = .ok (.iload 9, 2) := by decide +kernel
theorem dX5_findChance_88 : decode cX5_findChance 88 = .ok (.ifCond .eq 7, 3) := by decide +kernel
theorem dX5_findChance_91 : decode cX5_findChance 91 = .ok (.iconst 1, 1) := by decide +kernel
theorem dX5_findChance_92 : decode cX5_findChance 92 = .ok (.goto 4, 3) := by decide +kernel
theorem dX5_findChance_95 : decode cX5_findChance 95 = .ok (.iconst 0, 1) := by decide +kernel
theorem dX5_findChance_96 : decode cX5_findChance 96 = .ok (.iadd, 1) := by decide +kernel
theorem dX5_findChance_97 : decode cX5_findChance 97 = .ok (.istore 6, 2) := by decide +kernel
theorem dX5_findChance_99 : decode cX5_findChance 99 = .ok (.iinc 7 1, 3) := by decide +kernel
theorem dX5_findChance_102 : decode cX5_findChance 102 = .ok (.goto (-90), 3) := by decide +kernel
theorem dX5_findChance_105 : decode cX5_findChance 105 = .ok (.aload_n 0, 1) := by decide +kernel
theorem dX5_findChance_106 : decode cX5_findChance 106 = .ok (.lconst 0, 1) := by decide +kernel
theorem dX5_findChance_107 : decode cX5_findChance 107 = .ok (.putfield 142, 3) := by decide +kernel
theorem dX5_findChance_110 : decode cX5_findChance 110 = .ok (.iload 5, 2) := by decide +kernel
theorem dX5_findChance_112 : decode cX5_findChance 112 = .ok (.istore 7, 2) := by decide +kernel
theorem dX5_findChance_114 : decode cX5_findChance 114 = .ok (.iload 7, 2) := by decide +kernel
theorem dX5_findChance_116 : decode cX5_findChance 116 = .ok (.iload 4, 2) := by decide +kernel
theorem dX5_findChance_118 : decode cX5_findChance 118 = .ok (.if_icmp .gt 43, 3) := by decide +kernel
theorem dX5_findChance_121 : decode cX5_findChance 121 = .ok (.aload_n 0, 1) := by decide +kernel
theorem dX5_findChance_122 : decode cX5_findChance 122 = .ok (.dup, 1) := by decide +kernel
theorem dX5_findChance_123 : decode cX5_findChance 123 = .ok (.getfield 142, 3) := by decide +kernel
theorem dX5_findChance_126 : decode cX5_findChance 126 = .ok (.aload_n 0, 1) := by decide +kernel
theorem dX5_findChance_127 : decode cX5_findChance 127 = .ok (.iload 6, 2) := by decide +kernel
theorem dX5_findChance_129 : decode cX5_findChance 129 = .ok (.iload 7, 2) := by decide +kernel
theorem dX5_findChance_131 : decode cX5_findChance 131 = .ok (.invokevirtual 146, 3) := by decide +kernel
theorem dX5_findChance_134 : decode cX5_findChance 134 = .ok (.aload_n 0, 1) := by decide +kernel
theorem dX5_findChance_135 : decode cX5_findChance 135 = .ok (.aload_n 0, 1) := by decide +kernel
theorem dX5_findChance_136 : decode cX5_findChance 136 = .ok (.getfield 70, 3) := by decide +kernel
theorem dX5_findChance_139 : decode cX5_findChance 139 = .ok (.iload 6, 2) := by decide +kernel
theorem dX5_findChance_141 : decode cX5_findChance 141 = .ok (.isub, 1) := by decide +kernel
theorem dX5_findChance_142 : decode cX5_findChance 142 = .ok (.iload 4, 2) := by decide +kernel
theorem dX5_findChance_144 : decode cX5_findChance 144 = .ok (.iload 7, 2) := by decide +kernel
theorem dX5_findChance_146 : decode cX5_findChance 146 = .ok (.isub, 1) := by decide +kernel
theorem dX5_findChance_147 : decode cX5_findChance 147 = .ok (.invokevirtual 146, 3) := by decide +kernel
theorem dX5_findChance_150 : decode cX5_findChance 150 = .ok (.lmul, 1) := by decide +kernel
theorem dX5_findChance_151 : decode cX5_findChance 151 = .ok (.ladd, 1) := by decide +kernel
theorem dX5_findChance_152 : decode cX5_findChance 152 = .ok (.putfield 142, 3) := by decide +kernel
theorem dX5_findChance_155 : decode cX5_findChance 155 = .ok (.iinc 7 1, 3) := by decide +kernel
theorem dX5_findChance_158 : decode cX5_findChance 158 = .ok (.goto (-44), 3) := by decide +kernel
theorem dX5_findChance_161 : decode cX5_findChance 161 = .ok (.aload_n 0, 1) := by decide +kernel
theorem dX5_findChance_162 : decode cX5_findChance 162 = .ok (.aload_n 0, 1) := by decide +kernel
theorem dX5_findChance_163 : decode cX5_findChance 163 = .ok (.aload_n 0, 1) := by decide +kernel
theorem dX5_findChance_164 : decode cX5_findChance 164 = .ok (.getfield 70, 3) := by decide +kernel
theorem dX5_findChance_167 : decode cX5_findChance 167 = .ok (.iload 4, 2) := by decide +kernel
theorem dX5_findChance_169 : decode cX5_findChance 169 = .ok (.invokevirtual 146, 3) := by decide +kernel
theorem dX5_findChance_172 : decode cX5_findChance 172 = .ok (.putfield 150, 3) := by decide +kernel
theorem dX5_findChance_175 : decode cX5_findChance 175 = .ok (.aload_n 0, 1) := by decide +kernel
theorem dX5_findChance_176 : decode cX5_findChance 176 = .ok (.getfield 142, 3) := by decide +kernel
theorem dX5_findChance_179 : decode cX5_findChance 179 = .ok (.aload_n 0, 1) := by decide +kernel
theorem dX5_findChance_180 : decode cX5_findChance 180 = .ok (.getfield 150, 3) := by decide +kernel
theorem dX5_findChance_183 : decode cX5_findChance 183 = .ok (.invokestatic 129, 3) := by decide +kernel
theorem dX5_findChance_186 : decode cX5_findChance 186 = .ok (.lstore 7, 2) := by decide +kernel
theorem dX5_findChance_188 : decode cX5_findChance 188 = .ok (.aload_n 0, 1) := by decide +kernel
theorem dX5_findChance_189 : decode cX5_findChance 189 = .ok (.dup, 1) := by decide +kernel
theorem dX5_findChance_190 : decode cX5_findChance 190 = .ok (.getfield 142, 3) := by decide +kernel
theorem dX5_findChance_193 : decode cX5_findChance 193 = .ok (.lload 7, 2) := by decide +kernel
theorem dX5_findChance_195 : decode cX5_findChance 195 = .ok (.ldiv, 1) := by decide +kernel
theorem dX5_findChance_196 : decode cX5_findChance 196 = .ok (.putfield 142, 3) := by decide +kernel
theorem dX5_findChance_199 : decode cX5_findChance 199 = .ok (.aload_n 0, 1) := by decide +kernel
theorem dX5_findChance_200 : decode cX5_findChance 200 = .ok (.dup, 1) := by decide +kernel
theorem dX5_findChance_201 : decode cX5_findChance 201 = .ok (.getfield 150, 3) := by decide +kernel
theorem dX5_findChance_204 : decode cX5_findChance 204 = .ok (.lload 7, 2) := by decide +kernel
theorem dX5_findChance_206 : decode cX5_findChance 206 = .ok (.ldiv, 1) := by decide +kernel
theorem dX5_findChance_207 : decode cX5_findChance 207 = .ok (.putfield 150, 3) := by decide +kernel
theorem dX5_findChance_210 : decode cX5_findChance 210 = .ok (.iload 4, 2) := by decide +kernel
theorem dX5_findChance_212 : decode cX5_findChance 212 = .ok (.ifCond .le 7, 3) := by decide +kernel
theorem dX5_findChance_215 : decode cX5_findChance 215 = .ok (.iconst 1, 1) := by decide +kernel
theorem dX5_findChance_216 : decode cX5_findChance 216 = .ok (.goto 4, 3) := by decide +kernel
theorem dX5_findChance_219 : decode cX5_findChance 219 = .ok (.iconst 0, 1) := by decide +kernel
theorem dX5_findChance_220 : decode cX5_findChance 220 = .ok (.ireturn, 1) := by decide +kernel
set_option maxRecDepth 20000 in
theorem ggX5_chance_X5_in : GoodIn wsX5_chance wsX5_in := goodIn_r _ [10] (by decide +kernel) (by decide +kernel)
set_option maxRecDepth 20000 in
theorem gX5_chance_X5_in : GoodIn wsX5_chance (va_wsS RX5 66 yX5_in wsX5_in) := goodIn_app (goodIn_of _ (by decide +kernel)) ggX5_chance_X5_in
set_option maxRecDepth 20000 in
theorem ggX5_chance_X5_isMonth : GoodIn wsX5_chance wsX5_isMonth := goodIn_r _ [13, 14, 7, 8, 9, 10] (by decide +kernel) (by decide +kernel)
set_option maxRecDepth 20000 in
theorem gX5_chance_X5_isMonth : GoodIn wsX5_chance (va_wsS RX5 91 yX5_isMonth wsX5_isMonth) := goodIn_app (goodIn_of _ (by decide +kernel)) ggX5_chance_X5_isMonth
set_option maxRecDepth 20000 in
theorem ggX5_chance_X5_findChance : GoodIn wsX5_chance wsX5_findChance := goodIn_r _ [18, 19, 20, 5, 6, 21, 22, 23, 9, 24, 25, 26, 27, 28, 29, 30, 31, 32, 33, 34, 35, 36, 37, 38, 7, 8, 10, 39, 40, 41, 42, 43, 44, 45, 46, 47, 48, 49, 50, 51, 52, 53, 54, 55, 56, 57, 58, 59, 60, 61, 62] (by decide +kernel) (by decide +kernel)
set_option maxRecDepth 20000 in
theorem gX5_chance_X5_findChance : GoodIn wsX5_chance (wsV RX5 155 RX5 yX5_findChance wsX5_findChance) := goodIn_app (goodIn_of _ (by decide +kernel)) ggX5_chance_X5_findChance
theorem dX5_chance_0 : decode cX5_chance 0 = .ok (.iload_n 1, 1) := by decide +kernel
theorem dX5_chance_1 : decode cX5_chance 1 = .ok (.i2l, 1) := by decide +kernel
theorem dX5_chance_2 : decode cX5_chance 2 = .ok (.lconst 0, 1) := by decide +kernel
theorem dX5_chance_3 : decode cX5_chance 3 = .ok (.ldc2_w 73, 3) := by decide +kernel
theorem dX5_chance_6 : decode cX5_chance 6 = .ok (.invokestatic 66, 3) := by decide +kernel
theorem dX5_chance_9 : decode cX5_chance 9 = .ok (.ifCond .eq 33, 3) := by decide +kernel
theorem dX5_chance_12 : decode cX5_chance 12 = .ok (.iload_n 2, 1) := by decide +kernel
theorem dX5_chance_13 : decode cX5_chance 13 = .ok (.i2l, 1) := by decide +kernel
theorem dX5_chance_14 : decode cX5_chance 14 = .ok (.lconst 0, 1) := by decide +kernel
theorem dX5_chance_15 : decode cX5_chance 15 = .ok (.ldc2_w 109, 3) := by decide +kernel
theorem dX5_chance_18 : decode cX5_chance 18 = .ok (.invokestatic 66, 3) := by decide +kernel
theorem dX5_chance_21 : decode cX5_chance 21 = .ok (.ifCond .eq 21, 3) := by decide +kernel
theorem dX5_chance_24 : decode cX5_chance 24 = .ok (.iload_n 3, 1) := by decide +kernel
theorem dX5_chance_25 : decode cX5_chance 25 = .ok (.invokestatic 91, 3) := by decide +kernel
theorem dX5_chance_28 : decode cX5_chance 28 = .ok (.ifCond .eq 14, 3) := by decide +kernel
theorem dX5_chance_31 : decode cX5_chance 31 = .ok (.iload 4, 2) := by decide +kernel
theorem dX5_chance_33 : decode cX5_chance 33 = .ok (.i2l, 1) := by decide +kernel
theorem dX5_chance_34 : decode cX5_chance 34 = .ok (.lconst 0, 1) := by decide +kernel
theorem dX5_chance_35 : decode cX5_chance 35 = .ok (.lconst 1, 1) := by decide +kernel
theorem dX5_chance_36 : decode cX5_chance 36 = .ok (.invokestatic 66, 3) := by decide +kernel
theorem dX5_chance_39 : decode cX5_chance 39 = .ok (.ifCond .ne 7, 3) := by decide +kernel
theorem dX5_chance_42 : decode cX5_chance 42 = .ok (.ldc2_w 153, 3) := by decide +kernel
theorem dX5_chance_45 : decode cX5_chance 45 = .ok (.lreturn, 1) := by decide +kernel
theorem dX5_chance_46 : decode cX5_chance 46 = .ok (.aload_n 0, 1) := by decide +kernel
theorem dX5_chance_47 : decode cX5_chance 47 = .ok (.iload_n 1, 1) := by decide +kernel
theorem dX5_chance_48 : decode cX5_chance 48 = .ok (.iload_n 2, 1) := by decide +kernel
theorem dX5_chance_49 : decode cX5_chance 49 = .ok (.iload_n 3, 1) := by decide +kernel
theorem dX5_chance_50 : decode cX5_chance 50 = .ok (.invokevirtual 155, 3) := by decide +kernel
theorem dX5_chance_53 : decode cX5_chance 53 = .ok (.istore 5, 2) := by decide +kernel
theorem dX5_chance_55 : decode cX5_chance 55 = .ok (.iload 5, 2) := by decide +kernel
theorem dX5_chance_57 : decode cX5_chance 57 = .ok (.ifCond .ne 9, 3) := by decide +kernel
theorem dX5_chance_60 : decode cX5_chance 60 = .ok (.ldc2_w 158, 3) := by decide +kernel
theorem dX5_chance_63 : decode cX5_chance 63 = .ok (.goto 19, 3) := by decide +kernel
theorem dX5_chance_66 : decode cX5_chance 66 = .ok (.iload 4, 2) := by decide +kernel
theorem dX5_chance_68 : decode cX5_chance 68 = .ok (.ifCond .ne 10, 3) := by decide +kernel
theorem dX5_chance_71 : decode cX5_chance 71 = .ok (.aload_n 0, 1) := by decide +kernel
theorem dX5_chance_72 : decode cX5_chance 72 = .ok (.getfield 142, 3) := by decide +kernel
theorem dX5_chance_75 : decode cX5_chance 75 = .ok (.goto 7, 3) := by decide +kernel
theorem dX5_chance_78 : decode cX5_chance 78 = .ok (.aload_n 0, 1) := by decide +kernel
theorem dX5_chance_79 : decode cX5_chance 79 = .ok (.getfield 150, 3) := by decide +kernel
theorem dX5_chance_82 : decode cX5_chance 82 = .ok (.lreturn, 1) := by decide +kernel
theorem dX5_isLess_0 : decode cX5_isLess 0 = .ok (.lload_n 0, 1) := by decide +kernel
theorem dX5_isLess_1 : decode cX5_isLess 1 = .ok (.lstore 8, 2) := by decide +kernel
theorem dX5_isLess_3 : decode cX5_isLess 3 = .ok (.lload_n 2, 1) := by decide +kernel
theorem dX5_isLess_4 : decode cX5_isLess 4 = .ok (.lstore 10, 2) := by decide +kernel
theorem dX5_isLess_6 : decode cX5_isLess 6 = .ok (.lload 4, 2) := by decide +kernel
theorem dX5_isLess_8 : decode cX5_isLess 8 = .ok (.lstore 12, 2) := by decide +kernel
theorem dX5_isLess_10 : decode cX5_isLess 10 = .ok (.lload 6, 2) := by decide +kernel
theorem dX5_isLess_12 : decode cX5_isLess 12 = .ok (.lstore 14, 2) := by decide +kernel
theorem dX5_isLess_14 : decode cX5_isLess 14 = .ok (.lload 8, 2) := by decide +kernel
theorem dX5_isLess_16 : decode cX5_isLess 16 = .ok (.lload 10, 2) := by decide +kernel
theorem dX5_isLess_18 : decode cX5_isLess 18 = .ok (.ldiv, 1) := by decide +kernel
theorem dX5_isLess_19 : decode cX5_isLess 19 = .ok (.lload 12, 2) := by decide +kernel
theorem dX5_isLess_21 : decode cX5_isLess 21 = .ok (.lload 14, 2) := by decide +kernel
theorem dX5_isLess_23 : decode cX5_isLess 23 = .ok (.ldiv, 1) := by decide +kernel
theorem dX5_isLess_24 : decode cX5_isLess 24 = .ok (.lcmp, 1) := by decide +kernel
theorem dX5_isLess_25 : decode cX5_isLess 25 = .ok (.ifCond .ne 74, 3) := by decide +kernel
theorem dX5_isLess_28 : decode cX5_isLess 28 = .ok (.lload 8, 2) := by decide +kernel
theorem dX5_isLess_30 : decode cX5_isLess 30 = .ok (.lload 10, 2) := by decide +kernel
theorem dX5_isLess_32 : decode cX5_isLess 32 = .ok (.lrem, 1) := by decide +kernel
theorem dX5_isLess_33 : decode cX5_isLess 33 = .ok (.lstore 16, 2) := by decide +kernel
theorem dX5_isLess_35 : decode cX5_isLess 35 = .ok (.lload 12, 2) := by decide +kernel
theorem dX5_isLess_37 : decode cX5_isLess 37 = .ok (.lload 14, 2) := by decide +kernel
theorem dX5_isLess_39 : decode cX5_isLess 39 = .ok (.lrem, 1) := by decide +kernel
theorem dX5_isLess_40 : decode cX5_isLess 40 = .ok (.lstore 18, 2) := by decide +kernel
theorem dX5_isLess_42 : decode cX5_isLess 42 = .ok (.lload 16, 2) := by decide +kernel
theorem dX5_isLess_44 : decode cX5_isLess 44 = .ok (.lconst 0, 1) := by decide +kernel
theorem dX5_isLess_45 : decode cX5_isLess 45 = .ok (.lcmp, 1) := by decide +kernel
theorem dX5_isLess_46 : decode cX5_isLess 46 = .ok (.ifCond .eq 10, 3) := by decide +kernel
theorem dX5_isLess_49 : decode cX5_isLess 49 = .ok (.lload 18, 2) := by decide +kernel
theorem dX5_isLess_51 : decode cX5_isLess 51 = .ok (.lconst 0, 1) := by decide +kernel
theorem dX5_isLess_52 : decode cX5_isLess 52 = .ok (.lcmp, 1) := by decide +kernel
theorem dX5_isLess_53 : decode cX5_isLess 53 = .ok (.ifCond .ne 23, 3) := by decide +kernel
theorem dX5_isLess_56 : decode cX5_isLess 56 = .ok (.lload 16, 2) := by decide +kernel
theorem dX5_isLess_58 : decode cX5_isLess 58 = .ok (.lconst 0, 1) := by decide +kernel
theorem dX5_isLess_59 : decode cX5_isLess 59 = .ok (.lcmp, 1) := by decide +kernel
theorem dX5_isLess_60 : decode cX5_isLess 60 = .ok (.ifCond .ne 14, 3) := by decide +kernel
theorem dX5_isLess_63 : decode cX5_isLess 63 = .ok (.lload 18, 2) := by decide +kernel
theorem dX5_isLess_65 : decode cX5_isLess 65 = .ok (.lconst 0, 1) := by decide +kernel
theorem dX5_isLess_66 : decode cX5_isLess 66 = .ok (.lcmp, 1) := by decide +kernel
theorem dX5_isLess_67 : decode cX5_isLess 67 = .ok (.ifCond .le 7, 3) := by decide +kernel
theorem dX5_isLess_70 : decode cX5_isLess 70 = .ok (.iconst 1, 1) := by decide +kernel
theorem dX5_isLess_71 : decode cX5_isLess 71 = .ok (.goto 4, 3) := by decide +kernel
theorem dX5_isLess_74 : decode cX5_isLess 74 = .ok (.iconst 0, 1) := by decide +kernel
theorem dX5_isLess_75 : decode cX5_isLess 75 = .ok (.ireturn, 1) := by decide +kernel
theorem dX5_isLess_76 : decode cX5_isLess 76 = .ok (.lload 14, 2) := by decide +kernel
theorem dX5_isLess_78 : decode cX5_isLess 78 = .ok (.lstore 8, 2) := by decide +kernel
theorem dX5_isLess_80 : decode cX5_isLess 80 = .ok (.lload 16, 2) := by decide +kernel
theorem dX5_isLess_82 : decode cX5_isLess 82 = .ok (.lstore 14, 2) := by decide +kernel
theorem dX5_isLess_84 : decode cX5_isLess 84 = .ok (.lload 10, 2) := by decide +kernel
theorem dX5_isLess_86 : decode cX5_isLess 86 = .ok (.lstore 20, 2) := by decide +kernel
theorem dX5_isLess_88 : decode cX5_isLess 88 = .ok (.lload 18, 2) := by decide +kernel
theorem dX5_isLess_90 : decode cX5_isLess 90 = .ok (.lstore 10, 2) := by decide +kernel
theorem dX5_isLess_92 : decode cX5_isLess 92 = .ok (.lload 20, 2) := by decide +kernel
theorem dX5_isLess_94 : decode cX5_isLess 94 = .ok (.lstore 12, 2) := by decide +kernel
theorem dX5_isLess_96 : decode cX5_isLess 96 = .ok (.goto (-82), 3) := by decide +kernel
theorem dX5_isLess_99 : decode cX5_isLess 99 = .ok (.lload 8, 2) := by decide +kernel
theorem dX5_isLess_101 : decode cX5_isLess 101 = .ok (.lload 10, 2) := by decide +kernel
theorem dX5_isLess_103 : decode cX5_isLess 103 = .ok (.ldiv, 1) := by decide +kernel
theorem dX5_isLess_104 : decode cX5_isLess 104 = .ok (.lload 12, 2) := by decide +kernel
theorem dX5_isLess_106 : decode cX5_isLess 106 = .ok (.lload 14, 2) := by decide +kernel
theorem dX5_isLess_108 : decode cX5_isLess 108 = .ok (.ldiv, 1) := by decide +kernel
theorem dX5_isLess_109 : decode cX5_isLess 109 = .ok (.lcmp, 1) := by decide +kernel
theorem dX5_isLess_110 : decode cX5_isLess 110 = .ok (.ifCond .ge 7, 3) := by decide +kernel
theorem dX5_isLess_113 : decode cX5_isLess 113 = .ok (.iconst 1, 1) := by decide +kernel
theorem dX5_isLess_114 : decode cX5_isLess 114 = .ok (.goto 4, 3) := by decide +kernel
theorem dX5_isLess_117 : decode cX5_isLess 117 = .ok (.iconst 0, 1) := by decide +kernel
theorem dX5_isLess_118 : decode cX5_isLess 118 = .ok (.ireturn, 1) := by decide +kernel
set_option maxRecDepth 20000 in
theorem ggX5_oddest_X5_in : GoodIn wsX5_oddest wsX5_in := goodIn_r _ [7] (by decide +kernel) (by decide +kernel)
set_option maxRecDepth 20000 in
theorem gX5_oddest_X5_in : GoodIn wsX5_oddest (va_wsS RX5 66 yX5_in wsX5_in) := goodIn_app (goodIn_of _ (by decide +kernel)) ggX5_oddest_X5_in
set_option maxRecDepth 20000 in
theorem ggX5_oddest_X5_isMonth : GoodIn wsX5_oddest wsX5_isMonth := goodIn_r _ [10, 11, 4, 5, 6, 7] (by decide +kernel) (by decide +kernel)
set_option maxRecDepth 20000 in
theorem gX5_oddest_X5_isMonth : GoodIn wsX5_oddest (va_wsS RX5 91 yX5_isMonth wsX5_isMonth) := goodIn_app (goodIn_of _ (by decide +kernel)) ggX5_oddest_X5_isMonth
set_option maxRecDepth 20000 in
theorem ggX5_oddest_X5_findChance : GoodIn wsX5_oddest wsX5_findChance := goodIn_r _ [15, 16, 17, 2, 3, 18, 19, 20, 6, 21, 22, 23, 24, 25, 26, 27, 28, 29, 30, 31, 32, 33, 34, 35, 4, 5, 7, 36, 37, 38, 42, 43, 44, 45, 46, 47, 48, 49, 50, 51, 52, 53, 54, 55, 56, 57, 58, 59, 60, 61, 62] (by decide +kernel) (by decide +kernel)
set_option maxRecDepth 20000 in
theorem gX5_oddest_X5_findChance : GoodIn wsX5_oddest (wsV RX5 155 RX5 yX5_findChance wsX5_findChance) := goodIn_app (goodIn_of _ (by decide +kernel)) ggX5_oddest_X5_findChance
set_option maxRecDepth 20000 in
theorem ggX5_oddest_X5_isLess : GoodIn wsX5_oddest wsX5_isLess := goodIn_r _ [41] (by decide +kernel) (by decide +kernel)
set_option maxRecDepth 20000 in
theorem gX5_oddest_X5_isLess : GoodIn wsX5_oddest (va_wsS RX5 160 yX5_isLess wsX5_isLess) := goodIn_app (goodIn_of _ (by decide +kernel)) ggX5_oddest_X5_isLess
theorem dX5_oddest_0 : decode cX5_oddest 0 = .ok (.iload_n 1, 1) := by decide +kernel
theorem dX5_oddest_1 : decode cX5_oddest 1 = .ok (.i2l, 1) := by decide +kernel
theorem dX5_oddest_2 : decode cX5_oddest 2 = .ok (.lconst 0, 1) := by decide +kernel
theorem dX5_oddest_3 : decode cX5_oddest 3 = .ok (.ldc2_w 109, 3) := by decide +kernel
theorem dX5_oddest_6 : decode cX5_oddest 6 = .ok (.invokestatic 66, 3) := by decide +kernel
theorem dX5_oddest_9 : decode cX5_oddest 9 = .ok (.ifCond .eq 10, 3) := by decide +kernel
theorem dX5_oddest_12 : decode cX5_oddest 12 = .ok (.iload_n 2, 1) := by decide +kernel
theorem dX5_oddest_13 : decode cX5_oddest 13 = .ok (.invokestatic 91, 3) := by decide +kernel
theorem dX5_oddest_16 : decode cX5_oddest 16 = .ok (.ifCond .ne 6, 3) := by decide +kernel
theorem dX5_oddest_19 : decode cX5_oddest 19 = .ok (.bipush (-2), 2) := by decide +kernel
theorem dX5_oddest_21 : decode cX5_oddest 21 = .ok (.ireturn, 1) := by decide +kernel
theorem dX5_oddest_22 : decode cX5_oddest 22 = .ok (.iconst (-1), 1) := by decide +kernel
theorem dX5_oddest_23 : decode cX5_oddest 23 = .ok (.istore_n 3, 1) := by decide +kernel
theorem dX5_oddest_24 : decode cX5_oddest 24 = .ok (.lconst 0, 1) := by decide +kernel
theorem dX5_oddest_25 : decode cX5_oddest 25 = .ok (.lstore 4, 2) := by decide +kernel
theorem dX5_oddest_27 : decode cX5_oddest 27 = .ok (.lconst 1, 1) := by decide +kernel
theorem dX5_oddest_28 : decode cX5_oddest 28 = .ok (.lstore 6, 2) := by decide +kernel
theorem dX5_oddest_30 : decode cX5_oddest 30 = .ok (.iconst 0, 1) := by decide +kernel
theorem dX5_oddest_31 : decode cX5_oddest 31 = .ok (.istore 8, 2) := by decide +kernel
theorem dX5_oddest_33 : decode cX5_oddest 33 = .ok (.iload 8, 2) := by decide +kernel
theorem dX5_oddest_35 : decode cX5_oddest 35 = .ok (.bipush 8, 2) := by decide +kernel
theorem dX5_oddest_37 : decode cX5_oddest 37 = .ok (.if_icmp .ge 57, 3) := by decide +kernel
theorem dX5_oddest_40 : decode cX5_oddest 40 = .ok (.aload_n 0, 1) := by decide +kernel
theorem dX5_oddest_41 : decode cX5_oddest 41 = .ok (.iload 8, 2) := by decide +kernel
theorem dX5_oddest_43 : decode cX5_oddest 43 = .ok (.iload_n 1, 1) := by decide +kernel
theorem dX5_oddest_44 : decode cX5_oddest 44 = .ok (.iload_n 2, 1) := by decide +kernel
theorem dX5_oddest_45 : decode cX5_oddest 45 = .ok (.invokevirtual 155, 3) := by decide +kernel
theorem dX5_oddest_48 : decode cX5_oddest 48 = .ok (.ifCond .eq 40, 3) := by decide +kernel
theorem dX5_oddest_51 : decode cX5_oddest 51 = .ok (.iload_n 3, 1) := by decide +kernel
theorem dX5_oddest_52 : decode cX5_oddest 52 = .ok (.ifCond .lt 21, 3) := by decide +kernel
theorem dX5_oddest_55 : decode cX5_oddest 55 = .ok (.aload_n 0, 1) := by decide +kernel
theorem dX5_oddest_56 : decode cX5_oddest 56 = .ok (.getfield 142, 3) := by decide +kernel
theorem dX5_oddest_59 : decode cX5_oddest 59 = .ok (.aload_n 0, 1) := by decide +kernel
theorem dX5_oddest_60 : decode cX5_oddest 60 = .ok (.getfield 150, 3) := by decide +kernel
theorem dX5_oddest_63 : decode cX5_oddest 63 = .ok (.lload 4, 2) := by decide +kernel
theorem dX5_oddest_65 : decode cX5_oddest 65 = .ok (.lload 6, 2) := by decide +kernel
theorem dX5_oddest_67 : decode cX5_oddest 67 = .ok (.invokestatic 160, 3) := by decide +kernel
theorem dX5_oddest_70 : decode cX5_oddest 70 = .ok (.ifCond .eq 18, 3) := by decide +kernel
theorem dX5_oddest_73 : decode cX5_oddest 73 = .ok (.iload 8, 2) := by decide +kernel
theorem dX5_oddest_75 : decode cX5_oddest 75 = .ok (.istore_n 3, 1) := by decide +kernel
theorem dX5_oddest_76 : decode cX5_oddest 76 = .ok (.aload_n 0, 1) := by decide +kernel
theorem dX5_oddest_77 : decode cX5_oddest 77 = .ok (.getfield 142, 3) := by decide +kernel
theorem dX5_oddest_80 : decode cX5_oddest 80 = .ok (.lstore 4, 2) := by decide +kernel
theorem dX5_oddest_82 : decode cX5_oddest 82 = .ok (.aload_n 0, 1) := by decide +kernel
theorem dX5_oddest_83 : decode cX5_oddest 83 = .ok (.getfield 150, 3) := by decide +kernel
theorem dX5_oddest_86 : decode cX5_oddest 86 = .ok (.lstore 6, 2) := by decide +kernel
theorem dX5_oddest_88 : decode cX5_oddest 88 = .ok (.iinc 8 1, 3) := by decide +kernel
theorem dX5_oddest_91 : decode cX5_oddest 91 = .ok (.goto (-58), 3) := by decide +kernel
theorem dX5_oddest_94 : decode cX5_oddest 94 = .ok (.iload_n 3, 1) := by decide +kernel
theorem dX5_oddest_95 : decode cX5_oddest 95 = .ok (.ireturn, 1) := by decide +kernel
theorem dX5_isUnder_0 : decode cX5_isUnder 0 = .ok (.iload_n 1, 1) := by decide +kernel
theorem dX5_isUnder_1 : decode cX5_isUnder 1 = .ok (.istore_n 3, 1) := by decide +kernel
theorem dX5_isUnder_2 : decode cX5_isUnder 2 = .ok (.iload_n 3, 1) := by decide +kernel
theorem dX5_isUnder_3 : decode cX5_isUnder 3 = .ok (.ifCond .lt 18, 3) := by decide +kernel
theorem dX5_isUnder_6 : decode cX5_isUnder 6 = .ok (.iload_n 3, 1) := by decide +kernel
theorem dX5_isUnder_7 : decode cX5_isUnder 7 = .ok (.iload_n 2, 1) := by decide +kernel
theorem dX5_isUnder_8 : decode cX5_isUnder 8 = .ok (.if_icmp .eq 13, 3) := by decide +kernel
theorem dX5_isUnder_11 : decode cX5_isUnder 11 = .ok (.aload_n 0, 1) := by decide +kernel
theorem dX5_isUnder_12 : decode cX5_isUnder 12 = .ok (.getfield 54, 3) := by decide +kernel
theorem dX5_isUnder_15 : decode cX5_isUnder 15 = .ok (.iload_n 3, 1) := by decide +kernel
theorem dX5_isUnder_16 : decode cX5_isUnder 16 = .ok (.iaload, 1) := by decide +kernel
theorem dX5_isUnder_17 : decode cX5_isUnder 17 = .ok (.istore_n 3, 1) := by decide +kernel
theorem dX5_isUnder_18 : decode cX5_isUnder 18 = .ok (.goto (-16), 3) := by decide +kernel
theorem dX5_isUnder_21 : decode cX5_isUnder 21 = .ok (.iload_n 3, 1) := by decide +kernel
theorem dX5_isUnder_22 : decode cX5_isUnder 22 = .ok (.iload_n 2, 1) := by decide +kernel
theorem dX5_isUnder_23 : decode cX5_isUnder 23 = .ok (.if_icmp .ne 7, 3) := by decide +kernel
theorem dX5_isUnder_26 : decode cX5_isUnder 26 = .ok (.iconst 1, 1) := by decide +kernel
theorem dX5_isUnder_27 : decode cX5_isUnder 27 = .ok (.goto 4, 3) := by decide +kernel
theorem dX5_isUnder_30 : decode cX5_isUnder 30 = .ok (.iconst 0, 1) := by decide +kernel
theorem dX5_isUnder_31 : decode cX5_isUnder 31 = .ok (.ireturn, 1) := by decide +kernel
set_option maxRecDepth 20000 in
theorem ggX5_under_X5_in : GoodIn wsX5_under wsX5_in := goodIn_r _ [7] (by decide +kernel) (by decide +kernel)
set_option maxRecDepth 20000 in
theorem gX5_under_X5_in : GoodIn wsX5_under (va_wsS RX5 66 yX5_in wsX5_in) := goodIn_app (goodIn_of _ (by decide +kernel)) ggX5_under_X5_in
set_option maxRecDepth 20000 in
theorem ggX5_under_X5_isUnder : GoodIn wsX5_under wsX5_isUnder := goodIn_r _ [11, 3, 12, 13, 14, 15, 16, 17, 18, 19, 20, 21, 22, 23, 24, 25, 26, 27, 28, 29, 30, 31, 32] (by decide +kernel) (by decide +kernel)
set_option maxRecDepth 20000 in
theorem gX5_under_X5_isUnder : GoodIn wsX5_under (wsV RX5 166 RX5 yX5_isUnder wsX5_isUnder) := goodIn_app (goodIn_of _ (by decide +kernel)) ggX5_under_X5_isUnder
theorem dX5_under_0 : decode cX5_under 0 = .ok (.iload_n 1, 1) := by decide +kernel
theorem dX5_under_1 : decode cX5_under 1 = .ok (.i2l, 1) := by decide +kernel
theorem dX5_under_2 : decode cX5_under 2 = .ok (.lconst 0, 1) := by decide +kernel
theorem dX5_under_3 : decode cX5_under 3 = .ok (.ldc2_w 109, 3) := by decide +kernel
theorem dX5_under_6 : decode cX5_under 6 = .ok (.invokestatic 66, 3) := by decide +kernel
theorem dX5_under_9 : decode cX5_under 9 = .ok (.ifCond .eq 17, 3) := by decide +kernel
theorem dX5_under_12 : decode cX5_under 12 = .ok (.iload_n 2, 1) := by decide +kernel
theorem dX5_under_13 : decode cX5_under 13 = .ok (.i2l, 1) := by decide +kernel
theorem dX5_under_14 : decode cX5_under 14 = .ok (.ldc2_w 164, 3) := by decide +kernel
theorem dX5_under_17 : decode cX5_under 17 = .ok (.ldc2_w 109, 3) := by decide +kernel
theorem dX5_under_20 : decode cX5_under 20 = .ok (.invokestatic 66, 3) := by decide +kernel
theorem dX5_under_23 : decode cX5_under 23 = .ok (.ifCond .ne 6, 3) := by decide +kernel
theorem dX5_under_26 : decode cX5_under 26 = .ok (.bipush (-2), 2) := by decide +kernel
theorem dX5_under_28 : decode cX5_under 28 = .ok (.ireturn, 1) := by decide +kernel
theorem dX5_under_29 : decode cX5_under 29 = .ok (.iload_n 2, 1) := by decide +kernel
theorem dX5_under_30 : decode cX5_under 30 = .ok (.ifCond .lt 15, 3) := by decide +kernel
theorem dX5_under_33 : decode cX5_under 33 = .ok (.aload_n 0, 1) := by decide +kernel
theorem dX5_under_34 : decode cX5_under 34 = .ok (.iload_n 2, 1) := by decide +kernel
theorem dX5_under_35 : decode cX5_under 35 = .ok (.iload_n 1, 1) := by decide +kernel
theorem dX5_under_36 : decode cX5_under 36 = .ok (.invokevirtual 166, 3) := by decide +kernel
theorem dX5_under_39 : decode cX5_under 39 = .ok (.ifCond .eq 6, 3) := by decide +kernel
theorem dX5_under_42 : decode cX5_under 42 = .ok (.bipush (-3), 2) := by decide +kernel
theorem dX5_under_44 : decode cX5_under 44 = .ok (.ireturn, 1) := by decide +kernel
theorem dX5_under_45 : decode cX5_under 45 = .ok (.aload_n 0, 1) := by decide +kernel
theorem dX5_under_46 : decode cX5_under 46 = .ok (.getfield 54, 3) := by decide +kernel
theorem dX5_under_49 : decode cX5_under 49 = .ok (.iload_n 1, 1) := by decide +kernel
theorem dX5_under_50 : decode cX5_under 50 = .ok (.iload_n 2, 1) := by decide +kernel
theorem dX5_under_51 : decode cX5_under 51 = .ok (.iastore, 1) := by decide +kernel
theorem dX5_under_52 : decode cX5_under 52 = .ok (.iconst 1, 1) := by decide +kernel
theorem dX5_under_53 : decode cX5_under 53 = .ok (.ireturn, 1) := by decide +kernel
set_option maxRecDepth 20000 in
theorem ggX5_maker_X5_in : GoodIn wsX5_maker wsX5_in := goodIn_r _ [10] (by decide +kernel) (by decide +kernel)
set_option maxRecDepth 20000 in
theorem gX5_maker_X5_in : GoodIn wsX5_maker (va_wsS RX5 66 yX5_in wsX5_in) := goodIn_app (goodIn_of _ (by decide +kernel)) ggX5_maker_X5_in
theorem dX5_maker_0 : decode cX5_maker 0 = .ok (.iload_n 1, 1) := by decide +kernel
theorem dX5_maker_1 : decode cX5_maker 1 = .ok (.i2l, 1) := by decide +kernel
theorem dX5_maker_2 : decode cX5_maker 2 = .ok (.lconst 0, 1) := by decide +kernel
theorem dX5_maker_3 : decode cX5_maker 3 = .ok (.ldc2_w 109, 3) := by decide +kernel
theorem dX5_maker_6 : decode cX5_maker 6 = .ok (.invokestatic 66, 3) := by decide +kernel
theorem dX5_maker_9 : decode cX5_maker 9 = .ok (.ifCond .eq 29, 3) := by decide +kernel
theorem dX5_maker_12 : decode cX5_maker 12 = .ok (.iload_n 2, 1) := by decide +kernel
theorem dX5_maker_13 : decode cX5_maker 13 = .ok (.i2l, 1) := by decide +kernel
theorem dX5_maker_14 : decode cX5_maker 14 = .ok (.ldc2_w 164, 3) := by decide +kernel
theorem dX5_maker_17 : decode cX5_maker 17 = .ok (.ldc2_w 169, 3) := by decide +kernel
theorem dX5_maker_20 : decode cX5_maker 20 = .ok (.invokestatic 66, 3) := by decide +kernel
theorem dX5_maker_23 : decode cX5_maker 23 = .ok (.ifCond .eq 15, 3) := by decide +kernel
theorem dX5_maker_26 : decode cX5_maker 26 = .ok (.iload_n 3, 1) := by decide +kernel
theorem dX5_maker_27 : decode cX5_maker 27 = .ok (.i2l, 1) := by decide +kernel
theorem dX5_maker_28 : decode cX5_maker 28 = .ok (.lconst 0, 1) := by decide +kernel
theorem dX5_maker_29 : decode cX5_maker 29 = .ok (.ldc2_w 171, 3) := by decide +kernel
theorem dX5_maker_32 : decode cX5_maker 32 = .ok (.invokestatic 66, 3) := by decide +kernel
theorem dX5_maker_35 : decode cX5_maker 35 = .ok (.ifCond .ne 6, 3) := by decide +kernel
theorem dX5_maker_38 : decode cX5_maker 38 = .ok (.bipush (-2), 2) := by decide +kernel
theorem dX5_maker_40 : decode cX5_maker 40 = .ok (.ireturn, 1) := by decide +kernel
theorem dX5_maker_41 : decode cX5_maker 41 = .ok (.aload_n 0, 1) := by decide +kernel
theorem dX5_maker_42 : decode cX5_maker 42 = .ok (.getfield 57, 3) := by decide +kernel
theorem dX5_maker_45 : decode cX5_maker 45 = .ok (.iload_n 1, 1) := by decide +kernel
theorem dX5_maker_46 : decode cX5_maker 46 = .ok (.iload_n 2, 1) := by decide +kernel
theorem dX5_maker_47 : decode cX5_maker 47 = .ok (.iastore, 1) := by decide +kernel
theorem dX5_maker_48 : decode cX5_maker 48 = .ok (.aload_n 0, 1) := by decide +kernel
theorem dX5_maker_49 : decode cX5_maker 49 = .ok (.getfield 60, 3) := by decide +kernel
theorem dX5_maker_52 : decode cX5_maker 52 = .ok (.iload_n 1, 1) := by decide +kernel
theorem dX5_maker_53 : decode cX5_maker 53 = .ok (.iload_n 3, 1) := by decide +kernel
theorem dX5_maker_54 : decode cX5_maker 54 = .ok (.iastore, 1) := by decide +kernel
theorem dX5_maker_55 : decode cX5_maker 55 = .ok (.iconst 1, 1) := by decide +kernel
theorem dX5_maker_56 : decode cX5_maker 56 = .ok (.ireturn, 1) := by decide +kernel
theorem dX5_payingPart_0 : decode cX5_payingPart 0 = .ok (.iload_n 1, 1) := by decide +kernel
theorem dX5_payingPart_1 : decode cX5_payingPart 1 = .ok (.istore_n 2, 1) := by decide +kernel
theorem dX5_payingPart_2 : decode cX5_payingPart 2 = .ok (.iload_n 2, 1) := by decide +kernel
theorem dX5_payingPart_3 : decode cX5_payingPart 3 = .ok (.ifCond .lt 22, 3) := by decide +kernel
theorem dX5_payingPart_6 : decode cX5_payingPart 6 = .ok (.aload_n 0, 1) := by decide +kernel
theorem dX5_payingPart_7 : decode cX5_payingPart 7 = .ok (.getfield 57, 3) := by decide +kernel
theorem dX5_payingPart_10 : decode cX5_payingPart 10 = .ok (.iload_n 2, 1) := by decide +kernel
theorem dX5_payingPart_11 : decode cX5_payingPart 11 = .ok (.iaload, 1) := by decide +kernel
theorem dX5_payingPart_12 : decode cX5_payingPart 12 = .ok (.ifCond .ge 13, 3) := by decide +kernel
theorem dX5_payingPart_15 : decode cX5_payingPart 15 = .ok (.aload_n 0, 1) := by decide +kernel
theorem dX5_payingPart_16 : decode cX5_payingPart 16 = .ok (.getfield 54, 3) := by decide +kernel
theorem dX5_payingPart_19 : decode cX5_payingPart 19 = .ok (.iload_n 2, 1) := by decide +kernel
theorem dX5_payingPart_20 : decode cX5_payingPart 20 = .ok (.iaload, 1) := by decide +kernel
theorem dX5_payingPart_21 : decode cX5_payingPart 21 = .ok (.istore_n 2, 1) := by decide +kernel
theorem dX5_payingPart_22 : decode cX5_payingPart 22 = .ok (.goto (-20), 3) := by decide +kernel
theorem dX5_payingPart_25 : decode cX5_payingPart 25 = .ok (.iload_n 2, 1) := by decide +kernel
theorem dX5_payingPart_26 : decode cX5_payingPart 26 = .ok (.ireturn, 1) := by decide +kernel
set_option maxRecDepth 20000 in
theorem ggX5_payer_X5_in : GoodIn wsX5_payer wsX5_in := goodIn_r _ [6] (by decide +kernel) (by decide +kernel)
set_option maxRecDepth 20000 in
theorem gX5_payer_X5_in : GoodIn wsX5_payer (va_wsS RX5 66 yX5_in wsX5_in) := goodIn_app (goodIn_of _ (by decide +kernel)) ggX5_payer_X5_in
set_option maxRecDepth 20000 in
theorem ggX5_payer_X5_payingPart : GoodIn wsX5_payer wsX5_payingPart := goodIn_r _ [10, 2, 11, 12, 13, 14, 15, 16, 17, 18, 19, 20, 21, 22, 23, 24, 25, 26, 27, 28, 29, 30, 31, 32] (by decide +kernel) (by decide +kernel)
set_option maxRecDepth 20000 in
theorem gX5_payer_X5_payingPart : GoodIn wsX5_payer (wsV RX5 173 RX5 yX5_payingPart wsX5_payingPart) := goodIn_app (goodIn_of _ (by decide +kernel)) ggX5_payer_X5_payingPart
theorem dX5_payer_0 : decode cX5_payer 0 = .ok (.iload_n 1, 1) := by decide +kernel
theorem dX5_payer_1 : decode cX5_payer 1 = .ok (.i2l, 1) := by decide +kernel
theorem dX5_payer_2 : decode cX5_payer 2 = .ok (.lconst 0, 1) := by decide +kernel
theorem dX5_payer_3 : decode cX5_payer 3 = .ok (.ldc2_w 109, 3) := by decide +kernel
theorem dX5_payer_6 : decode cX5_payer 6 = .ok (.invokestatic 66, 3) := by decide +kernel
theorem dX5_payer_9 : decode cX5_payer 9 = .ok (.ifCond .ne 6, 3) := by decide +kernel
theorem dX5_payer_12 : decode cX5_payer 12 = .ok (.bipush (-2), 2) := by decide +kernel
theorem dX5_payer_14 : decode cX5_payer 14 = .ok (.ireturn, 1) := by decide +kernel
theorem dX5_payer_15 : decode cX5_payer 15 = .ok (.aload_n 0, 1) := by decide +kernel
theorem dX5_payer_16 : decode cX5_payer 16 = .ok (.iload_n 1, 1) := by decide +kernel
theorem dX5_payer_17 : decode cX5_payer 17 = .ok (.invokevirtual 173, 3) := by decide +kernel
theorem dX5_payer_20 : decode cX5_payer 20 = .ok (.istore_n 2, 1) := by decide +kernel
theorem dX5_payer_21 : decode cX5_payer 21 = .ok (.iload_n 2, 1) := by decide +kernel
theorem dX5_payer_22 : decode cX5_payer 22 = .ok (.ifCond .ge 7, 3) := by decide +kernel
theorem dX5_payer_25 : decode cX5_payer 25 = .ok (.iconst (-1), 1) := by decide +kernel
theorem dX5_payer_26 : decode cX5_payer 26 = .ok (.goto 9, 3) := by decide +kernel
theorem dX5_payer_29 : decode cX5_payer 29 = .ok (.aload_n 0, 1) := by decide +kernel
theorem dX5_payer_30 : decode cX5_payer 30 = .ok (.getfield 57, 3) := by decide +kernel
theorem dX5_payer_33 : decode cX5_payer 33 = .ok (.iload_n 2, 1) := by decide +kernel
theorem dX5_payer_34 : decode cX5_payer 34 = .ok (.iaload, 1) := by decide +kernel
theorem dX5_payer_35 : decode cX5_payer 35 = .ok (.ireturn, 1) := by decide +kernel
set_option maxRecDepth 20000 in
theorem ggX5_paidFor_X5_payingPart : GoodIn wsX5_paidFor wsX5_payingPart := goodIn_r _ [10, 3, 11, 12, 13, 14, 15, 16, 17, 18, 19, 20, 21, 22, 23, 24, 25, 26, 27, 28, 29, 30, 31, 32] (by decide +kernel) (by decide +kernel)
set_option maxRecDepth 20000 in
theorem gX5_paidFor_X5_payingPart : GoodIn wsX5_paidFor (wsV RX5 173 RX5 yX5_payingPart wsX5_payingPart) := goodIn_app (goodIn_of _ (by decide +kernel)) ggX5_paidFor_X5_payingPart
theorem dX5_paidFor_0 : decode cX5_paidFor 0 = .ok (.aload_n 0, 1) := by decide +kernel
theorem dX5_paidFor_1 : decode cX5_paidFor 1 = .ok (.aload_n 0, 1) := by decide +kernel
theorem dX5_paidFor_2 : decode cX5_paidFor 2 = .ok (.getfield 35, 3) := by decide +kernel
theorem dX5_paidFor_5 : decode cX5_paidFor 5 = .ok (.iload_n 1, 1) := by decide +kernel
theorem dX5_paidFor_6 : decode cX5_paidFor 6 = .ok (.iaload, 1) := by decide +kernel
theorem dX5_paidFor_7 : decode cX5_paidFor 7 = .ok (.invokevirtual 173, 3) := by decide +kernel
theorem dX5_paidFor_10 : decode cX5_paidFor 10 = .ok (.istore_n 3, 1) := by decide +kernel
theorem dX5_paidFor_11 : decode cX5_paidFor 11 = .ok (.aload_n 0, 1) := by decide +kernel
theorem dX5_paidFor_12 : decode cX5_paidFor 12 = .ok (.getfield 47, 3) := by decide +kernel
theorem dX5_paidFor_15 : decode cX5_paidFor 15 = .ok (.iload_n 1, 1) := by decide +kernel
theorem dX5_paidFor_16 : decode cX5_paidFor 16 = .ok (.iaload, 1) := by decide +kernel
theorem dX5_paidFor_17 : decode cX5_paidFor 17 = .ok (.ifCond .ne 25, 3) := by decide +kernel
theorem dX5_paidFor_20 : decode cX5_paidFor 20 = .ok (.iload_n 3, 1) := by decide +kernel
theorem dX5_paidFor_21 : decode cX5_paidFor 21 = .ok (.ifCond .lt 21, 3) := by decide +kernel
theorem dX5_paidFor_24 : decode cX5_paidFor 24 = .ok (.iload_n 2, 1) := by decide +kernel
theorem dX5_paidFor_25 : decode cX5_paidFor 25 = .ok (.ifCond .lt 13, 3) := by decide +kernel
theorem dX5_paidFor_28 : decode cX5_paidFor 28 = .ok (.aload_n 0, 1) := by decide +kernel
theorem dX5_paidFor_29 : decode cX5_paidFor 29 = .ok (.getfield 57, 3) := by decide +kernel
theorem dX5_paidFor_32 : decode cX5_paidFor 32 = .ok (.iload_n 3, 1) := by decide +kernel
theorem dX5_paidFor_33 : decode cX5_paidFor 33 = .ok (.iaload, 1) := by decide +kernel
theorem dX5_paidFor_34 : decode cX5_paidFor 34 = .ok (.iload_n 2, 1) := by decide +kernel
theorem dX5_paidFor_35 : decode cX5_paidFor 35 = .ok (.if_icmp .ne 7, 3) := by decide +kernel
theorem dX5_paidFor_38 : decode cX5_paidFor 38 = .ok (.iconst 1, 1) := by decide +kernel
theorem dX5_paidFor_39 : decode cX5_paidFor 39 = .ok (.goto 4, 3) := by decide +kernel
theorem dX5_paidFor_42 : decode cX5_paidFor 42 = .ok (.iconst 0, 1) := by decide +kernel
theorem dX5_paidFor_43 : decode cX5_paidFor 43 = .ok (.istore 4, 2) := by decide +kernel
theorem dX5_paidFor_45 : decode cX5_paidFor 45 = .ok (.iload 4, 2) := by decide +kernel
theorem dX5_paidFor_47 : decode cX5_paidFor 47 = .ok (.ifCond .eq 22, 3) := by decide +kernel
theorem dX5_paidFor_50 : decode cX5_paidFor 50 = .ok (.aload_n 0, 1) := by decide +kernel
theorem dX5_paidFor_51 : decode cX5_paidFor 51 = .ok (.getfield 44, 3) := by decide +kernel
theorem dX5_paidFor_54 : decode cX5_paidFor 54 = .ok (.iload_n 1, 1) := by decide +kernel
theorem dX5_paidFor_55 : decode cX5_paidFor 55 = .ok (.iaload, 1) := by decide +kernel
theorem dX5_paidFor_56 : decode cX5_paidFor 56 = .ok (.aload_n 0, 1) := by decide +kernel
theorem dX5_paidFor_57 : decode cX5_paidFor 57 = .ok (.getfield 60, 3) := by decide +kernel
theorem dX5_paidFor_60 : decode cX5_paidFor 60 = .ok (.iload_n 3, 1) := by decide +kernel
theorem dX5_paidFor_61 : decode cX5_paidFor 61 = .ok (.iaload, 1) := by decide +kernel
theorem dX5_paidFor_62 : decode cX5_paidFor 62 = .ok (.imul, 1) := by decide +kernel
theorem dX5_paidFor_63 : decode cX5_paidFor 63 = .ok (.bipush 100, 2) := by decide +kernel
theorem dX5_paidFor_65 : decode cX5_paidFor 65 = .ok (.idiv, 1) := by decide +kernel
theorem dX5_paidFor_66 : decode cX5_paidFor 66 = .ok (.goto 4, 3) := by decide +kernel
theorem dX5_paidFor_69 : decode cX5_paidFor 69 = .ok (.iconst 0, 1) := by decide +kernel
theorem dX5_paidFor_70 : decode cX5_paidFor 70 = .ok (.ireturn, 1) := by decide +kernel
set_option maxRecDepth 20000 in
theorem ggX5_pays_X5_in : GoodIn wsX5_pays wsX5_in := goodIn_r _ [6] (by decide +kernel) (by decide +kernel)
set_option maxRecDepth 20000 in
theorem gX5_pays_X5_in : GoodIn wsX5_pays (va_wsS RX5 66 yX5_in wsX5_in) := goodIn_app (goodIn_of _ (by decide +kernel)) ggX5_pays_X5_in
set_option maxRecDepth 20000 in
theorem ggX5_pays_X5_paidFor : GoodIn wsX5_pays wsX5_paidFor := goodIn_r _ [10, 11, 12, 13, 14, 15, 16, 17, 18, 5, 19, 20, 21, 22, 23, 24, 25, 26, 27, 28, 29, 30, 31, 32, 33, 34, 35, 36, 37, 38, 39, 40, 41] (by decide +kernel) (by decide +kernel)
set_option maxRecDepth 20000 in
theorem gX5_pays_X5_paidFor : GoodIn wsX5_pays (wsV RX5 176 RX5 yX5_paidFor wsX5_paidFor) := goodIn_app (goodIn_of _ (by decide +kernel)) ggX5_pays_X5_paidFor
theorem dX5_pays_0 : decode cX5_pays 0 = .ok (.iload_n 1, 1) := by decide +kernel
theorem dX5_pays_1 : decode cX5_pays 1 = .ok (.i2l, 1) := by decide +kernel
theorem dX5_pays_2 : decode cX5_pays 2 = .ok (.lconst 0, 1) := by decide +kernel
theorem dX5_pays_3 : decode cX5_pays 3 = .ok (.ldc2_w 169, 3) := by decide +kernel
theorem dX5_pays_6 : decode cX5_pays 6 = .ok (.invokestatic 66, 3) := by decide +kernel
theorem dX5_pays_9 : decode cX5_pays 9 = .ok (.ifCond .ne 6, 3) := by decide +kernel
theorem dX5_pays_12 : decode cX5_pays 12 = .ok (.bipush (-2), 2) := by decide +kernel
theorem dX5_pays_14 : decode cX5_pays 14 = .ok (.ireturn, 1) := by decide +kernel
theorem dX5_pays_15 : decode cX5_pays 15 = .ok (.iconst 0, 1) := by decide +kernel
theorem dX5_pays_16 : decode cX5_pays 16 = .ok (.istore_n 2, 1) := by decide +kernel
theorem dX5_pays_17 : decode cX5_pays 17 = .ok (.iconst 0, 1) := by decide +kernel
theorem dX5_pays_18 : decode cX5_pays 18 = .ok (.istore_n 3, 1) := by decide +kernel
theorem dX5_pays_19 : decode cX5_pays 19 = .ok (.iload_n 3, 1) := by decide +kernel
theorem dX5_pays_20 : decode cX5_pays 20 = .ok (.aload_n 0, 1) := by decide +kernel
theorem dX5_pays_21 : decode cX5_pays 21 = .ok (.getfield 102, 3) := by decide +kernel
theorem dX5_pays_24 : decode cX5_pays 24 = .ok (.if_icmp .ge 18, 3) := by decide +kernel
theorem dX5_pays_27 : decode cX5_pays 27 = .ok (.iload_n 2, 1) := by decide +kernel
theorem dX5_pays_28 : decode cX5_pays 28 = .ok (.aload_n 0, 1) := by decide +kernel
theorem dX5_pays_29 : decode cX5_pays 29 = .ok (.iload_n 3, 1) := by decide +kernel
theorem dX5_pays_30 : decode cX5_pays 30 = .ok (.iload_n 1, 1) := by decide +kernel
theorem dX5_pays_31 : decode cX5_pays 31 = .ok (.invokevirtual 176, 3) := by decide +kernel
theorem dX5_pays_34 : decode cX5_pays 34 = .ok (.iadd, 1) := by decide +kernel
theorem dX5_pays_35 : decode cX5_pays 35 = .ok (.istore_n 2, 1) := by decide +kernel
theorem dX5_pays_36 : decode cX5_pays 36 = .ok (.iinc 3 1, 3) := by decide +kernel
theorem dX5_pays_39 : decode cX5_pays 39 = .ok (.goto (-20), 3) := by decide +kernel
theorem dX5_pays_42 : decode cX5_pays 42 = .ok (.iload_n 2, 1) := by decide +kernel
theorem dX5_pays_43 : decode cX5_pays 43 = .ok (.ireturn, 1) := by decide +kernel
theorem dX5_letCosts_0 : decode cX5_letCosts 0 = .ok (.iconst 0, 1) := by decide +kernel
theorem dX5_letCosts_1 : decode cX5_letCosts 1 = .ok (.istore_n 1, 1) := by decide +kernel
theorem dX5_letCosts_2 : decode cX5_letCosts 2 = .ok (.iconst 0, 1) := by decide +kernel
theorem dX5_letCosts_3 : decode cX5_letCosts 3 = .ok (.istore_n 2, 1) := by decide +kernel
theorem dX5_letCosts_4 : decode cX5_letCosts 4 = .ok (.iload_n 2, 1) := by decide +kernel
theorem dX5_letCosts_5 : decode cX5_letCosts 5 = .ok (.aload_n 0, 1) := by decide +kernel
theorem dX5_letCosts_6 : decode cX5_letCosts 6 = .ok (.getfield 102, 3) := by decide +kernel
theorem dX5_letCosts_9 : decode cX5_letCosts 9 = .ok (.if_icmp .ge 31, 3) := by decide +kernel
theorem dX5_letCosts_12 : decode cX5_letCosts 12 = .ok (.iload_n 1, 1) := by decide +kernel
theorem dX5_letCosts_13 : decode cX5_letCosts 13 = .ok (.aload_n 0, 1) := by decide +kernel
theorem dX5_letCosts_14 : decode cX5_letCosts 14 = .ok (.getfield 47, 3) := by decide +kernel
theorem dX5_letCosts_17 : decode cX5_letCosts 17 = .ok (.iload_n 2, 1) := by decide +kernel
theorem dX5_letCosts_18 : decode cX5_letCosts 18 = .ok (.iaload, 1) := by decide +kernel
theorem dX5_letCosts_19 : decode cX5_letCosts 19 = .ok (.ifCond .ne 12, 3) := by decide +kernel
theorem dX5_letCosts_22 : decode cX5_letCosts 22 = .ok (.aload_n 0, 1) := by decide +kernel
theorem dX5_letCosts_23 : decode cX5_letCosts 23 = .ok (.getfield 44, 3) := by decide +kernel
theorem dX5_letCosts_26 : decode cX5_letCosts 26 = .ok (.iload_n 2, 1) := by decide +kernel
theorem dX5_letCosts_27 : decode cX5_letCosts 27 = .ok (.iaload, 1) := by decide +kernel
theorem dX5_letCosts_28 : decode cX5_letCosts 28 = .ok (.goto 4, 3) := by decide +kernel
theorem dX5_letCosts_31 : decode cX5_letCosts 31 = .ok (.iconst 0, 1) := by decide +kernel
theorem dX5_letCosts_32 : decode cX5_letCosts 32 = .ok (.iadd, 1) := by decide +kernel
theorem dX5_letCosts_33 : decode cX5_letCosts 33 = .ok (.istore_n 1, 1) := by decide +kernel
theorem dX5_letCosts_34 : decode cX5_letCosts 34 = .ok (.iinc 2 1, 3) := by decide +kernel
theorem dX5_letCosts_37 : decode cX5_letCosts 37 = .ok (.goto (-33), 3) := by decide +kernel
theorem dX5_letCosts_40 : decode cX5_letCosts 40 = .ok (.iload_n 1, 1) := by decide +kernel
theorem dX5_letCosts_41 : decode cX5_letCosts 41 = .ok (.ireturn, 1) := by decide +kernel
set_option maxRecDepth 20000 in
theorem ggX5_left_X5_letCosts : GoodIn wsX5_left wsX5_letCosts := goodIn_r _ [6, 1, 7, 8, 21, 22, 23, 24, 25, 26, 27, 28, 29, 30, 31, 32, 33, 34, 35, 36, 37, 38, 39, 40, 41] (by decide +kernel) (by decide +kernel)
set_option maxRecDepth 20000 in
theorem gX5_left_X5_letCosts : GoodIn wsX5_left (wsV RX5 179 RX5 yX5_letCosts wsX5_letCosts) := goodIn_app (goodIn_of _ (by decide +kernel)) ggX5_left_X5_letCosts
set_option maxRecDepth 20000 in
theorem ggX5_left_X5_paidFor : GoodIn wsX5_left wsX5_paidFor := goodIn_r _ [12, 13, 7, 14, 8, 15, 16, 17, 18, 5, 19, 20, 21, 22, 23, 24, 25, 26, 27, 28, 29, 30, 31, 32, 33, 34, 35, 36, 37, 38, 39, 40, 41] (by decide +kernel) (by decide +kernel)
set_option maxRecDepth 20000 in
theorem gX5_left_X5_paidFor : GoodIn wsX5_left (wsV RX5 176 RX5 yX5_paidFor wsX5_paidFor) := goodIn_app (goodIn_of _ (by decide +kernel)) ggX5_left_X5_paidFor
theorem dX5_left_0 : decode cX5_left 0 = .ok (.aload_n 0, 1) := by decide +kernel
theorem dX5_left_1 : decode cX5_left 1 = .ok (.invokevirtual 179, 3) := by decide +kernel
theorem dX5_left_4 : decode cX5_left 4 = .ok (.istore_n 1, 1) := by decide +kernel
theorem dX5_left_5 : decode cX5_left 5 = .ok (.iconst 0, 1) := by decide +kernel
theorem dX5_left_6 : decode cX5_left 6 = .ok (.istore_n 2, 1) := by decide +kernel
theorem dX5_left_7 : decode cX5_left 7 = .ok (.iload_n 2, 1) := by decide +kernel
theorem dX5_left_8 : decode cX5_left 8 = .ok (.aload_n 0, 1) := by decide +kernel
theorem dX5_left_9 : decode cX5_left 9 = .ok (.getfield 102, 3) := by decide +kernel
theorem dX5_left_12 : decode cX5_left 12 = .ok (.if_icmp .ge 18, 3) := by decide +kernel
theorem dX5_left_15 : decode cX5_left 15 = .ok (.iload_n 1, 1) := by decide +kernel
theorem dX5_left_16 : decode cX5_left 16 = .ok (.aload_n 0, 1) := by decide +kernel
theorem dX5_left_17 : decode cX5_left 17 = .ok (.iload_n 2, 1) := by decide +kernel
theorem dX5_left_18 : decode cX5_left 18 = .ok (.iconst (-1), 1) := by decide +kernel
theorem dX5_left_19 : decode cX5_left 19 = .ok (.invokevirtual 176, 3) := by decide +kernel
theorem dX5_left_22 : decode cX5_left 22 = .ok (.isub, 1) := by decide +kernel
theorem dX5_left_23 : decode cX5_left 23 = .ok (.istore_n 1, 1) := by decide +kernel
theorem dX5_left_24 : decode cX5_left 24 = .ok (.iinc 2 1, 3) := by decide +kernel
theorem dX5_left_27 : decode cX5_left 27 = .ok (.goto (-20), 3) := by decide +kernel
theorem dX5_left_30 : decode cX5_left 30 = .ok (.iload_n 1, 1) := by decide +kernel
theorem dX5_left_31 : decode cX5_left 31 = .ok (.ireturn, 1) := by decide +kernel
set_option maxRecDepth 20000 in
theorem ggX5_isCalled_X5_in : GoodIn wsX5_isCalled wsX5_in := goodIn_r _ [10] (by decide +kernel) (by decide +kernel)
set_option maxRecDepth 20000 in
theorem gX5_isCalled_X5_in : GoodIn wsX5_isCalled (va_wsS RX5 66 yX5_in wsX5_in) := goodIn_app (goodIn_of _ (by decide +kernel)) ggX5_isCalled_X5_in
set_option maxRecDepth 20000 in
theorem ggX5_isCalled_X5_isUnder : GoodIn wsX5_isCalled wsX5_isUnder := goodIn_r _ [14, 15, 16, 17, 18, 19, 20, 21, 22, 23, 24, 25, 26, 27, 28, 29, 30, 31, 32, 33, 34, 35, 36] (by decide +kernel) (by decide +kernel)
set_option maxRecDepth 20000 in
theorem gX5_isCalled_X5_isUnder : GoodIn wsX5_isCalled (wsV RX5 166 RX5 yX5_isUnder wsX5_isUnder) := goodIn_app (goodIn_of _ (by decide +kernel)) ggX5_isCalled_X5_isUnder
theorem dX5_isCalled_0 : decode cX5_isCalled 0 = .ok (.iload_n 3, 1) := by decide +kernel
theorem dX5_isCalled_1 : decode cX5_isCalled 1 = .ok (.aload_n 0, 1) := by decide +kernel
theorem dX5_isCalled_2 : decode cX5_isCalled 2 = .ok (.getfield 16, 3) := by decide +kernel
theorem dX5_isCalled_5 : decode cX5_isCalled 5 = .ok (.iload_n 1, 1) := by decide +kernel
theorem dX5_isCalled_6 : decode cX5_isCalled 6 = .ok (.iaload, 1) := by decide +kernel
theorem dX5_isCalled_7 : decode cX5_isCalled 7 = .ok (.ishr, 1) := by decide +kernel
theorem dX5_isCalled_8 : decode cX5_isCalled 8 = .ok (.iconst 1, 1) := by decide +kernel
theorem dX5_isCalled_9 : decode cX5_isCalled 9 = .ok (.iand, 1) := by decide +kernel
theorem dX5_isCalled_10 : decode cX5_isCalled 10 = .ok (.iconst 1, 1) := by decide +kernel
theorem dX5_isCalled_11 : decode cX5_isCalled 11 = .ok (.if_icmp .ne 26, 3) := by decide +kernel
theorem dX5_isCalled_14 : decode cX5_isCalled 14 = .ok (.aload_n 0, 1) := by decide +kernel
theorem dX5_isCalled_15 : decode cX5_isCalled 15 = .ok (.getfield 19, 3) := by decide +kernel
theorem dX5_isCalled_18 : decode cX5_isCalled 18 = .ok (.iload_n 1, 1) := by decide +kernel
theorem dX5_isCalled_19 : decode cX5_isCalled 19 = .ok (.iaload, 1) := by decide +kernel
theorem dX5_isCalled_20 : decode cX5_isCalled 20 = .ok (.i2l, 1) := by decide +kernel
theorem dX5_isCalled_21 : decode cX5_isCalled 21 = .ok (.iload 4, 2) := by decide +kernel
theorem dX5_isCalled_23 : decode cX5_isCalled 23 = .ok (.i2l, 1) := by decide +kernel
theorem dX5_isCalled_24 : decode cX5_isCalled 24 = .ok (.iload 5, 2) := by decide +kernel
theorem dX5_isCalled_26 : decode cX5_isCalled 26 = .ok (.i2l, 1) := by decide +kernel
theorem dX5_isCalled_27 : decode cX5_isCalled 27 = .ok (.invokestatic 66, 3) := by decide +kernel
theorem dX5_isCalled_30 : decode cX5_isCalled 30 = .ok (.ifCond .eq 7, 3) := by decide +kernel
theorem dX5_isCalled_33 : decode cX5_isCalled 33 = .ok (.iconst 1, 1) := by decide +kernel
theorem dX5_isCalled_34 : decode cX5_isCalled 34 = .ok (.goto 4, 3) := by decide +kernel
theorem dX5_isCalled_37 : decode cX5_isCalled 37 = .ok (.iconst 0, 1) := by decide +kernel
theorem dX5_isCalled_38 : decode cX5_isCalled 38 = .ok (.istore 6, 2) := by decide +kernel
theorem dX5_isCalled_40 : decode cX5_isCalled 40 = .ok (.iconst 0, 1) := by decide +kernel
theorem dX5_isCalled_41 : decode cX5_isCalled 41 = .ok (.istore 7, 2) := by decide +kernel
theorem dX5_isCalled_43 : decode cX5_isCalled 43 = .ok (.iload 7, 2) := by decide +kernel
theorem dX5_isCalled_45 : decode cX5_isCalled 45 = .ok (.aload_n 0, 1) := by decide +kernel
theorem dX5_isCalled_46 : decode cX5_isCalled 46 = .ok (.getfield 102, 3) := by decide +kernel
theorem dX5_isCalled_49 : decode cX5_isCalled 49 = .ok (.if_icmp .ge 57, 3) := by decide +kernel
theorem dX5_isCalled_52 : decode cX5_isCalled 52 = .ok (.iload 6, 2) := by decide +kernel
theorem dX5_isCalled_54 : decode cX5_isCalled 54 = .ok (.ifCond .eq 43, 3) := by decide +kernel
theorem dX5_isCalled_57 : decode cX5_isCalled 57 = .ok (.aload_n 0, 1) := by decide +kernel
theorem dX5_isCalled_58 : decode cX5_isCalled 58 = .ok (.getfield 47, 3) := by decide +kernel
theorem dX5_isCalled_61 : decode cX5_isCalled 61 = .ok (.iload 7, 2) := by decide +kernel
theorem dX5_isCalled_63 : decode cX5_isCalled 63 = .ok (.iaload, 1) := by decide +kernel
theorem dX5_isCalled_64 : decode cX5_isCalled 64 = .ok (.ifCond .ne 29, 3) := by decide +kernel
theorem dX5_isCalled_67 : decode cX5_isCalled 67 = .ok (.aload_n 0, 1) := by decide +kernel
theorem dX5_isCalled_68 : decode cX5_isCalled 68 = .ok (.getfield 32, 3) := by decide +kernel
theorem dX5_isCalled_71 : decode cX5_isCalled 71 = .ok (.iload 7, 2) := by decide +kernel
theorem dX5_isCalled_73 : decode cX5_isCalled 73 = .ok (.iaload, 1) := by decide +kernel
theorem dX5_isCalled_74 : decode cX5_isCalled 74 = .ok (.iload_n 1, 1) := by decide +kernel
theorem dX5_isCalled_75 : decode cX5_isCalled 75 = .ok (.if_icmp .ne 18, 3) := by decide +kernel
theorem dX5_isCalled_78 : decode cX5_isCalled 78 = .ok (.aload_n 0, 1) := by decide +kernel
theorem dX5_isCalled_79 : decode cX5_isCalled 79 = .ok (.aload_n 0, 1) := by decide +kernel
theorem dX5_isCalled_80 : decode cX5_isCalled 80 = .ok (.getfield 35, 3) := by decide +kernel
theorem dX5_isCalled_83 : decode cX5_isCalled 83 = .ok (.iload 7, 2) := by decide +kernel
theorem dX5_isCalled_85 : decode cX5_isCalled 85 = .ok (.iaload, 1) := by decide +kernel
theorem dX5_isCalled_86 : decode cX5_isCalled 86 = .ok (.iload_n 2, 1) := by decide +kernel
theorem dX5_isCalled_87 : decode cX5_isCalled 87 = .ok (.invokevirtual 166, 3) := by decide +kernel
theorem dX5_isCalled_90 : decode cX5_isCalled 90 = .ok (.ifCond .ne 7, 3) := by decide +kernel
theorem dX5_isCalled_93 : decode cX5_isCalled 93 = .ok (.iconst 1, 1) := by decide +kernel
theorem dX5_isCalled_94 : decode cX5_isCalled 94 = .ok (.goto 4, 3) := by decide +kernel
theorem dX5_isCalled_97 : decode cX5_isCalled 97 = .ok (.iconst 0, 1) := by decide +kernel
theorem dX5_isCalled_98 : decode cX5_isCalled 98 = .ok (.istore 6, 2) := by decide +kernel
theorem dX5_isCalled_100 : decode cX5_isCalled 100 = .ok (.iinc 7 1, 3) := by decide +kernel
theorem dX5_isCalled_103 : decode cX5_isCalled 103 = .ok (.goto (-60), 3) := by decide +kernel
theorem dX5_isCalled_106 : decode cX5_isCalled 106 = .ok (.iload 6, 2) := by decide +kernel
theorem dX5_isCalled_108 : decode cX5_isCalled 108 = .ok (.ireturn, 1) := by decide +kernel
set_option maxRecDepth 20000 in
theorem ggX5_isCall_X5_in : GoodIn wsX5_isCall wsX5_in := goodIn_r _ [7] (by decide +kernel) (by decide +kernel)
set_option maxRecDepth 20000 in
theorem gX5_isCall_X5_in : GoodIn wsX5_isCall (va_wsS RX5 66 yX5_in wsX5_in) := goodIn_app (goodIn_of _ (by decide +kernel)) ggX5_isCall_X5_in
theorem dX5_isCall_0 : decode cX5_isCall 0 = .ok (.iload_n 0, 1) := by decide +kernel
theorem dX5_isCall_1 : decode cX5_isCall 1 = .ok (.i2l, 1) := by decide +kernel
theorem dX5_isCall_2 : decode cX5_isCall 2 = .ok (.lconst 0, 1) := by decide +kernel
theorem dX5_isCall_3 : decode cX5_isCall 3 = .ok (.ldc2_w 109, 3) := by decide +kernel
theorem dX5_isCall_6 : decode cX5_isCall 6 = .ok (.invokestatic 66, 3) := by decide +kernel
theorem dX5_isCall_9 : decode cX5_isCall 9 = .ok (.ifCond .eq 44, 3) := by decide +kernel
theorem dX5_isCall_12 : decode cX5_isCall 12 = .ok (.iload_n 1, 1) := by decide +kernel
theorem dX5_isCall_13 : decode cX5_isCall 13 = .ok (.i2l, 1) := by decide +kernel
theorem dX5_isCall_14 : decode cX5_isCall 14 = .ok (.lconst 1, 1) := by decide +kernel
theorem dX5_isCall_15 : decode cX5_isCall 15 = .ok (.ldc2_w 183, 3) := by decide +kernel
theorem dX5_isCall_18 : decode cX5_isCall 18 = .ok (.invokestatic 66, 3) := by decide +kernel
theorem dX5_isCall_21 : decode cX5_isCall 21 = .ok (.ifCond .eq 32, 3) := by decide +kernel
theorem dX5_isCall_24 : decode cX5_isCall 24 = .ok (.iload_n 2, 1) := by decide +kernel
theorem dX5_isCall_25 : decode cX5_isCall 25 = .ok (.i2l, 1) := by decide +kernel
theorem dX5_isCall_26 : decode cX5_isCall 26 = .ok (.lconst 0, 1) := by decide +kernel
theorem dX5_isCall_27 : decode cX5_isCall 27 = .ok (.ldc2_w 75, 3) := by decide +kernel
theorem dX5_isCall_30 : decode cX5_isCall 30 = .ok (.invokestatic 66, 3) := by decide +kernel
theorem dX5_isCall_33 : decode cX5_isCall 33 = .ok (.ifCond .eq 20, 3) := by decide +kernel
theorem dX5_isCall_36 : decode cX5_isCall 36 = .ok (.iload_n 3, 1) := by decide +kernel
theorem dX5_isCall_37 : decode cX5_isCall 37 = .ok (.i2l, 1) := by decide +kernel
theorem dX5_isCall_38 : decode cX5_isCall 38 = .ok (.iload_n 2, 1) := by decide +kernel
theorem dX5_isCall_39 : decode cX5_isCall 39 = .ok (.i2l, 1) := by decide +kernel
theorem dX5_isCall_40 : decode cX5_isCall 40 = .ok (.ldc2_w 75, 3) := by decide +kernel
theorem dX5_isCall_43 : decode cX5_isCall 43 = .ok (.invokestatic 66, 3) := by decide +kernel
theorem dX5_isCall_46 : decode cX5_isCall 46 = .ok (.ifCond .eq 7, 3) := by decide +kernel
theorem dX5_isCall_49 : decode cX5_isCall 49 = .ok (.iconst 1, 1) := by decide +kernel
theorem dX5_isCall_50 : decode cX5_isCall 50 = .ok (.goto 4, 3) := by decide +kernel
theorem dX5_isCall_53 : decode cX5_isCall 53 = .ok (.iconst 0, 1) := by decide +kernel
theorem dX5_isCall_54 : decode cX5_isCall 54 = .ok (.ireturn, 1) := by decide +kernel
set_option maxRecDepth 20000 in
theorem ggX5_called_X5_isCall : GoodIn wsX5_called wsX5_isCall := goodIn_r _ [5, 6, 7, 8, 9, 10, 4, 11] (by decide +kernel) (by decide +kernel)
set_option maxRecDepth 20000 in
theorem gX5_called_X5_isCall : GoodIn wsX5_called (va_wsS RX5 185 yX5_isCall wsX5_isCall) := goodIn_app (goodIn_of _ (by decide +kernel)) ggX5_called_X5_isCall
set_option maxRecDepth 20000 in
theorem ggX5_called_X5_isCalled : GoodIn wsX5_called wsX5_isCalled := goodIn_r _ [15, 16, 17, 18, 19, 20, 21, 9, 10, 4, 11, 22, 23, 24, 25, 26, 27, 28, 29, 30, 31, 32, 33, 34, 35, 36, 37, 38, 39, 40, 41, 42, 43, 44, 45, 46, 47] (by decide +kernel) (by decide +kernel)
set_option maxRecDepth 20000 in
theorem gX5_called_X5_isCalled : GoodIn wsX5_called (wsV RX5 188 RX5 yX5_isCalled wsX5_isCalled) := goodIn_app (goodIn_of _ (by decide +kernel)) ggX5_called_X5_isCalled
theorem dX5_called_0 : decode cX5_called 0 = .ok (.iload_n 1, 1) := by decide +kernel
theorem dX5_called_1 : decode cX5_called 1 = .ok (.iload_n 2, 1) := by decide +kernel
theorem dX5_called_2 : decode cX5_called 2 = .ok (.iload_n 3, 1) := by decide +kernel
theorem dX5_called_3 : decode cX5_called 3 = .ok (.iload 4, 2) := by decide +kernel
theorem dX5_called_5 : decode cX5_called 5 = .ok (.invokestatic 185, 3) := by decide +kernel
theorem dX5_called_8 : decode cX5_called 8 = .ok (.ifCond .ne 6, 3) := by decide +kernel
theorem dX5_called_11 : decode cX5_called 11 = .ok (.bipush (-2), 2) := by decide +kernel
theorem dX5_called_13 : decode cX5_called 13 = .ok (.ireturn, 1) := by decide +kernel
theorem dX5_called_14 : decode cX5_called 14 = .ok (.iconst 0, 1) := by decide +kernel
theorem dX5_called_15 : decode cX5_called 15 = .ok (.istore 5, 2) := by decide +kernel
theorem dX5_called_17 : decode cX5_called 17 = .ok (.iconst 0, 1) := by decide +kernel
theorem dX5_called_18 : decode cX5_called 18 = .ok (.istore 6, 2) := by decide +kernel
theorem dX5_called_20 : decode cX5_called 20 = .ok (.iload 6, 2) := by decide +kernel
theorem dX5_called_22 : decode cX5_called 22 = .ok (.aload_n 0, 1) := by decide +kernel
theorem dX5_called_23 : decode cX5_called 23 = .ok (.getfield 70, 3) := by decide +kernel
theorem dX5_called_26 : decode cX5_called 26 = .ok (.if_icmp .ge 33, 3) := by decide +kernel
theorem dX5_called_29 : decode cX5_called 29 = .ok (.iload 5, 2) := by decide +kernel
theorem dX5_called_31 : decode cX5_called 31 = .ok (.aload_n 0, 1) := by decide +kernel
theorem dX5_called_32 : decode cX5_called 32 = .ok (.iload 6, 2) := by decide +kernel
theorem dX5_called_34 : decode cX5_called 34 = .ok (.iload_n 1, 1) := by decide +kernel
theorem dX5_called_35 : decode cX5_called 35 = .ok (.iload_n 2, 1) := by decide +kernel
theorem dX5_called_36 : decode cX5_called 36 = .ok (.iload_n 3, 1) := by decide +kernel
theorem dX5_called_37 : decode cX5_called 37 = .ok (.iload 4, 2) := by decide +kernel
theorem dX5_called_39 : decode cX5_called 39 = .ok (.invokevirtual 188, 3) := by decide +kernel
theorem dX5_called_42 : decode cX5_called 42 = .ok (.ifCond .eq 7, 3) := by decide +kernel
theorem dX5_called_45 : decode cX5_called 45 = .ok (.iconst 1, 1) := by decide +kernel
theorem dX5_called_46 : decode cX5_called 46 = .ok (.goto 4, 3) := by decide +kernel
theorem dX5_called_49 : decode cX5_called 49 = .ok (.iconst 0, 1) := by decide +kernel
theorem dX5_called_50 : decode cX5_called 50 = .ok (.iadd, 1) := by decide +kernel
theorem dX5_called_51 : decode cX5_called 51 = .ok (.istore 5, 2) := by decide +kernel
theorem dX5_called_53 : decode cX5_called 53 = .ok (.iinc 6 1, 3) := by decide +kernel
theorem dX5_called_56 : decode cX5_called 56 = .ok (.goto (-36), 3) := by decide +kernel
theorem dX5_called_59 : decode cX5_called 59 = .ok (.iload 5, 2) := by decide +kernel
theorem dX5_called_61 : decode cX5_called 61 = .ok (.ireturn, 1) := by decide +kernel
set_option maxRecDepth 20000 in
theorem ggX5_calledAt_X5_isCall : GoodIn wsX5_calledAt wsX5_isCall := goodIn_r _ [5, 6, 7, 8, 9, 10, 4, 11] (by decide +kernel) (by decide +kernel)
set_option maxRecDepth 20000 in
theorem gX5_calledAt_X5_isCall : GoodIn wsX5_calledAt (va_wsS RX5 185 yX5_isCall wsX5_isCall) := goodIn_app (goodIn_of _ (by decide +kernel)) ggX5_calledAt_X5_isCall
set_option maxRecDepth 20000 in
theorem ggX5_calledAt_X5_isCalled : GoodIn wsX5_calledAt wsX5_isCalled := goodIn_r _ [15, 16, 17, 18, 19, 20, 21, 9, 10, 4, 11, 22, 23, 24, 25, 26, 27, 28, 29, 30, 31, 32, 33, 34, 35, 36, 37, 38, 39, 40, 41, 42, 43, 44, 45, 46, 47] (by decide +kernel) (by decide +kernel)
set_option maxRecDepth 20000 in
theorem gX5_calledAt_X5_isCalled : GoodIn wsX5_calledAt (wsV RX5 188 RX5 yX5_isCalled wsX5_isCalled) := goodIn_app (goodIn_of _ (by decide +kernel)) ggX5_calledAt_X5_isCalled
theorem dX5_calledAt_0 : decode cX5_calledAt 0 = .ok (.iload_n 1, 1) := by decide +kernel
theorem dX5_calledAt_1 : decode cX5_calledAt 1 = .ok (.iload_n 2, 1) := by decide +kernel
theorem dX5_calledAt_2 : decode cX5_calledAt 2 = .ok (.iload_n 3, 1) := by decide +kernel
theorem dX5_calledAt_3 : decode cX5_calledAt 3 = .ok (.iload 4, 2) := by decide +kernel
theorem dX5_calledAt_5 : decode cX5_calledAt 5 = .ok (.invokestatic 185, 3) := by decide +kernel
theorem dX5_calledAt_8 : decode cX5_calledAt 8 = .ok (.ifCond .eq 8, 3) := by decide +kernel
theorem dX5_calledAt_11 : decode cX5_calledAt 11 = .ok (.iload 5, 2) := by decide +kernel
theorem dX5_calledAt_13 : decode cX5_calledAt 13 = .ok (.ifCond .ge 6, 3) := by decide +kernel
theorem dX5_calledAt_16 : decode cX5_calledAt 16 = .ok (.bipush (-2), 2) := by decide +kernel
theorem dX5_calledAt_18 : decode cX5_calledAt 18 = .ok (.ireturn, 1) := by decide +kernel
theorem dX5_calledAt_19 : decode cX5_calledAt 19 = .ok (.iconst 0, 1) := by decide +kernel
theorem dX5_calledAt_20 : decode cX5_calledAt 20 = .ok (.istore 6, 2) := by decide +kernel
theorem dX5_calledAt_22 : decode cX5_calledAt 22 = .ok (.iconst (-1), 1) := by decide +kernel
theorem dX5_calledAt_23 : decode cX5_calledAt 23 = .ok (.istore 7, 2) := by decide +kernel
theorem dX5_calledAt_25 : decode cX5_calledAt 25 = .ok (.iconst 0, 1) := by decide +kernel
theorem dX5_calledAt_26 : decode cX5_calledAt 26 = .ok (.istore 8, 2) := by decide +kernel
theorem dX5_calledAt_28 : decode cX5_calledAt 28 = .ok (.iload 8, 2) := by decide +kernel
theorem dX5_calledAt_30 : decode cX5_calledAt 30 = .ok (.aload_n 0, 1) := by decide +kernel
theorem dX5_calledAt_31 : decode cX5_calledAt 31 = .ok (.getfield 70, 3) := by decide +kernel
theorem dX5_calledAt_34 : decode cX5_calledAt 34 = .ok (.if_icmp .ge 42, 3) := by decide +kernel
theorem dX5_calledAt_37 : decode cX5_calledAt 37 = .ok (.aload_n 0, 1) := by decide +kernel
theorem dX5_calledAt_38 : decode cX5_calledAt 38 = .ok (.iload 8, 2) := by decide +kernel
theorem dX5_calledAt_40 : decode cX5_calledAt 40 = .ok (.iload_n 1, 1) := by decide +kernel
theorem dX5_calledAt_41 : decode cX5_calledAt 41 = .ok (.iload_n 2, 1) := by decide +kernel
theorem dX5_calledAt_42 : decode cX5_calledAt 42 = .ok (.iload_n 3, 1) := by decide +kernel
theorem dX5_calledAt_43 : decode cX5_calledAt 43 = .ok (.iload 4, 2) := by decide +kernel
theorem dX5_calledAt_45 : decode cX5_calledAt 45 = .ok (.invokevirtual 188, 3) := by decide +kernel
theorem dX5_calledAt_48 : decode cX5_calledAt 48 = .ok (.ifCond .eq 22, 3) := by decide +kernel
theorem dX5_calledAt_51 : decode cX5_calledAt 51 = .ok (.iload 6, 2) := by decide +kernel
theorem dX5_calledAt_53 : decode cX5_calledAt 53 = .ok (.iload 5, 2) := by decide +kernel
theorem dX5_calledAt_55 : decode cX5_calledAt 55 = .ok (.if_icmp .ne 8, 3) := by decide +kernel
theorem dX5_calledAt_58 : decode cX5_calledAt 58 = .ok (.iload 8, 2) := by decide +kernel
theorem dX5_calledAt_60 : decode cX5_calledAt 60 = .ok (.goto 5, 3) := by decide +kernel
theorem dX5_calledAt_63 : decode cX5_calledAt 63 = .ok (.iload 7, 2) := by decide +kernel
theorem dX5_calledAt_65 : decode cX5_calledAt 65 = .ok (.istore 7, 2) := by decide +kernel
theorem dX5_calledAt_67 : decode cX5_calledAt 67 = .ok (.iinc 6 1, 3) := by decide +kernel
theorem dX5_calledAt_70 : decode cX5_calledAt 70 = .ok (.iinc 8 1, 3) := by decide +kernel
theorem dX5_calledAt_73 : decode cX5_calledAt 73 = .ok (.goto (-45), 3) := by decide +kernel
theorem dX5_calledAt_76 : decode cX5_calledAt 76 = .ok (.iload 7, 2) := by decide +kernel
theorem dX5_calledAt_78 : decode cX5_calledAt 78 = .ok (.ireturn, 1) := by decide +kernel
theorem dX5_judgedAs_0 : decode cX5_judgedAs 0 = .ok (.iconst 0, 1) := by decide +kernel
theorem dX5_judgedAs_1 : decode cX5_judgedAs 1 = .ok (.istore_n 2, 1) := by decide +kernel
theorem dX5_judgedAs_2 : decode cX5_judgedAs 2 = .ok (.iconst 0, 1) := by decide +kernel
theorem dX5_judgedAs_3 : decode cX5_judgedAs 3 = .ok (.istore_n 3, 1) := by decide +kernel
theorem dX5_judgedAs_4 : decode cX5_judgedAs 4 = .ok (.iload_n 3, 1) := by decide +kernel
theorem dX5_judgedAs_5 : decode cX5_judgedAs 5 = .ok (.aload_n 0, 1) := by decide +kernel
theorem dX5_judgedAs_6 : decode cX5_judgedAs 6 = .ok (.getfield 102, 3) := by decide +kernel
theorem dX5_judgedAs_9 : decode cX5_judgedAs 9 = .ok (.if_icmp .ge 27, 3) := by decide +kernel
theorem dX5_judgedAs_12 : decode cX5_judgedAs 12 = .ok (.iload_n 2, 1) := by decide +kernel
theorem dX5_judgedAs_13 : decode cX5_judgedAs 13 = .ok (.aload_n 0, 1) := by decide +kernel
theorem dX5_judgedAs_14 : decode cX5_judgedAs 14 = .ok (.getfield 47, 3) := by decide +kernel
theorem dX5_judgedAs_17 : decode cX5_judgedAs 17 = .ok (.iload_n 3, 1) := by decide +kernel
theorem dX5_judgedAs_18 : decode cX5_judgedAs 18 = .ok (.iaload, 1) := by decide +kernel
theorem dX5_judgedAs_19 : decode cX5_judgedAs 19 = .ok (.iload_n 1, 1) := by decide +kernel
theorem dX5_judgedAs_20 : decode cX5_judgedAs 20 = .ok (.if_icmp .ne 7, 3) := by decide +kernel
theorem dX5_judgedAs_23 : decode cX5_judgedAs 23 = .ok (.iconst 1, 1) := by decide +kernel
theorem dX5_judgedAs_24 : decode cX5_judgedAs 24 = .ok (.goto 4, 3) := by decide +kernel
theorem dX5_judgedAs_27 : decode cX5_judgedAs 27 = .ok (.iconst 0, 1) := by decide +kernel
theorem dX5_judgedAs_28 : decode cX5_judgedAs 28 = .ok (.iadd, 1) := by decide +kernel
theorem dX5_judgedAs_29 : decode cX5_judgedAs 29 = .ok (.istore_n 2, 1) := by decide +kernel
theorem dX5_judgedAs_30 : decode cX5_judgedAs 30 = .ok (.iinc 3 1, 3) := by decide +kernel
theorem dX5_judgedAs_33 : decode cX5_judgedAs 33 = .ok (.goto (-29), 3) := by decide +kernel
theorem dX5_judgedAs_36 : decode cX5_judgedAs 36 = .ok (.iload_n 2, 1) := by decide +kernel
theorem dX5_judgedAs_37 : decode cX5_judgedAs 37 = .ok (.ireturn, 1) := by decide +kernel
theorem dX5_thingsWithClaims_0 : decode cX5_thingsWithClaims 0 = .ok (.iconst 0, 1) := by decide +kernel
theorem dX5_thingsWithClaims_1 : decode cX5_thingsWithClaims 1 = .ok (.istore_n 1, 1) := by decide +kernel
theorem dX5_thingsWithClaims_2 : decode cX5_thingsWithClaims 2 = .ok (.iconst 0, 1) := by decide +kernel
theorem dX5_thingsWithClaims_3 : decode cX5_thingsWithClaims 3 = .ok (.istore_n 2, 1) := by decide +kernel
theorem dX5_thingsWithClaims_4 : decode cX5_thingsWithClaims 4 = .ok (.iload_n 2, 1) := by decide +kernel
theorem dX5_thingsWithClaims_5 : decode cX5_thingsWithClaims 5 = .ok (.aload_n 0, 1) := by decide +kernel
theorem dX5_thingsWithClaims_6 : decode cX5_thingsWithClaims 6 = .ok (.getfield 70, 3) := by decide +kernel
theorem dX5_thingsWithClaims_9 : decode cX5_thingsWithClaims 9 = .ok (.if_icmp .ge 72, 3) := by decide +kernel
theorem dX5_thingsWithClaims_12 : decode cX5_thingsWithClaims 12 = .ok (.iconst 0, 1) := by decide +kernel
theorem dX5_thingsWithClaims_13 : decode cX5_thingsWithClaims 13 = .ok (.istore_n 3, 1) := by decide +kernel
theorem dX5_thingsWithClaims_14 : decode cX5_thingsWithClaims 14 = .ok (.iconst 0, 1) := by decide +kernel
theorem dX5_thingsWithClaims_15 : decode cX5_thingsWithClaims 15 = .ok (.istore 4, 2) := by decide +kernel
theorem dX5_thingsWithClaims_17 : decode cX5_thingsWithClaims 17 = .ok (.iload 4, 2) := by decide +kernel
theorem dX5_thingsWithClaims_19 : decode cX5_thingsWithClaims 19 = .ok (.aload_n 0, 1) := by decide +kernel
theorem dX5_thingsWithClaims_20 : decode cX5_thingsWithClaims 20 = .ok (.getfield 102, 3) := by decide +kernel
theorem dX5_thingsWithClaims_23 : decode cX5_thingsWithClaims 23 = .ok (.if_icmp .ge 40, 3) := by decide +kernel
theorem dX5_thingsWithClaims_26 : decode cX5_thingsWithClaims 26 = .ok (.iload_n 3, 1) := by decide +kernel
theorem dX5_thingsWithClaims_27 : decode cX5_thingsWithClaims 27 = .ok (.ifCond .ne 24, 3) := by decide +kernel
theorem dX5_thingsWithClaims_30 : decode cX5_thingsWithClaims 30 = .ok (.aload_n 0, 1) := by decide +kernel
theorem dX5_thingsWithClaims_31 : decode cX5_thingsWithClaims 31 = .ok (.getfield 47, 3) := by decide +kernel
theorem dX5_thingsWithClaims_34 : decode cX5_thingsWithClaims 34 = .ok (.iload 4, 2) := by decide +kernel
theorem dX5_thingsWithClaims_36 : decode cX5_thingsWithClaims 36 = .ok (.iaload, 1) := by decide +kernel
theorem dX5_thingsWithClaims_37 : decode cX5_thingsWithClaims 37 = .ok (.ifCond .ne 18, 3) := by decide +kernel
theorem dX5_thingsWithClaims_40 : decode cX5_thingsWithClaims 40 = .ok (.aload_n 0, 1) := by decide +kernel
theorem dX5_thingsWithClaims_41 : decode cX5_thingsWithClaims 41 = .ok (.getfield 32, 3) := by decide +kernel
theorem dX5_thingsWithClaims_44 : decode cX5_thingsWithClaims 44 = .ok (.iload 4, 2) := by decide +kernel
theorem dX5_thingsWithClaims_46 : decode cX5_thingsWithClaims 46 = .ok (.iaload, 1) := by decide +kernel
theorem dX5_thingsWithClaims_47 : decode cX5_thingsWithClaims 47 = .ok (.iload_n 2, 1) := by decide +kernel
theorem dX5_thingsWithClaims_48 : decode cX5_thingsWithClaims 48 = .ok (.if_icmp .ne 7, 3) := by decide +kernel
theorem dX5_thingsWithClaims_51 : decode cX5_thingsWithClaims 51 = .ok (.iconst 1, 1) := by decide +kernel
theorem dX5_thingsWithClaims_52 : decode cX5_thingsWithClaims 52 = .ok (.goto 4, 3) := by decide +kernel
theorem dX5_thingsWithClaims_55 : decode cX5_thingsWithClaims 55 = .ok (.iconst 0, 1) := by decide +kernel
theorem dX5_thingsWithClaims_56 : decode cX5_thingsWithClaims 56 = .ok (.istore_n 3, 1) := by decide +kernel
theorem dX5_thingsWithClaims_57 : decode cX5_thingsWithClaims 57 = .ok (.iinc 4 1, 3) := by decide +kernel
theorem dX5_thingsWithClaims_60 : decode cX5_thingsWithClaims 60 = .ok (.goto (-43), 3) := by decide +kernel
theorem dX5_thingsWithClaims_63 : decode cX5_thingsWithClaims 63 = .ok (.iload_n 1, 1) := by decide +kernel
theorem dX5_thingsWithClaims_64 : decode cX5_thingsWithClaims 64 = .ok (.iload_n 3, 1) := by decide +kernel
theorem dX5_thingsWithClaims_65 : decode cX5_thingsWithClaims 65 = .ok (.ifCond .eq 7, 3) := by decide +kernel
theorem dX5_thingsWithClaims_68 : decode cX5_thingsWithClaims 68 = .ok (.iconst 1, 1) := by decide +kernel
theorem dX5_thingsWithClaims_69 : decode cX5_thingsWithClaims 69 = .ok (.goto 4, 3) := by decide +kernel
theorem dX5_thingsWithClaims_72 : decode cX5_thingsWithClaims 72 = .ok (.iconst 0, 1) := by decide +kernel
theorem dX5_thingsWithClaims_73 : decode cX5_thingsWithClaims 73 = .ok (.iadd, 1) := by decide +kernel
theorem dX5_thingsWithClaims_74 : decode cX5_thingsWithClaims 74 = .ok (.istore_n 1, 1) := by decide +kernel
theorem dX5_thingsWithClaims_75 : decode cX5_thingsWithClaims 75 = .ok (.iinc 2 1, 3) := by decide +kernel
theorem dX5_thingsWithClaims_78 : decode cX5_thingsWithClaims 78 = .ok (.goto (-74), 3) := by decide +kernel
theorem dX5_thingsWithClaims_81 : decode cX5_thingsWithClaims 81 = .ok (.iload_n 1, 1) := by decide +kernel
theorem dX5_thingsWithClaims_82 : decode cX5_thingsWithClaims 82 = .ok (.ireturn, 1) := by decide +kernel
set_option maxRecDepth 20000 in
theorem ggX5_count_X5_judgedAs : GoodIn wsX5_count wsX5_judgedAs := goodIn_r _ [7, 2, 8, 19, 20, 21, 22, 23, 24, 25, 26, 27, 28, 29, 30, 31, 32, 33, 34, 35, 36, 37, 38, 39] (by decide +kernel) (by decide +kernel)
set_option maxRecDepth 20000 in
theorem gX5_count_X5_judgedAs : GoodIn wsX5_count (wsV RX5 192 RX5 yX5_judgedAs wsX5_judgedAs) := goodIn_app (goodIn_of _ (by decide +kernel)) ggX5_count_X5_judgedAs
set_option maxRecDepth 20000 in
theorem ggX5_count_X5_thingsWithClaims : GoodIn wsX5_count wsX5_thingsWithClaims := goodIn_r _ [12, 1, 2, 8, 13, 19, 20, 21, 22, 23, 24, 25, 26, 27, 28, 29, 30, 31, 32, 33, 34, 35, 36, 37, 38, 39] (by decide +kernel) (by decide +kernel)
set_option maxRecDepth 20000 in
theorem gX5_count_X5_thingsWithClaims : GoodIn wsX5_count (wsV RX5 195 RX5 yX5_thingsWithClaims wsX5_thingsWithClaims) := goodIn_app (goodIn_of _ (by decide +kernel)) ggX5_count_X5_thingsWithClaims
set_option maxRecDepth 20000 in
theorem ggX5_count_X5_letCosts : GoodIn wsX5_count wsX5_letCosts := goodIn_r _ [17, 2, 8, 18, 19, 20, 21, 22, 23, 24, 25, 26, 27, 28, 29, 30, 31, 32, 33, 34, 35, 36, 37, 38, 39] (by decide +kernel) (by decide +kernel)
set_option maxRecDepth 20000 in
theorem gX5_count_X5_letCosts : GoodIn wsX5_count (wsV RX5 179 RX5 yX5_letCosts wsX5_letCosts) := goodIn_app (goodIn_of _ (by decide +kernel)) ggX5_count_X5_letCosts
theorem dX5_count_0 : decode cX5_count 0 = .ok (.iload_n 1, 1) := by decide +kernel
theorem dX5_count_1 : decode cX5_count 1 = .ok (.tableswitch 101 0 8 #[51, 56, 61, 67, 73, 79, 85, 91, 96], 51) := by decide +kernel
theorem dX5_count_52 : decode cX5_count 52 = .ok (.aload_n 0, 1) := by decide +kernel
theorem dX5_count_53 : decode cX5_count 53 = .ok (.getfield 70, 3) := by decide +kernel
theorem dX5_count_56 : decode cX5_count 56 = .ok (.ireturn, 1) := by decide +kernel
theorem dX5_count_57 : decode cX5_count 57 = .ok (.aload_n 0, 1) := by decide +kernel
theorem dX5_count_58 : decode cX5_count 58 = .ok (.getfield 102, 3) := by decide +kernel
theorem dX5_count_61 : decode cX5_count 61 = .ok (.ireturn, 1) := by decide +kernel
theorem dX5_count_62 : decode cX5_count 62 = .ok (.aload_n 0, 1) := by decide +kernel
theorem dX5_count_63 : decode cX5_count 63 = .ok (.iconst 0, 1) := by decide +kernel
theorem dX5_count_64 : decode cX5_count 64 = .ok (.invokevirtual 192, 3) := by decide +kernel
theorem dX5_count_67 : decode cX5_count 67 = .ok (.ireturn, 1) := by decide +kernel
theorem dX5_count_68 : decode cX5_count 68 = .ok (.aload_n 0, 1) := by decide +kernel
theorem dX5_count_69 : decode cX5_count 69 = .ok (.iconst 1, 1) := by decide +kernel
theorem dX5_count_70 : decode cX5_count 70 = .ok (.invokevirtual 192, 3) := by decide +kernel
theorem dX5_count_73 : decode cX5_count 73 = .ok (.ireturn, 1) := by decide +kernel
theorem dX5_count_74 : decode cX5_count 74 = .ok (.aload_n 0, 1) := by decide +kernel
theorem dX5_count_75 : decode cX5_count 75 = .ok (.iconst 2, 1) := by decide +kernel
theorem dX5_count_76 : decode cX5_count 76 = .ok (.invokevirtual 192, 3) := by decide +kernel
theorem dX5_count_79 : decode cX5_count 79 = .ok (.ireturn, 1) := by decide +kernel
theorem dX5_count_80 : decode cX5_count 80 = .ok (.aload_n 0, 1) := by decide +kernel
theorem dX5_count_81 : decode cX5_count 81 = .ok (.iconst 3, 1) := by decide +kernel
theorem dX5_count_82 : decode cX5_count 82 = .ok (.invokevirtual 192, 3) := by decide +kernel
theorem dX5_count_85 : decode cX5_count 85 = .ok (.ireturn, 1) := by decide +kernel
theorem dX5_count_86 : decode cX5_count 86 = .ok (.aload_n 0, 1) := by decide +kernel
theorem dX5_count_87 : decode cX5_count 87 = .ok (.iconst 4, 1) := by decide +kernel
theorem dX5_count_88 : decode cX5_count 88 = .ok (.invokevirtual 192, 3) := by decide +kernel
theorem dX5_count_91 : decode cX5_count 91 = .ok (.ireturn, 1) := by decide +kernel
theorem dX5_count_92 : decode cX5_count 92 = .ok (.aload_n 0, 1) := by decide +kernel
theorem dX5_count_93 : decode cX5_count 93 = .ok (.invokevirtual 195, 3) := by decide +kernel
theorem dX5_count_96 : decode cX5_count 96 = .ok (.ireturn, 1) := by decide +kernel
theorem dX5_count_97 : decode cX5_count 97 = .ok (.aload_n 0, 1) := by decide +kernel
theorem dX5_count_98 : decode cX5_count 98 = .ok (.invokevirtual 179, 3) := by decide +kernel
theorem dX5_count_101 : decode cX5_count 101 = .ok (.ireturn, 1) := by decide +kernel
theorem dX5_count_102 : decode cX5_count 102 = .ok (.bipush (-2), 2) := by decide +kernel
theorem dX5_count_104 : decode cX5_count 104 = .ok (.ireturn, 1) := by decide +kernel
set_option maxRecDepth 20000 in
theorem ggX5_digest_X5_count : GoodIn wsX5_digest wsX5_count := goodIn_r _ [16, 3, 8, 17, 18, 19, 15, 20, 21, 22, 23, 24, 25, 26, 27, 28, 29, 30, 31, 49, 50, 51, 52, 53, 54, 55, 56, 57, 58, 59, 60, 61, 62, 63, 64, 65, 66, 67, 68, 69] (by decide +kernel) (by decide +kernel)
set_option maxRecDepth 20000 in
theorem gX5_digest_X5_count : GoodIn wsX5_digest (wsV RX5 202 RX5 yX5_count wsX5_count) := goodIn_app (goodIn_of _ (by decide +kernel)) ggX5_digest_X5_count
end
section
set_option maxRecDepth 20000 in
theorem ggX5_digest_X5_lastOf : GoodIn wsX5_digest wsX5_lastOf := goodIn_r _ [35, 5, 36, 37, 38, 15, 39, 40, 7, 6, 41, 49, 50, 51, 52, 53, 54, 55, 56, 57, 58, 59, 60, 61, 62, 63, 64, 65, 66, 67, 68, 69] (by decide +kernel) (by decide +kernel)
set_option maxRecDepth 20000 in
theorem gX5_digest_X5_lastOf : GoodIn wsX5_digest (wsV RX5 98 RX5 yX5_lastOf wsX5_lastOf) := goodIn_app (goodIn_of _ (by decide +kernel)) ggX5_digest_X5_lastOf
set_option maxRecDepth 20000 in
theorem ggX5_digest_X5_aboutOf : GoodIn wsX5_digest wsX5_aboutOf := goodIn_r _ [45, 26, 46, 47, 48, 31, 21, 49, 50, 51, 52, 53, 54, 55, 56, 57, 58, 59, 60, 61, 62, 63, 64, 65, 66, 67, 68, 69] (by decide +kernel) (by decide +kernel)
set_option maxRecDepth 20000 in
theorem gX5_digest_X5_aboutOf : GoodIn wsX5_digest (wsV RX5 119 RX5 yX5_aboutOf wsX5_aboutOf) := goodIn_app (goodIn_of _ (by decide +kernel)) ggX5_digest_X5_aboutOf
theorem dX5_digest_0 : decode cX5_digest 0 = .ok (.ldc2_w 198, 3) := by decide +kernel
theorem dX5_digest_3 : decode cX5_digest 3 = .ok (.lstore_n 1, 1) := by decide +kernel
theorem dX5_digest_4 : decode cX5_digest 4 = .ok (.iconst 0, 1) := by decide +kernel
theorem dX5_digest_5 : decode cX5_digest 5 = .ok (.istore_n 3, 1) := by decide +kernel
theorem dX5_digest_6 : decode cX5_digest 6 = .ok (.iload_n 3, 1) := by decide +kernel
theorem dX5_digest_7 : decode cX5_digest 7 = .ok (.bipush 9, 2) := by decide +kernel
theorem dX5_digest_9 : decode cX5_digest 9 = .ok (.if_icmp .ge 22, 3) := by decide +kernel
theorem dX5_digest_12 : decode cX5_digest 12 = .ok (.ldc2_w 200, 3) := by decide +kernel
theorem dX5_digest_15 : decode cX5_digest 15 = .ok (.lload_n 1, 1) := by decide +kernel
theorem dX5_digest_16 : decode cX5_digest 16 = .ok (.lmul, 1) := by decide +kernel
theorem dX5_digest_17 : decode cX5_digest 17 = .ok (.aload_n 0, 1) := by decide +kernel
theorem dX5_digest_18 : decode cX5_digest 18 = .ok (.iload_n 3, 1) := by decide +kernel
theorem dX5_digest_19 : decode cX5_digest 19 = .ok (.invokevirtual 202, 3) := by decide +kernel
theorem dX5_digest_22 : decode cX5_digest 22 = .ok (.i2l, 1) := by decide +kernel
theorem dX5_digest_23 : decode cX5_digest 23 = .ok (.ladd, 1) := by decide +kernel
theorem dX5_digest_24 : decode cX5_digest 24 = .ok (.lstore_n 1, 1) := by decide +kernel
theorem dX5_digest_25 : decode cX5_digest 25 = .ok (.iinc 3 1, 3) := by decide +kernel
theorem dX5_digest_28 : decode cX5_digest 28 = .ok (.goto (-22), 3) := by decide +kernel
theorem dX5_digest_31 : decode cX5_digest 31 = .ok (.iconst 0, 1) := by decide +kernel
theorem dX5_digest_32 : decode cX5_digest 32 = .ok (.istore_n 3, 1) := by decide +kernel
theorem dX5_digest_33 : decode cX5_digest 33 = .ok (.iload_n 3, 1) := by decide +kernel
theorem dX5_digest_34 : decode cX5_digest 34 = .ok (.aload_n 0, 1) := by decide +kernel
theorem dX5_digest_35 : decode cX5_digest 35 = .ok (.getfield 70, 3) := by decide +kernel
theorem dX5_digest_38 : decode cX5_digest 38 = .ok (.if_icmp .ge 78, 3) := by decide +kernel
theorem dX5_digest_41 : decode cX5_digest 41 = .ok (.ldc2_w 200, 3) := by decide +kernel
theorem dX5_digest_44 : decode cX5_digest 44 = .ok (.lload_n 1, 1) := by decide +kernel
theorem dX5_digest_45 : decode cX5_digest 45 = .ok (.lmul, 1) := by decide +kernel
theorem dX5_digest_46 : decode cX5_digest 46 = .ok (.aload_n 0, 1) := by decide +kernel
theorem dX5_digest_47 : decode cX5_digest 47 = .ok (.getfield 16, 3) := by decide +kernel
theorem dX5_digest_50 : decode cX5_digest 50 = .ok (.iload_n 3, 1) := by decide +kernel
theorem dX5_digest_51 : decode cX5_digest 51 = .ok (.iaload, 1) := by decide +kernel
theorem dX5_digest_52 : decode cX5_digest 52 = .ok (.i2l, 1) := by decide +kernel
theorem dX5_digest_53 : decode cX5_digest 53 = .ok (.ladd, 1) := by decide +kernel
theorem dX5_digest_54 : decode cX5_digest 54 = .ok (.lstore_n 1, 1) := by decide +kernel
theorem dX5_digest_55 : decode cX5_digest 55 = .ok (.ldc2_w 200, 3) := by decide +kernel
theorem dX5_digest_58 : decode cX5_digest 58 = .ok (.lload_n 1, 1) := by decide +kernel
theorem dX5_digest_59 : decode cX5_digest 59 = .ok (.lmul, 1) := by decide +kernel
theorem dX5_digest_60 : decode cX5_digest 60 = .ok (.aload_n 0, 1) := by decide +kernel
theorem dX5_digest_61 : decode cX5_digest 61 = .ok (.getfield 19, 3) := by decide +kernel
theorem dX5_digest_64 : decode cX5_digest 64 = .ok (.iload_n 3, 1) := by decide +kernel
theorem dX5_digest_65 : decode cX5_digest 65 = .ok (.iaload, 1) := by decide +kernel
theorem dX5_digest_66 : decode cX5_digest 66 = .ok (.i2l, 1) := by decide +kernel
theorem dX5_digest_67 : decode cX5_digest 67 = .ok (.ladd, 1) := by decide +kernel
theorem dX5_digest_68 : decode cX5_digest 68 = .ok (.lstore_n 1, 1) := by decide +kernel
theorem dX5_digest_69 : decode cX5_digest 69 = .ok (.ldc2_w 200, 3) := by decide +kernel
theorem dX5_digest_72 : decode cX5_digest 72 = .ok (.lload_n 1, 1) := by decide +kernel
theorem dX5_digest_73 : decode cX5_digest 73 = .ok (.lmul, 1) := by decide +kernel
theorem dX5_digest_74 : decode cX5_digest 74 = .ok (.aload_n 0, 1) := by decide +kernel
theorem dX5_digest_75 : decode cX5_digest 75 = .ok (.getfield 22, 3) := by decide +kernel
theorem dX5_digest_78 : decode cX5_digest 78 = .ok (.iload_n 3, 1) := by decide +kernel
theorem dX5_digest_79 : decode cX5_digest 79 = .ok (.iaload, 1) := by decide +kernel
theorem dX5_digest_80 : decode cX5_digest 80 = .ok (.i2l, 1) := by decide +kernel
theorem dX5_digest_81 : decode cX5_digest 81 = .ok (.ladd, 1) := by decide +kernel
theorem dX5_digest_82 : decode cX5_digest 82 = .ok (.lstore_n 1, 1) := by decide +kernel
theorem dX5_digest_83 : decode cX5_digest 83 = .ok (.ldc2_w 200, 3) := by decide +kernel
theorem dX5_digest_86 : decode cX5_digest 86 = .ok (.lload_n 1, 1) := by decide +kernel
theorem dX5_digest_87 : decode cX5_digest 87 = .ok (.lmul, 1) := by decide +kernel
theorem dX5_digest_88 : decode cX5_digest 88 = .ok (.aload_n 0, 1) := by decide +kernel
theorem dX5_digest_89 : decode cX5_digest 89 = .ok (.getfield 25, 3) := by decide +kernel
theorem dX5_digest_92 : decode cX5_digest 92 = .ok (.iload_n 3, 1) := by decide +kernel
theorem dX5_digest_93 : decode cX5_digest 93 = .ok (.iaload, 1) := by decide +kernel
theorem dX5_digest_94 : decode cX5_digest 94 = .ok (.i2l, 1) := by decide +kernel
theorem dX5_digest_95 : decode cX5_digest 95 = .ok (.ladd, 1) := by decide +kernel
theorem dX5_digest_96 : decode cX5_digest 96 = .ok (.lstore_n 1, 1) := by decide +kernel
theorem dX5_digest_97 : decode cX5_digest 97 = .ok (.ldc2_w 200, 3) := by decide +kernel
theorem dX5_digest_100 : decode cX5_digest 100 = .ok (.lload_n 1, 1) := by decide +kernel
theorem dX5_digest_101 : decode cX5_digest 101 = .ok (.lmul, 1) := by decide +kernel
theorem dX5_digest_102 : decode cX5_digest 102 = .ok (.aload_n 0, 1) := by decide +kernel
theorem dX5_digest_103 : decode cX5_digest 103 = .ok (.iload_n 3, 1) := by decide +kernel
theorem dX5_digest_104 : decode cX5_digest 104 = .ok (.invokevirtual 98, 3) := by decide +kernel
theorem dX5_digest_107 : decode cX5_digest 107 = .ok (.i2l, 1) := by decide +kernel
theorem dX5_digest_108 : decode cX5_digest 108 = .ok (.ladd, 1) := by decide +kernel
theorem dX5_digest_109 : decode cX5_digest 109 = .ok (.lstore_n 1, 1) := by decide +kernel
theorem dX5_digest_110 : decode cX5_digest 110 = .ok (.iinc 3 1, 3) := by decide +kernel
theorem dX5_digest_113 : decode cX5_digest 113 = .ok (.goto (-80), 3) := by decide +kernel
theorem dX5_digest_116 : decode cX5_digest 116 = .ok (.iconst 0, 1) := by decide +kernel
theorem dX5_digest_117 : decode cX5_digest 117 = .ok (.istore_n 3, 1) := by decide +kernel
theorem dX5_digest_118 : decode cX5_digest 118 = .ok (.iload_n 3, 1) := by decide +kernel
theorem dX5_digest_119 : decode cX5_digest 119 = .ok (.aload_n 0, 1) := by decide +kernel
theorem dX5_digest_120 : decode cX5_digest 120 = .ok (.getfield 102, 3) := by decide +kernel
theorem dX5_digest_123 : decode cX5_digest 123 = .ok (.if_icmp .ge 40, 3) := by decide +kernel
theorem dX5_digest_126 : decode cX5_digest 126 = .ok (.iconst 0, 1) := by decide +kernel
theorem dX5_digest_127 : decode cX5_digest 127 = .ok (.istore 4, 2) := by decide +kernel
theorem dX5_digest_129 : decode cX5_digest 129 = .ok (.iload 4, 2) := by decide +kernel
theorem dX5_digest_131 : decode cX5_digest 131 = .ok (.bipush 7, 2) := by decide +kernel
theorem dX5_digest_133 : decode cX5_digest 133 = .ok (.if_icmp .ge 24, 3) := by decide +kernel
theorem dX5_digest_136 : decode cX5_digest 136 = .ok (.ldc2_w 200, 3) := by decide +kernel
theorem dX5_digest_139 : decode cX5_digest 139 = .ok (.lload_n 1, 1) := by decide +kernel
theorem dX5_digest_140 : decode cX5_digest 140 = .ok (.lmul, 1) := by decide +kernel
theorem dX5_digest_141 : decode cX5_digest 141 = .ok (.aload_n 0, 1) := by decide +kernel
theorem dX5_digest_142 : decode cX5_digest 142 = .ok (.iload_n 3, 1) := by decide +kernel
theorem dX5_digest_143 : decode cX5_digest 143 = .ok (.iload 4, 2) := by decide +kernel
theorem dX5_digest_145 : decode cX5_digest 145 = .ok (.invokevirtual 119, 3) := by decide +kernel
theorem dX5_digest_148 : decode cX5_digest 148 = .ok (.i2l, 1) := by decide +kernel
theorem dX5_digest_149 : decode cX5_digest 149 = .ok (.ladd, 1) := by decide +kernel
theorem dX5_digest_150 : decode cX5_digest 150 = .ok (.lstore_n 1, 1) := by decide +kernel
theorem dX5_digest_151 : decode cX5_digest 151 = .ok (.iinc 4 1, 3) := by decide +kernel
theorem dX5_digest_154 : decode cX5_digest 154 = .ok (.goto (-25), 3) := by decide +kernel
theorem dX5_digest_157 : decode cX5_digest 157 = .ok (.iinc 3 1, 3) := by decide +kernel
theorem dX5_digest_160 : decode cX5_digest 160 = .ok (.goto (-42), 3) := by decide +kernel
theorem dX5_digest_163 : decode cX5_digest 163 = .ok (.iconst 0, 1) := by decide +kernel
theorem dX5_digest_164 : decode cX5_digest 164 = .ok (.istore_n 3, 1) := by decide +kernel
theorem dX5_digest_165 : decode cX5_digest 165 = .ok (.iload_n 3, 1) := by decide +kernel
theorem dX5_digest_166 : decode cX5_digest 166 = .ok (.bipush 10, 2) := by decide +kernel
theorem dX5_digest_168 : decode cX5_digest 168 = .ok (.if_icmp .ge 51, 3) := by decide +kernel
theorem dX5_digest_171 : decode cX5_digest 171 = .ok (.ldc2_w 200, 3) := by decide +kernel
theorem dX5_digest_174 : decode cX5_digest 174 = .ok (.lload_n 1, 1) := by decide +kernel
theorem dX5_digest_175 : decode cX5_digest 175 = .ok (.lmul, 1) := by decide +kernel
theorem dX5_digest_176 : decode cX5_digest 176 = .ok (.aload_n 0, 1) := by decide +kernel
theorem dX5_digest_177 : decode cX5_digest 177 = .ok (.getfield 54, 3) := by decide +kernel
theorem dX5_digest_180 : decode cX5_digest 180 = .ok (.iload_n 3, 1) := by decide +kernel
theorem dX5_digest_181 : decode cX5_digest 181 = .ok (.iaload, 1) := by decide +kernel
theorem dX5_digest_182 : decode cX5_digest 182 = .ok (.i2l, 1) := by decide +kernel
theorem dX5_digest_183 : decode cX5_digest 183 = .ok (.ladd, 1) := by decide +kernel
theorem dX5_digest_184 : decode cX5_digest 184 = .ok (.lstore_n 1, 1) := by decide +kernel
theorem dX5_digest_185 : decode cX5_digest 185 = .ok (.ldc2_w 200, 3) := by decide +kernel
theorem dX5_digest_188 : decode cX5_digest 188 = .ok (.lload_n 1, 1) := by decide +kernel
theorem dX5_digest_189 : decode cX5_digest 189 = .ok (.lmul, 1) := by decide +kernel
theorem dX5_digest_190 : decode cX5_digest 190 = .ok (.aload_n 0, 1) := by decide +kernel
theorem dX5_digest_191 : decode cX5_digest 191 = .ok (.getfield 57, 3) := by decide +kernel
theorem dX5_digest_194 : decode cX5_digest 194 = .ok (.iload_n 3, 1) := by decide +kernel
theorem dX5_digest_195 : decode cX5_digest 195 = .ok (.iaload, 1) := by decide +kernel
theorem dX5_digest_196 : decode cX5_digest 196 = .ok (.i2l, 1) := by decide +kernel
theorem dX5_digest_197 : decode cX5_digest 197 = .ok (.ladd, 1) := by decide +kernel
theorem dX5_digest_198 : decode cX5_digest 198 = .ok (.lstore_n 1, 1) := by decide +kernel
theorem dX5_digest_199 : decode cX5_digest 199 = .ok (.ldc2_w 200, 3) := by decide +kernel
theorem dX5_digest_202 : decode cX5_digest 202 = .ok (.lload_n 1, 1) := by decide +kernel
theorem dX5_digest_203 : decode cX5_digest 203 = .ok (.lmul, 1) := by decide +kernel
theorem dX5_digest_204 : decode cX5_digest 204 = .ok (.aload_n 0, 1) := by decide +kernel
theorem dX5_digest_205 : decode cX5_digest 205 = .ok (.getfield 60, 3) := by decide +kernel
theorem dX5_digest_208 : decode cX5_digest 208 = .ok (.iload_n 3, 1) := by decide +kernel
theorem dX5_digest_209 : decode cX5_digest 209 = .ok (.iaload, 1) := by decide +kernel
theorem dX5_digest_210 : decode cX5_digest 210 = .ok (.i2l, 1) := by decide +kernel
theorem dX5_digest_211 : decode cX5_digest 211 = .ok (.ladd, 1) := by decide +kernel
theorem dX5_digest_212 : decode cX5_digest 212 = .ok (.lstore_n 1, 1) := by decide +kernel
theorem dX5_digest_213 : decode cX5_digest 213 = .ok (.iinc 3 1, 3) := by decide +kernel
theorem dX5_digest_216 : decode cX5_digest 216 = .ok (.goto (-51), 3) := by decide +kernel
theorem dX5_digest_219 : decode cX5_digest 219 = .ok (.lload_n 1, 1) := by decide +kernel
theorem dX5_digest_220 : decode cX5_digest 220 = .ok (.lreturn, 1) := by decide +kernel
theorem dJ13_bitCount_95d88_0 : decode cJ13_bitCount_95d88 0 = .ok (.lload_n 0, 1) := by decide +kernel
theorem dJ13_bitCount_95d88_1 : decode cJ13_bitCount_95d88 1 = .ok (.lload_n 0, 1) := by decide +kernel
theorem dJ13_bitCount_95d88_2 : decode cJ13_bitCount_95d88 2 = .ok (.iconst 1, 1) := by decide +kernel
theorem dJ13_bitCount_95d88_3 : decode cJ13_bitCount_95d88 3 = .ok (.lushr, 1) := by decide +kernel
theorem dJ13_bitCount_95d88_4 : decode cJ13_bitCount_95d88 4 = .ok (.ldc2_w 314, 3) := by decide +kernel
theorem dJ13_bitCount_95d88_7 : decode cJ13_bitCount_95d88 7 = .ok (.land, 1) := by decide +kernel
theorem dJ13_bitCount_95d88_8 : decode cJ13_bitCount_95d88 8 = .ok (.lsub, 1) := by decide +kernel
theorem dJ13_bitCount_95d88_9 : decode cJ13_bitCount_95d88 9 = .ok (.lstore_n 0, 1) := by decide +kernel
theorem dJ13_bitCount_95d88_10 : decode cJ13_bitCount_95d88 10 = .ok (.lload_n 0, 1) := by decide +kernel
theorem dJ13_bitCount_95d88_11 : decode cJ13_bitCount_95d88 11 = .ok (.ldc2_w 316, 3) := by decide +kernel
theorem dJ13_bitCount_95d88_14 : decode cJ13_bitCount_95d88 14 = .ok (.land, 1) := by decide +kernel
theorem dJ13_bitCount_95d88_15 : decode cJ13_bitCount_95d88 15 = .ok (.lload_n 0, 1) := by decide +kernel
theorem dJ13_bitCount_95d88_16 : decode cJ13_bitCount_95d88 16 = .ok (.iconst 2, 1) := by decide +kernel
theorem dJ13_bitCount_95d88_17 : decode cJ13_bitCount_95d88 17 = .ok (.lushr, 1) := by decide +kernel
theorem dJ13_bitCount_95d88_18 : decode cJ13_bitCount_95d88 18 = .ok (.ldc2_w 316, 3) := by decide +kernel
theorem dJ13_bitCount_95d88_21 : decode cJ13_bitCount_95d88 21 = .ok (.land, 1) := by decide +kernel
theorem dJ13_bitCount_95d88_22 : decode cJ13_bitCount_95d88 22 = .ok (.ladd, 1) := by decide +kernel
theorem dJ13_bitCount_95d88_23 : decode cJ13_bitCount_95d88 23 = .ok (.lstore_n 0, 1) := by decide +kernel
theorem dJ13_bitCount_95d88_24 : decode cJ13_bitCount_95d88 24 = .ok (.lload_n 0, 1) := by decide +kernel
theorem dJ13_bitCount_95d88_25 : decode cJ13_bitCount_95d88 25 = .ok (.lload_n 0, 1) := by decide +kernel
theorem dJ13_bitCount_95d88_26 : decode cJ13_bitCount_95d88 26 = .ok (.iconst 4, 1) := by decide +kernel
theorem dJ13_bitCount_95d88_27 : decode cJ13_bitCount_95d88 27 = .ok (.lushr, 1) := by decide +kernel
theorem dJ13_bitCount_95d88_28 : decode cJ13_bitCount_95d88 28 = .ok (.ladd, 1) := by decide +kernel
theorem dJ13_bitCount_95d88_29 : decode cJ13_bitCount_95d88 29 = .ok (.ldc2_w 318, 3) := by decide +kernel
theorem dJ13_bitCount_95d88_32 : decode cJ13_bitCount_95d88 32 = .ok (.land, 1) := by decide +kernel
theorem dJ13_bitCount_95d88_33 : decode cJ13_bitCount_95d88 33 = .ok (.lstore_n 0, 1) := by decide +kernel
theorem dJ13_bitCount_95d88_34 : decode cJ13_bitCount_95d88 34 = .ok (.lload_n 0, 1) := by decide +kernel
theorem dJ13_bitCount_95d88_35 : decode cJ13_bitCount_95d88 35 = .ok (.lload_n 0, 1) := by decide +kernel
theorem dJ13_bitCount_95d88_36 : decode cJ13_bitCount_95d88 36 = .ok (.bipush 8, 2) := by decide +kernel
theorem dJ13_bitCount_95d88_38 : decode cJ13_bitCount_95d88 38 = .ok (.lushr, 1) := by decide +kernel
theorem dJ13_bitCount_95d88_39 : decode cJ13_bitCount_95d88 39 = .ok (.ladd, 1) := by decide +kernel
theorem dJ13_bitCount_95d88_40 : decode cJ13_bitCount_95d88 40 = .ok (.lstore_n 0, 1) := by decide +kernel
theorem dJ13_bitCount_95d88_41 : decode cJ13_bitCount_95d88 41 = .ok (.lload_n 0, 1) := by decide +kernel
theorem dJ13_bitCount_95d88_42 : decode cJ13_bitCount_95d88 42 = .ok (.lload_n 0, 1) := by decide +kernel
theorem dJ13_bitCount_95d88_43 : decode cJ13_bitCount_95d88 43 = .ok (.bipush 16, 2) := by decide +kernel
theorem dJ13_bitCount_95d88_45 : decode cJ13_bitCount_95d88 45 = .ok (.lushr, 1) := by decide +kernel
theorem dJ13_bitCount_95d88_46 : decode cJ13_bitCount_95d88 46 = .ok (.ladd, 1) := by decide +kernel
theorem dJ13_bitCount_95d88_47 : decode cJ13_bitCount_95d88 47 = .ok (.lstore_n 0, 1) := by decide +kernel
theorem dJ13_bitCount_95d88_48 : decode cJ13_bitCount_95d88 48 = .ok (.lload_n 0, 1) := by decide +kernel
theorem dJ13_bitCount_95d88_49 : decode cJ13_bitCount_95d88 49 = .ok (.lload_n 0, 1) := by decide +kernel
theorem dJ13_bitCount_95d88_50 : decode cJ13_bitCount_95d88 50 = .ok (.bipush 32, 2) := by decide +kernel
theorem dJ13_bitCount_95d88_52 : decode cJ13_bitCount_95d88 52 = .ok (.lushr, 1) := by decide +kernel
theorem dJ13_bitCount_95d88_53 : decode cJ13_bitCount_95d88 53 = .ok (.ladd, 1) := by decide +kernel
theorem dJ13_bitCount_95d88_54 : decode cJ13_bitCount_95d88 54 = .ok (.lstore_n 0, 1) := by decide +kernel
theorem dJ13_bitCount_95d88_55 : decode cJ13_bitCount_95d88 55 = .ok (.lload_n 0, 1) := by decide +kernel
theorem dJ13_bitCount_95d88_56 : decode cJ13_bitCount_95d88 56 = .ok (.l2i, 1) := by decide +kernel
theorem dJ13_bitCount_95d88_57 : decode cJ13_bitCount_95d88 57 = .ok (.bipush 127, 2) := by decide +kernel
theorem dJ13_bitCount_95d88_59 : decode cJ13_bitCount_95d88 59 = .ok (.iand, 1) := by decide +kernel
theorem dJ13_bitCount_95d88_60 : decode cJ13_bitCount_95d88 60 = .ok (.ireturn, 1) := by decide +kernel
theorem dJ9_min_7cf53_0 : decode cJ9_min_7cf53 0 = .ok (.iload_n 0, 1) := by decide +kernel
theorem dJ9_min_7cf53_1 : decode cJ9_min_7cf53 1 = .ok (.iload_n 1, 1) := by decide +kernel
theorem dJ9_min_7cf53_2 : decode cJ9_min_7cf53 2 = .ok (.if_icmp .gt 7, 3) := by decide +kernel
theorem dJ9_min_7cf53_5 : decode cJ9_min_7cf53 5 = .ok (.iload_n 0, 1) := by decide +kernel
theorem dJ9_min_7cf53_6 : decode cJ9_min_7cf53 6 = .ok (.goto 4, 3) := by decide +kernel
theorem dJ9_min_7cf53_9 : decode cJ9_min_7cf53 9 = .ok (.iload_n 1, 1) := by decide +kernel
theorem dJ9_min_7cf53_10 : decode cJ9_min_7cf53 10 = .ok (.ireturn, 1) := by decide +kernel
end
section
/-! rows on bits, shifts and unsigned numbers, to paste: each family out of a closed proof of our own, whole with what it rests on; each by itself clean at Lean in its own claim (generation 39, form 5). Take a family whole -/
/-! ===== Int32 by its bits: bt x i ===== -/
def bt (x : Int32) (i : Nat) : Bool := x.toBitVec.getLsbD i
theorem b_ext {x y : Int32} (h : ∀ i, i < 32 → bt x i = bt y i) : x = y := Int32.toBitVec_inj.mp (BitVec.eq_of_getLsbD_eq (fun i hi => h i hi))
theorem b_or (x y : Int32) (i : Nat) : bt (x ||| y) i = (bt x i || bt y i) := by unfold bt; rw [Int32.toBitVec_or, BitVec.getLsbD_or]
theorem b_and (x y : Int32) (i : Nat) : bt (x &&& y) i = (bt x i && bt y i) := by unfold bt; rw [Int32.toBitVec_and, BitVec.getLsbD_and]
theorem b_xor (x y : Int32) (i : Nat) : bt (x ^^^ y) i = (bt x i ^^ bt y i) := by unfold bt; rw [Int32.toBitVec_xor, BitVec.getLsbD_xor]
theorem b_big {x : Int32} {i : Nat} (h : 32 ≤ i) : bt x i = false := BitVec.getLsbD_of_ge _ _ h
theorem b_255 (i : Nat) : bt 255 i = decide (i < 8) := by
  rcases Nat.lt_or_ge i 32 with h | h
  · exact (by decide +kernel : ∀ i, i < 32 → bt 255 i = decide (i < 8)) i h
  · rw [b_big h, decide_eq_false (by omega)]
theorem b_65535 (i : Nat) : bt 65535 i = decide (i < 16) := by
  rcases Nat.lt_or_ge i 32 with h | h
  · exact (by decide +kernel : ∀ i, i < 32 → bt 65535 i = decide (i < 16)) i h
  · rw [b_big h, decide_eq_false (by omega)]
theorem b_m1 : ∀ i, i < 32 → bt (-1) i = true := by decide +kernel
theorem b_0 (i : Nat) : bt 0 i = false := BitVec.getLsbD_zero
theorem s_l : ∀ n, n < 32 → ((nI n &&& 31).toBitVec.smod 32).toNat = n := by decide +kernel
theorem s_u : ∀ n, n < 32 → (((nI n).toUInt32 &&& Int32.toUInt32 31).toBitVec % 32).toNat = n := by decide +kernel
theorem b_shl (n : Nat) (hn : n < 32) (x : Int32) {i : Nat} (hi : i < 32) : bt (x <<< (nI n &&& 31)) i = (decide (n ≤ i) && bt x (i - n)) := by
  unfold bt
  rw [Int32.toBitVec_shiftLeft]
  show (x.toBitVec <<< ((nI n &&& 31).toBitVec.smod 32).toNat).getLsbD i = _
  rw [s_l n hn, BitVec.getLsbD_shiftLeft]
  rcases Nat.lt_or_ge i n with h | h
  · simp [h, Nat.not_le.mpr h]
  · simp [hi, h, Nat.not_lt.mpr h]
theorem b_ushr (n : Nat) (hn : n < 32) (x : Int32) (i : Nat) : bt ((x.toUInt32 >>> ((nI n).toUInt32 &&& Int32.toUInt32 31)).toInt32) i = bt x (n + i) := by
  show (x.toUInt32 >>> ((nI n).toUInt32 &&& Int32.toUInt32 31)).toBitVec.getLsbD i = x.toUInt32.toBitVec.getLsbD (n + i)
  rw [UInt32.toBitVec_shiftRight]
  show (x.toUInt32.toBitVec >>> (((nI n).toUInt32 &&& Int32.toUInt32 31).toBitVec % 32).toNat).getLsbD i = _
  rw [s_u n hn, BitVec.getLsbD_ushiftRight]
theorem b_sshr (n : Nat) (hn : n < 32) (x : Int32) {i : Nat} (hi : i < 32) : bt (x >>> (nI n &&& 31)) i = if n + i < 32 then bt x (n + i) else bt x 31 := by
  unfold bt
  rw [Int32.toBitVec_shiftRight]
  show (x.toBitVec.sshiftRight ((nI n &&& 31).toBitVec.smod 32).toNat).getLsbD i = _
  rw [s_l n hn, BitVec.getLsbD_sshiftRight, BitVec.msb_eq_getLsbD_last]
  simp [hi]
theorem b_shl8 (x : Int32) {i : Nat} (hi : i < 32) : bt (x <<< ((8 : Int32) &&& 31)) i = (decide (8 ≤ i) && bt x (i - 8)) := b_shl 8 (by omega) x hi
theorem b_shl16 (x : Int32) {i : Nat} (hi : i < 32) : bt (x <<< ((16 : Int32) &&& 31)) i = (decide (16 ≤ i) && bt x (i - 16)) := b_shl 16 (by omega) x hi
theorem b_shl24 (x : Int32) {i : Nat} (hi : i < 32) : bt (x <<< ((24 : Int32) &&& 31)) i = (decide (24 ≤ i) && bt x (i - 24)) := b_shl 24 (by omega) x hi
theorem b_sshr8 (x : Int32) {i : Nat} (hi : i < 32) : bt (x >>> ((8 : Int32) &&& 31)) i = if 8 + i < 32 then bt x (8 + i) else bt x 31 := b_sshr 8 (by omega) x hi
/-! ===== nI under and, xor, >>>, one bit, 65535 ===== -/
theorem nx_and (a b : Nat) : nI a &&& nI b = nI (a &&& b) := by
  apply Int32.toBitVec_inj.1
  show BitVec.ofNat 32 a &&& BitVec.ofNat 32 b = BitVec.ofNat 32 (a &&& b)
  apply BitVec.eq_of_getLsbD_eq
  intro i hi
  simp [hi]
theorem nx_xor (a b : Nat) : nI a ^^^ nI b = nI (a ^^^ b) := by
  apply Int32.toBitVec_inj.1
  show BitVec.ofNat 32 a ^^^ BitVec.ofNat 32 b = BitVec.ofNat 32 (a ^^^ b)
  apply BitVec.eq_of_getLsbD_eq
  intro i hi
  simp [hi]
theorem nx_cnt : ∀ j : Fin 32, (UInt32.ofNat j.val &&& Int32.toUInt32 31).toNat % 32 = j.val := by decide +kernel
theorem nx_ush {k j : Nat} (hk : k < 65536) (hj : j < 32) : ((nI k).toUInt32 >>> ((nI j).toUInt32 &&& Int32.toUInt32 31)).toInt32 = nI (k >>> j) := by
  have hs : k >>> j ≤ k := by
    rw [Nat.shiftRight_eq_div_pow]
    exact Nat.div_le_self _ _
  have e2 : UInt32.ofNat k >>> (UInt32.ofNat j &&& Int32.toUInt32 31) = UInt32.ofNat (k >>> j) := by
    apply UInt32.toNat_inj.1
    have h1 : (UInt32.ofNat k).toNat = k := Nat.mod_eq_of_lt (by omega)
    have h2 : (UInt32.ofNat (k >>> j)).toNat = k >>> j := Nat.mod_eq_of_lt (by omega)
    rw [UInt32.toNat_shiftRight, nx_cnt ⟨j, hj⟩, h1, h2]
  show (UInt32.ofNat k >>> (UInt32.ofNat j &&& Int32.toUInt32 31)).toInt32 = _
  rw [e2]
  rfl
theorem nx_bit {k j : Nat} (hk : k < 65536) (hj : j < 16) : (((nI k).toUInt32 >>> ((nI j).toUInt32 &&& Int32.toUInt32 31)).toInt32 &&& 1) = 0 ↔ k.testBit j = false := by
  rw [nx_ush hk (by omega)]
  show nI (k >>> j) &&& nI 1 = 0 ↔ _
  rw [nx_and, Nat.and_one_is_mod, ← nI_0, nI_eq (by omega) (by omega), Nat.testBit_eq_decide_div_mod_eq, Nat.shiftRight_eq_div_pow, decide_eq_false_iff_not]
  generalize k / 2 ^ j = z
  omega
theorem nx_mod (k : Nat) : nI k &&& 65535 = nI (k % 65536) := by
  show nI k &&& nI 65535 = _
  rw [nx_and, show (65535 : Nat) = 2 ^ 16 - 1 from rfl, Nat.and_two_pow_sub_one_eq_mod]
theorem nx_m16 {k : Nat} (h : k < 65536) : nI k &&& 65535 = nI k := by rw [nx_mod, Nat.mod_eq_of_lt h]
theorem nx_mask (x : Int32) : ∃ k, k < 65536 ∧ x &&& 65535 = nI k := by
  have e : x = nI x.toBitVec.toNat := by
    apply Int32.toBitVec_inj.1
    show x.toBitVec = BitVec.ofNat 32 x.toBitVec.toNat
    simp
  refine ⟨x.toBitVec.toNat % 65536, Nat.mod_lt _ (by omega), ?_⟩
  rw [← nx_mod, ← e]
/-! ===== Int32 as a set of bits: test, set ===== -/
def nf_M (m : Int32) : Nat := 4294967296 - m.toBitVec.toNat
theorem nf_sh : ∀ l, l < 32 → ((1 : Int32) <<< (nI l &&& 31)).toBitVec = BitVec.twoPow 32 l := by decide +kernel
theorem nf_sl : ∀ l, l < 32 → (((nI l).toUInt32 &&& Int32.toUInt32 31).toBitVec % 32).toNat = l := by decide +kernel
theorem nf_tp : ∀ l, l < 32 → BitVec.twoPow 32 l ≠ 0#32 := by decide +kernel
theorem nf_bit (m : Int32) (l : Nat) (hl : l < 32) : ((m.toUInt32 >>> ((nI l).toUInt32 &&& Int32.toUInt32 31)).toInt32 &&& 1) = 0 ↔ (m &&& ((1 : Int32) <<< (nI l &&& 31))) = 0 := by
  have e : ((m.toUInt32 >>> ((nI l).toUInt32 &&& Int32.toUInt32 31)).toInt32).toBitVec = m.toBitVec >>> l := by
    show m.toBitVec >>> (((nI l).toUInt32 &&& Int32.toUInt32 31).toBitVec % 32) = m.toBitVec >>> l
    rw [BitVec.ushiftRight_eq', nf_sl l hl]
  rw [← Int32.toBitVec_inj, ← Int32.toBitVec_inj, Int32.toBitVec_and, Int32.toBitVec_and, nf_sh l hl, e, BitVec.and_twoPow]
  show (m.toBitVec >>> l &&& 1#32) = 0#32 ↔ _ = 0#32
  rw [BitVec.and_one_eq_setWidth_ofBool_getLsbD, BitVec.getLsbD_ushiftRight, Nat.add_zero]
  cases hb : m.toBitVec.getLsbD l
  · exact ⟨fun _ => by simp, fun _ => by decide⟩
  · exact ⟨fun z => absurd z (by decide), fun z => absurd ((if_pos rfl).symm.trans z) (nf_tp l hl)⟩
theorem nf_gr (m k : Int32) (h : m &&& k = 0) (hk : k ≠ 0) : nf_M (m ||| k) < nf_M m := by
  have hm := m.toBitVec.isLt
  have hm' := (m ||| k).toBitVec.isLt
  have h1 : m.toBitVec.toNat ≤ (m ||| k).toBitVec.toNat := by
    rw [Int32.toBitVec_or, BitVec.toNat_or]
    exact Nat.left_le_or
  have h2 : m.toBitVec.toNat ≠ (m ||| k).toBitVec.toNat := by
    intro e
    have e2 : m = m ||| k := Int32.toBitVec_inj.mp (BitVec.eq_of_toNat_eq e)
    apply hk
    apply Int32.toBitVec_inj.mp
    show k.toBitVec = 0#32
    apply BitVec.eq_of_getLsbD_eq
    intro i hi
    have a : m.toBitVec.getLsbD i = (m.toBitVec.getLsbD i || k.toBitVec.getLsbD i) := by rw [← BitVec.getLsbD_or, ← Int32.toBitVec_or, ← e2]
    have b : (m.toBitVec.getLsbD i && k.toBitVec.getLsbD i) = false := by
      rw [← BitVec.getLsbD_and, ← Int32.toBitVec_and, h]
      exact BitVec.getLsbD_zero
    rw [BitVec.getLsbD_zero]
    revert a b
    cases m.toBitVec.getLsbD i <;> cases k.toBitVec.getLsbD i <;> simp
  unfold nf_M
  omega
/-! ===== a byte read unsigned ===== -/
theorem bp_b (x : Int32) : x.toInt8.toInt32 &&& 255 = x &&& 255 := by
  apply Int32.toBitVec_inj.mp
  rw [Int32.toBitVec_and, Int32.toBitVec_and, Int8.toBitVec_toInt32, Int32.toBitVec_toInt8]
  apply BitVec.eq_of_getLsbD_eq
  intro i hi
  rw [BitVec.getLsbD_and, BitVec.getLsbD_and]
  have hm : ∀ i < 32, 8 ≤ i → (255 : Int32).toBitVec.getLsbD i = false := by decide
  rcases Nat.lt_or_ge i 8 with z | z
  · rw [BitVec.getLsbD_signExtend, BitVec.getLsbD_signExtend, if_pos z, if_pos hi]
    simp only [z, hi, decide_true, Bool.true_and]
  · rw [hm i hi z]; simp
/-! ===== the char cast and 65535 ===== -/
/-! ===== Int64 as a set of bits: test, set, clear ===== -/
theorem ts_nf {x : Bool} (h : ¬ x = false) : x = true := by cases x <;> first | rfl | exact absurd rfl h
theorem ts_nt {x : Bool} (h : ¬ x = true) : x = false := by cases x <;> first | rfl | exact absurd rfl h
theorem ts_bit {w : Int64} {s : UInt64} {j : Nat} (hj : j < 64) (hs : s.toNat = j) : ((w.toUInt64 >>> s).toInt64 &&& 1) = 0 ↔ w.toBitVec.getLsbD j = false := by
  have e : (w.toUInt64 >>> s).toInt64.toBitVec = w.toBitVec >>> j := by
    apply BitVec.eq_of_toNat_eq
    show (w.toUInt64 >>> s).toNat = _
    rw [UInt64.toNat_shiftRight, hs, Nat.mod_eq_of_lt hj, BitVec.toNat_ushiftRight]
    rfl
  rw [← Int64.toBitVec_inj, Int64.toBitVec_and, e]
  show w.toBitVec >>> j &&& 1#64 = 0#64 ↔ _
  constructor
  · intro h
    have t := congrArg (fun x => x.getLsbD 0) h
    simpa using t
  · intro h
    apply BitVec.eq_of_getLsbD_eq
    intro i hi
    cases i with
    | zero => simp [h]
    | succ i => simp
theorem ts_or {w m : Int64} {j : Nat} (hj : j < 64) (hm : m.toBitVec = BitVec.twoPow 64 j) : (w ||| m) = w ↔ w.toBitVec.getLsbD j = true := by
  rw [← Int64.toBitVec_inj, Int64.toBitVec_or, hm]
  constructor
  · intro h
    have t := congrArg (fun x => x.getLsbD j) h
    simp only [BitVec.getLsbD_or, BitVec.getLsbD_twoPow] at t
    simpa [hj] using t.symm
  · intro h
    apply BitVec.eq_of_getLsbD_eq
    intro i hi
    rw [BitVec.getLsbD_or, BitVec.getLsbD_twoPow]
    by_cases e : j = i
    · subst e; rw [h, Bool.true_or]
    · simp [e]
theorem ts_and {w m : Int64} {j : Nat} (hj : j < 64) (hm : m.toBitVec = BitVec.twoPow 64 j) : (w &&& (m ^^^ (-1))) = w ↔ w.toBitVec.getLsbD j = false := by
  have ha : (-1 : Int64).toBitVec = BitVec.allOnes 64 := by decide
  rw [← Int64.toBitVec_inj, Int64.toBitVec_and, Int64.toBitVec_xor, hm, ha]
  constructor
  · intro h
    have t := congrArg (fun x => x.getLsbD j) h
    simp only [BitVec.getLsbD_and, BitVec.getLsbD_xor, BitVec.getLsbD_twoPow, BitVec.getLsbD_allOnes] at t
    simpa [hj] using t.symm
  · intro h
    apply BitVec.eq_of_getLsbD_eq
    intro i hi
    rw [BitVec.getLsbD_and, BitVec.getLsbD_xor, BitVec.getLsbD_twoPow, BitVec.getLsbD_allOnes]
    by_cases e : j = i
    · subst e; rw [h, Bool.false_and]
    · simp [e, hi]
/-! ===== lN n to 2^64: shifts, and, or, masks, one bit ===== -/
theorem wb_tb (n : Nat) : (lN n).toBitVec = BitVec.ofNat 64 n := rfl
theorem wb_inj {a b : Int64} (h : a.toBitVec = b.toBitVec) : a = b := Int64.toBitVec_inj.mp h
theorem wb_tn {n : Nat} (h : n < 2 ^ 64) : (lN n).toBitVec.toNat = n := by rw [wb_tb, BitVec.toNat_ofNat, Nat.mod_eq_of_lt h]
theorem wb_of (x : Int64) : ∃ n, n < 2 ^ 64 ∧ x = lN n := ⟨x.toBitVec.toNat, x.toBitVec.isLt, wb_inj (by rw [wb_tb]; simp)⟩
theorem wb_of32 (x : Int32) : ∃ n, n < 2 ^ 32 ∧ x = nI n := ⟨x.toBitVec.toNat, x.toBitVec.isLt, Int32.toBitVec_inj.mp (by show _ = BitVec.ofNat 32 _; simp)⟩
theorem wb_c : ∀ k, k < 64 → ((nI k).toInt64 &&& 63) = lN k := by decide +kernel
theorem wb_cu : ∀ k, k < 64 → ((nI k).toInt64.toUInt64 &&& Int64.toUInt64 63) = UInt64.ofNat k := by decide +kernel
theorem wb_sm : ∀ k, k < 64 → (BitVec.ofNat 64 k).smod 64 = BitVec.ofNat 64 k := by decide +kernel
theorem wb_pw {a b : Nat} (h : a ≤ b) : 2 ^ b = 2 ^ a * 2 ^ (b - a) := by rw [← Nat.pow_add]; congr 1; omega
theorem wb_lt2 {a b : Nat} (h : a < b) : 2 ^ a < 2 ^ b := Nat.pow_lt_pow_right (by decide) h
theorem wb_mod (n : Nat) : lN n = lN (n % 2 ^ 64) := wb_inj (by rw [wb_tb, wb_tb]; apply BitVec.eq_of_toNat_eq; rw [BitVec.toNat_ofNat, BitVec.toNat_ofNat, Nat.mod_mod])
theorem wb_shr {n k : Nat} (hn : n < 2 ^ 64) (hk : k < 64) : ((lN n).toUInt64 >>> ((nI k).toInt64.toUInt64 &&& Int64.toUInt64 63)).toInt64 = lN (n / 2 ^ k) := by
  rw [wb_cu k hk]
  apply wb_inj
  apply BitVec.eq_of_toNat_eq
  show ((lN n).toUInt64 >>> UInt64.ofNat k).toNat = (BitVec.ofNat 64 _).toNat
  have h1 : (UInt64.ofNat k).toNat = k := by
    show (BitVec.ofNat 64 k).toNat = k
    rw [BitVec.toNat_ofNat, Nat.mod_eq_of_lt (by omega)]
  have h2 : (lN n).toUInt64.toNat = n := wb_tn hn
  rw [UInt64.toNat_shiftRight, h1, h2, Nat.mod_eq_of_lt hk, Nat.shiftRight_eq_div_pow, BitVec.toNat_ofNat, Nat.mod_eq_of_lt (Nat.lt_of_le_of_lt (Nat.div_le_self _ _) hn)]
theorem wb_shl (n : Nat) {k : Nat} (hk : k < 64) : lN n <<< ((nI k).toInt64 &&& 63) = lN (n * 2 ^ k) := by
  rw [wb_c k hk]
  apply wb_inj
  rw [Int64.toBitVec_shiftLeft, wb_tb, wb_tb, wb_tb, wb_sm k hk]
  apply BitVec.eq_of_toNat_eq
  rw [BitVec.shiftLeft_eq', BitVec.toNat_shiftLeft, BitVec.toNat_ofNat, BitVec.toNat_ofNat, BitVec.toNat_ofNat, Nat.mod_eq_of_lt (show k < 2 ^ 64 by omega), Nat.shiftLeft_eq, Nat.mul_mod, Nat.mod_mod, ← Nat.mul_mod]
theorem wb_and {a b : Nat} (ha : a < 2 ^ 64) (hb : b < 2 ^ 64) : lN a &&& lN b = lN (a &&& b) := by
  apply wb_inj
  rw [Int64.toBitVec_and, wb_tb, wb_tb, wb_tb]
  apply BitVec.eq_of_toNat_eq
  rw [BitVec.toNat_and, BitVec.toNat_ofNat, BitVec.toNat_ofNat, BitVec.toNat_ofNat, Nat.mod_eq_of_lt ha, Nat.mod_eq_of_lt hb, Nat.mod_eq_of_lt (Nat.and_lt_two_pow _ hb)]
theorem wb_or {a b : Nat} (ha : a < 2 ^ 64) (hb : b < 2 ^ 64) : lN a ||| lN b = lN (a ||| b) := by
  apply wb_inj
  rw [Int64.toBitVec_or, wb_tb, wb_tb, wb_tb]
  apply BitVec.eq_of_toNat_eq
  rw [BitVec.toNat_or, BitVec.toNat_ofNat, BitVec.toNat_ofNat, BitVec.toNat_ofNat, Nat.mod_eq_of_lt ha, Nat.mod_eq_of_lt hb, Nat.mod_eq_of_lt (Nat.or_lt_two_pow ha hb)]
theorem wb_mask {n k : Nat} (hn : n < 2 ^ 64) (hk : k < 64) : lN n &&& lN (2 ^ k - 1) = lN (n % 2 ^ k) := by
  rw [wb_and hn (by have := wb_lt2 hk; omega), Nat.and_two_pow_sub_one_eq_mod]
theorem wb_a1 {n : Nat} (hn : n < 2 ^ 64) : lN n &&& 1 = lN (n % 2) := wb_mask (k := 1) hn (by decide)
theorem wb_bit {n k : Nat} (hn : n < 2 ^ 64) (hk : k < 64) : ((lN n).toUInt64 >>> ((nI k).toInt64.toUInt64 &&& Int64.toUInt64 63)).toInt64 &&& 1 = lN (n / 2 ^ k % 2) := by
  rw [wb_shr hn hk, wb_a1 (Nat.lt_of_le_of_lt (Nat.div_le_self _ _) hn)]
theorem wb_xor {q k : Nat} (hk : k < 63) (h : 2 ^ k ≤ q) (h2 : q < 2 ^ (k + 1)) : lN q ^^^ lN (2 ^ k) = lN (q - 2 ^ k) := by
  obtain ⟨r, rfl⟩ : ∃ r, q = 2 ^ k + r := ⟨q - 2 ^ k, by omega⟩
  have hr : r < 2 ^ k := by rw [Nat.pow_succ] at h2; omega
  have hx : (2 ^ k + r) ^^^ 2 ^ k = r := by
    apply Nat.eq_of_testBit_eq
    intro i
    rw [Nat.testBit_xor, Nat.testBit_two_pow]
    rcases Nat.lt_trichotomy i k with h | h | h
    · rw [Nat.testBit_two_pow_add_gt h]
      simp [show ¬ k = i by omega]
    · subst h
      rw [Nat.testBit_two_pow_add_eq]
      simp
    · have a1 : 2 ^ (k + 1) ≤ 2 ^ i := Nat.pow_le_pow_right (by decide) h
      rw [Nat.testBit_lt_two_pow (show 2 ^ k + r < 2 ^ i by omega), Nat.testBit_lt_two_pow (show r < 2 ^ i by omega)]
      simp [show ¬ k = i by omega]
  have b1 := wb_lt2 (show k + 1 < 64 by omega)
  have b2 := wb_lt2 (show k < 64 by omega)
  apply wb_inj
  rw [Int64.toBitVec_xor, wb_tb, wb_tb, wb_tb]
  apply BitVec.eq_of_toNat_eq
  rw [BitVec.toNat_xor, BitVec.toNat_ofNat, BitVec.toNat_ofNat, BitVec.toNat_ofNat, Nat.mod_eq_of_lt (by omega : 2 ^ k + r < 2 ^ 64), Nat.mod_eq_of_lt b2, hx, Nat.add_sub_cancel_left, Nat.mod_eq_of_lt (by omega)]
/-! ===== lN: masks, 'or' of parts that don't overlap is a sum ===== -/
theorem u_tn {n : Nat} (h : n < 2 ^ 64) : (UInt64.ofNat n).toNat = n := Nat.mod_eq_of_lt h
theorem g_and {a b c : Nat} (ha : a < 2 ^ 64) (hb : b < 2 ^ 64) (hc : a &&& b = c) : lN a &&& lN b = lN c := by
  subst hc
  have h : UInt64.ofNat a &&& UInt64.ofNat b = UInt64.ofNat (a &&& b) := UInt64.toNat_inj.mp (by rw [UInt64.toNat_and, u_tn ha, u_tn hb, u_tn (Nat.and_lt_two_pow a hb)])
  have h2 := congrArg UInt64.toInt64 h
  exact h2
theorem g_and1 {a : Nat} (ha : a < 2 ^ 64) : lN a &&& 1 = lN (a % 2) := g_and (b := 1) ha (by decide) (Nat.and_two_pow_sub_one_eq_mod a 1)
theorem g_mask {a s p : Nat} (hp : 2 ^ s = p) (hs : s < 64) (ha : a < 2 ^ 64) : lN a &&& lN (p - 1) = lN (a % p) := by
  subst hp
  have := Nat.pow_lt_pow_right (show 1 < 2 by decide) hs
  exact g_and ha (by omega) (Nat.and_two_pow_sub_one_eq_mod a s)
theorem g_or {k p a b : Nat} (hp : 2 ^ k = p) (ha : a < p) (h : b * p + a < 2 ^ 64) : lN (b * p) ||| lN a = lN (b * p + a) := by
  subst hp
  have h1 : b * 2 ^ k ||| a = b * 2 ^ k + a := by rw [← Nat.shiftLeft_eq, Nat.shiftLeft_add_eq_or_of_lt ha]
  have h3 : UInt64.ofNat (b * 2 ^ k) ||| UInt64.ofNat a = UInt64.ofNat (b * 2 ^ k + a) := UInt64.toNat_inj.mp (by rw [UInt64.toNat_or, u_tn (by omega), u_tn (by omega), u_tn h, h1])
  have h2 := congrArg UInt64.toInt64 h3
  exact h2
theorem g_or' {k p a b : Nat} (hp : 2 ^ k = p) (ha : a < p) (h : a + b * p < 2 ^ 64) : lN a ||| lN (b * p) = lN (a + b * p) := by
  rw [Int64.or_comm, g_or hp ha (by omega), Nat.add_comm]
theorem g_ushr {a k p : Nat} {y : UInt64} (hy : y = UInt64.ofNat k) (hk : k < 64) (hp : 2 ^ k = p) (ha : a < 2 ^ 64) : ((lN a).toUInt64 >>> y).toInt64 = lN (a / p) := by
  subst hy hp
  have h : UInt64.ofNat a >>> UInt64.ofNat k = UInt64.ofNat (a / 2 ^ k) := UInt64.toNat_inj.mp (by rw [UInt64.toNat_shiftRight, u_tn ha, u_tn (by omega), u_tn (Nat.lt_of_le_of_lt (Nat.div_le_self _ _) ha), Nat.mod_eq_of_lt hk, Nat.shiftRight_eq_div_pow])
  have h2 := congrArg UInt64.toInt64 h
  exact h2
theorem g_shl {a k p : Nat} {y : Int64} (hy : y.toBitVec.smod 64 = BitVec.ofNat 64 k) (hk : k < 64) (hp : 2 ^ k = p) (ha : a < 2 ^ 64) : lN a <<< y = lN (a * p) := by
  subst hp
  apply Int64.toBitVec_inj.mp
  rw [Int64.toBitVec_shiftLeft, hy]
  apply BitVec.eq_of_toNat_eq
  have hb : (lN a).toBitVec.toNat = a := Nat.mod_eq_of_lt ha
  have hk' : (BitVec.ofNat 64 k).toNat = k := Nat.mod_eq_of_lt (by omega)
  have h : ((lN a).toBitVec <<< BitVec.ofNat 64 k).toNat = (a * 2 ^ k) % 2 ^ 64 := by simp only [BitVec.shiftLeft_eq', BitVec.toNat_shiftLeft, hb, hk', Nat.shiftLeft_eq]
  exact h
/-! ===== lN to 2^62 under >> and >>> ===== -/
theorem pf_lI {a : Nat} (h : a < 2 ^ 63) : (lN a).toInt = (a : Int) := lg_ofNat_toInt h
theorem pf_shr {a d : Nat} {D : Int64} (hD : (D.toBitVec.smod 64).toNat = d) (h : a < 2 ^ 62) : lN a >>> D = lN (a / 2 ^ d) := by
  have hd : a / 2 ^ d ≤ a := Nat.div_le_self _ _
  apply Int64.toInt_inj.mp
  have e : (lN a >>> D).toInt = (lN a).toInt >>> d := by
    rw [← hD]
    exact BitVec.toInt_sshiftRight ..
  rw [e, Int.shiftRight_eq_div_pow, pf_lI (by omega), pf_lI (by omega)]
  rfl
theorem pf_ushr {a d : Nat} {D : UInt64} (hD : D.toNat % 64 = d) (h : a < 2 ^ 62) : ((lN a).toUInt64 >>> D).toInt64 = lN (a / 2 ^ d) := by
  have hd : a / 2 ^ d ≤ a := Nat.div_le_self _ _
  have e : (lN a).toUInt64 >>> D = UInt64.ofNat (a / 2 ^ d) := UInt64.toNat_inj.mp (by
    rw [UInt64.toNat_shiftRight, hD, Nat.shiftRight_eq_div_pow, UInt64.toNat_ofNat']
    show (UInt64.ofNat a).toNat / 2 ^ d = _
    rw [UInt64.toNat_ofNat', Nat.mod_eq_of_lt (by omega), Nat.mod_eq_of_lt (by omega)])
  rw [e]
  rfl
theorem pf_andw (x : Int64) : ∃ m, m < 2 ^ 32 ∧ x &&& 4294967295 = lN m := ⟨x.toBitVec.toNat % 2 ^ 32, Nat.mod_lt _ (by decide), Int64.toBitVec_inj.mp (BitVec.eq_of_toNat_eq (by
  show (x.toBitVec &&& 4294967295#64).toNat = (BitVec.ofNat 64 (x.toBitVec.toNat % 2 ^ 32)).toNat
  rw [BitVec.toNat_and, show (4294967295#64).toNat = 2 ^ 32 - 1 from by decide, Nat.and_two_pow_sub_one_eq_mod, BitVec.toNat_ofNat]
  omega))⟩
/-! ===== Int64 as an unsigned number: uN x ===== -/
def uN (x : Int64) : Nat := x.toUInt64.toNat
theorem uN_lt (x : Int64) : uN x < 18446744073709551616 := x.toUInt64.toNat_lt
theorem uN_inj {x y : Int64} (h : uN x = uN y) : x = y := congrArg UInt64.toInt64 (UInt64.toNat_inj.mp h)
theorem uN_add (x y : Int64) : uN (x + y) = (uN x + uN y) % 18446744073709551616 := by
  show (x.toUInt64 + y.toUInt64).toNat = _
  exact UInt64.toNat_add _ _
theorem uN_mul (x y : Int64) : uN (x * y) = (uN x * uN y) % 18446744073709551616 := by
  show (x.toUInt64 * y.toUInt64).toNat = _
  exact UInt64.toNat_mul _ _
theorem uN_shl (x : Int64) : uN (x <<< ((1 : Int32).toInt64 &&& 63)) = (2 * uN x) % 18446744073709551616 := by
  have h : (((1 : Int32).toInt64 &&& 63).toBitVec.smod 64).toNat = 1 := by decide
  show (x.toBitVec <<< (((1 : Int32).toInt64 &&& 63).toBitVec.smod 64).toNat).toNat = _
  rw [h, BitVec.toNat_shiftLeft, Nat.shiftLeft_eq, Nat.mul_comm]
  rfl
theorem uN_shr (x : Int64) (s : UInt64) : uN (x.toUInt64 >>> s).toInt64 = uN x / 2 ^ (s.toNat % 64) := by
  show (x.toUInt64 >>> s).toNat = _
  rw [UInt64.toNat_shiftRight, Nat.shiftRight_eq_div_pow]
  rfl
theorem uN_s32 (x : Int64) : uN (x.toUInt64 >>> ((32 : Int32).toInt64.toUInt64 &&& Int64.toUInt64 63)).toInt64 = uN x / 4294967296 := by
  have h : ((32 : Int32).toInt64.toUInt64 &&& Int64.toUInt64 63).toNat % 64 = 32 := by decide
  rw [uN_shr, h]
theorem uN_s63 (x : Int64) : uN (x.toUInt64 >>> ((63 : Int32).toInt64.toUInt64 &&& Int64.toUInt64 63)).toInt64 = uN x / 9223372036854775808 := by
  have h : ((63 : Int32).toInt64.toUInt64 &&& Int64.toUInt64 63).toNat % 64 = 63 := by decide
  rw [uN_shr, h]
theorem uN_lo (x : Int64) : uN (x &&& 4294967295) = uN x % 4294967296 := by
  show (x.toUInt64 &&& Int64.toUInt64 4294967295).toNat = _
  rw [UInt64.toNat_and]
  exact Nat.and_two_pow_sub_one_eq_mod _ 32
theorem uN_bit (x : Int64) : (x &&& 1) = 0 ↔ uN x % 2 = 0 := by
  have h : uN (x &&& 1) = uN x % 2 := by
    show (x.toUInt64 &&& Int64.toUInt64 1).toNat = _
    rw [UInt64.toNat_and]
    exact Nat.and_two_pow_sub_one_eq_mod _ 1
  rw [← h]
  exact ⟨fun z => by rw [z]; rfl, fun z => uN_inj (z.trans rfl)⟩
theorem uN_or {x y : Int64} (hy : uN y < 2) : uN ((x <<< ((1 : Int32).toInt64 &&& 63)) ||| y) = (2 * uN x) % 18446744073709551616 + uN y := by
  have h1 : uN ((x <<< ((1 : Int32).toInt64 &&& 63)) ||| y) = uN (x <<< ((1 : Int32).toInt64 &&& 63)) ||| uN y := UInt64.toNat_or _ _
  have h2 : (2 * uN x) % 18446744073709551616 = 2 ^ 1 * (uN x % 9223372036854775808) := by omega
  rw [h1, uN_shl, h2]
  exact (Nat.two_pow_add_eq_or_of_lt (i := 1) hy _).symm
theorem nat_xor {a : Nat} (h : a < 18446744073709551616) : a ^^^ 2 ^ 63 = (a + 9223372036854775808) % 18446744073709551616 := by
  have h1 : (a ^^^ 2 ^ 63) % 2 ^ 63 = a % 2 ^ 63 := by rw [Nat.xor_mod_two_pow, Nat.mod_self, Nat.xor_zero]
  have h2 : (a ^^^ 2 ^ 63) / 2 ^ 63 = (a / 2 ^ 63) ^^^ 1 := by rw [Nat.xor_div_two_pow, Nat.div_self (Nat.two_pow_pos 63)]
  have h3 : a / 2 ^ 63 = 0 ∨ a / 2 ^ 63 = 1 := by omega
  generalize a ^^^ 2 ^ 63 = t at h1 h2
  rcases h3 with h3 | h3
  · rw [h3] at h2
    have h2 : t / 2 ^ 63 = 1 := h2
    omega
  · rw [h3] at h2
    have h2 : t / 2 ^ 63 = 0 := h2
    omega
theorem uN_xor (x : Int64) : uN (x ^^^ (-9223372036854775808)) = (uN x + 9223372036854775808) % 18446744073709551616 := by
  rw [← nat_xor (uN_lt x)]
  exact UInt64.toNat_xor _ _
theorem uN_int (x : Int64) : x.toInt = if 2 * uN x < 18446744073709551616 then (uN x : Int) else (uN x : Int) - 18446744073709551616 := BitVec.toInt_eq_toNat_cond _
theorem uN_le (x y : Int64) : (x ^^^ (-9223372036854775808)) ≤ (y ^^^ (-9223372036854775808)) ↔ uN x ≤ uN y := by
  have hx := uN_lt x
  have hy := uN_lt y
  rw [Int64.le_iff_toInt_le, uN_int, uN_int, uN_xor, uN_xor]
  omega
theorem uN_sk (x : Int64) {k : Nat} (hk : k < 64) : uN (x.toUInt64 >>> ((nI k).toInt64.toUInt64 &&& Int64.toUInt64 63)).toInt64 = uN x / 2 ^ k := by
  have h : ((nI k).toInt64.toUInt64 &&& Int64.toUInt64 63).toNat % 64 = k := by
    rw [nI_l (by omega), UInt64.toNat_and]
    have e : (lN k).toUInt64.toNat = k % 2 ^ 64 := rfl
    have e2 : (Int64.toUInt64 63).toNat = 2 ^ 6 - 1 := by decide
    rw [e, e2, Nat.and_two_pow_sub_one_eq_mod]
    omega
  rw [uN_shr, h]
/-! ===== unsigned comparison by xor with the least ===== -/
theorem lN_bv (n : Nat) : (lN n).toBitVec = BitVec.ofNat 64 n := rfl
theorem lN_nat {n : Nat} (h : n < 2 ^ 64) : (lN n).toBitVec.toNat = n := by rw [lN_bv, BitVec.toNat_ofNat]; exact Nat.mod_eq_of_lt h
theorem lN_xor (a b : Nat) : lN a ^^^ lN b = lN (a ^^^ b) := by
  apply Int64.toBitVec_inj.mp; rw [Int64.toBitVec_xor, lN_bv, lN_bv, lN_bv]; apply BitVec.eq_of_getLsbD_eq; intro i hi; simp [BitVec.getLsbD_ofNat, Nat.testBit_xor, hi]
theorem lN_ti {m : Nat} (h : m < 2 ^ 64) : (lN m).toInt = if m < 2 ^ 63 then (m : Int) else (m : Int) - 2 ^ 64 := by
  have c := BitVec.toInt_eq_toNat_cond (lN m).toBitVec
  rw [lN_nat h] at c
  show (lN m).toBitVec.toInt = _
  rw [c]
  split <;> split <;> omega
theorem xor63 {x : Nat} (h : x < 2 ^ 63) : x ^^^ 2 ^ 63 = 2 ^ 63 + x := by
  apply Nat.eq_of_testBit_eq
  intro i
  rw [Nat.testBit_xor, Nat.testBit_two_pow]
  rcases Nat.lt_trichotomy i 63 with z | z | z
  · rw [Nat.testBit_two_pow_add_gt z, decide_eq_false (by omega)]; simp
  · subst z; rw [Nat.testBit_two_pow_add_eq]; simp
  · have hp : 2 ^ 64 ≤ 2 ^ i := Nat.pow_le_pow_right (by decide) z
    rw [Nat.testBit_lt_two_pow (show x < 2 ^ i by omega), Nat.testBit_lt_two_pow (show 2 ^ 63 + x < 2 ^ i by omega), decide_eq_false (by omega)]; rfl
theorem xorS {a : Nat} (h : a < 2 ^ 64) : (lN a ^^^ (-9223372036854775808)).toInt = (a : Int) - 2 ^ 63 := by
  rw [show (-9223372036854775808 : Int64) = lN (2 ^ 63) from by decide +kernel, lN_xor]
  rcases Nat.lt_or_ge a (2 ^ 63) with z | z
  · rw [xor63 z, lN_ti (by omega), if_neg (by omega)]; omega
  · obtain ⟨x, rfl⟩ : ∃ x, a = 2 ^ 63 + x := ⟨a - 2 ^ 63, by omega⟩
    rw [← xor63 (by omega), Nat.xor_assoc, Nat.xor_self, Nat.xor_zero, lN_ti (by omega), if_pos (by omega), xor63 (by omega)]; omega
theorem ultL {a b : Nat} (ha : a < 2 ^ 64) (hb : b < 2 ^ 64) : ((lN b ^^^ (-9223372036854775808)) ≤ (lN a ^^^ (-9223372036854775808))) ↔ b ≤ a := by
  rw [Int64.le_iff_toInt_le, xorS ha, xorS hb]; omega
/-! ===== Int64 masks of n low bits ===== -/
theorem cr_bits (W U M : BitVec 64) : ((W &&& U) &&& (U &&& (M ^^^ BitVec.allOnes 64))) = 0#64 ↔ (W &&& U) &&& M = W &&& U := by
  constructor
  · intro h
    apply BitVec.eq_of_getLsbD_eq
    intro i hi
    have e := congrArg (fun x => BitVec.getLsbD x i) h
    simp only [BitVec.getLsbD_and, BitVec.getLsbD_xor, BitVec.getLsbD_allOnes, BitVec.getLsbD_zero, hi, decide_true] at e ⊢
    revert e
    cases W.getLsbD i <;> cases U.getLsbD i <;> cases M.getLsbD i <;> decide
  · intro h
    apply BitVec.eq_of_getLsbD_eq
    intro i hi
    have e := congrArg (fun x => BitVec.getLsbD x i) h
    simp only [BitVec.getLsbD_and, BitVec.getLsbD_xor, BitVec.getLsbD_allOnes, BitVec.getLsbD_zero, hi, decide_true] at e ⊢
    revert e
    cases W.getLsbD i <;> cases U.getLsbD i <;> cases M.getLsbD i <;> decide
theorem cr_mask (w U m : Int64) (n : Nat) (hm : m.toBitVec.toNat = 2 ^ n - 1) : ((w &&& U) &&& (U &&& (m ^^^ (-1)))) = 0 ↔ (w &&& U).toBitVec.toNat < 2 ^ n := by
  have e0 : (-1 : Int64).toBitVec = BitVec.allOnes 64 := by decide
  have z0 : (0 : Int64).toBitVec = 0#64 := by decide
  rw [← Int64.toBitVec_inj, z0, Int64.toBitVec_and, Int64.toBitVec_and, Int64.toBitVec_and, Int64.toBitVec_xor, e0, cr_bits]
  generalize w.toBitVec &&& U.toBitVec = T
  rw [← BitVec.toNat_inj, BitVec.toNat_and, hm, Nat.and_two_pow_sub_one_eq_mod]
  constructor
  · intro h
    have t := Nat.mod_lt T.toNat (Nat.two_pow_pos n)
    rw [h] at t
    exact t
  · exact Nat.mod_eq_of_lt
theorem cr_shr (t : Int64) (x : UInt64) (n : Nat) (hx : x.toNat % 64 = n) : (t.toUInt64 >>> x).toInt64 = 0 ↔ t.toBitVec.toNat < 2 ^ n := by
  rw [← Int64.toBitVec_inj, ← BitVec.toNat_inj]
  show (t.toUInt64 >>> x).toNat = 0 ↔ t.toUInt64.toNat < 2 ^ n
  rw [UInt64.toNat_shiftRight, hx, Nat.shiftRight_eq_div_pow]
  constructor
  · intro h
    have d : t.toUInt64.toNat / 2 ^ n < 1 := by
      rw [h]
      decide
    have e := (Nat.div_lt_iff_lt_mul (Nat.two_pow_pos n)).mp d
    rw [Nat.one_mul] at e
    exact e
  · exact Nat.div_eq_of_lt
theorem cr_amt (s : Int64) : ∃ n, n < 64 ∧ s &&& 63 = lN n ∧ (s.toUInt64 &&& Int64.toUInt64 63).toNat % 64 = n := by
  have e : (s.toUInt64 &&& Int64.toUInt64 63).toNat = s.toUInt64.toNat % 2 ^ 6 := by
    rw [UInt64.toNat_and, show (Int64.toUInt64 63).toNat = 2 ^ 6 - 1 from by decide, Nat.and_two_pow_sub_one_eq_mod]
  refine ⟨s.toUInt64.toNat % 2 ^ 6, by omega, ?_, by omega⟩
  rw [← Int64.toBitVec_inj, ← BitVec.toNat_inj]
  show (s.toUInt64 &&& Int64.toUInt64 63).toNat = (BitVec.ofNat 64 (s.toUInt64.toNat % 2 ^ 6)).toNat
  rw [e, BitVec.toNat_ofNat]
  omega
end
section
/-! the base of this claim: the nest's words, worlds, calls that change nothing -/
/-- the words of nest mates: no list of words holds them -/
def NN (U : State) : Prop := va_Nw (.methodLinkNest RX1 21 yX4_isPart RX4) U ∧ va_Nw (.methodLinkNest RX2 49 yX4_hasBit RX4) U ∧ va_Nw (.methodLinkNest RX0 45 yX4_hasBit RX4) U ∧ va_Nw (.methodLinkNest RX4 18 yX0_init RX4) U ∧ va_Nw (.fieldLinkNest RX4 84 RX2 "sold" "[I" RX4) U ∧ va_Nw (.fieldLinkNest RX4 60 RX2 "landMonths" "[I" RX4) U ∧ va_Nw (.fieldLinkNest RX4 64 RX2 "landMiles" "[I" RX4) U ∧ va_Nw (.fieldLinkNest RX4 190 RX2 "size" "I" RX4) U ∧ va_Nw (.fieldLinkNest RX4 218 RX0 "part" "[I" RX4) U ∧ va_Nw (.fieldLinkNest RX4 221 RX0 "cost" "[I" RX4) U ∧ va_Nw (.fieldLinkNest RX4 215 RX0 "judged" "[I" RX4) U ∧ va_Nw (.fieldLinkNest RX4 94 RX0 "size" "I" RX4) U ∧ va_Nw (.fieldLinkNest RX4 150 RX1 "above" "[I" RX4) U ∧ va_Nw (.fieldLinkNest RX4 156 RX1 "maker" "[I" RX4) U ∧ va_Nw (.fieldLinkNest RX4 159 RX1 "share" "[I" RX4) U
theorem NN.warm {s U : State} (hW : s.WarmedH U.vm) (h : NN s) : NN U := by
  obtain ⟨h0, h1, h2, h3, h4, h5, h6, h7, h8, h9, h10, h11, h12, h13, h14⟩ := h
  exact ⟨h0.warmM hW, h1.warmM hW, h2.warmM hW, h3.warmM hW, h4.warmF hW, h5.warmF hW, h6.warmF hW, h7.warmF hW, h8.warmF hW, h9.warmF hW, h10.warmF hW, h11.warmF hW, h12.warmF hW, h13.warmF hW, h14.warmF hW⟩
theorem NN.same {u U : State} (e : u.vm = U.vm) (h : NN u) : NN U := by
  obtain ⟨h0, h1, h2, h3, h4, h5, h6, h7, h8, h9, h10, h11, h12, h13, h14⟩ := h
  exact ⟨h0.same rfl e, h1.same rfl e, h2.same rfl e, h3.same rfl e, h4.same rfl e, h5.same rfl e, h6.same rfl e, h7.same rfl e, h8.same rfl e, h9.same rfl e, h10.same rfl e, h11.same rfl e, h12.same rfl e, h13.same rfl e, h14.same rfl e⟩
/-- the array classes: int[], long[], long[][] -/
abbrev ty3 (cs : Nat → ClassId) : List (ClassId × FieldType) := [(cs 0, .int), (cs 1, .long), (cs 2, .array .long)]
/-- a world, and what the tables say -/
def pw (D : va_G) (cs : Nat → ClassId) (ws : va_W) (U : State) : Prop := va_P D vwCl ws U.heap ∧ va_K D vwCl (ty3 cs) U ∧ NN U
theorem pw.blind {D : va_G} {cs : Nat → ClassId} {ws : va_W} {av : List Value} : FrameBlind (va_Pc av (pw D cs ws)) := by
  intro a U g mk h
  obtain ⟨h0, hP, hK, hN⟩ := h
  exact ⟨h0, hP, va_K.moved (u := U) (U := U.calling g mk a) (Vm.Alike.refl U.vm) hK, NN.same (u := U) (U := U.calling g mk a) rfl hN⟩
theorem tr.blind {av : List Value} : FrameBlind (va_Pc av (fun _ => True)) := fun _ _ _ _ h => ⟨h.1, trivial⟩
theorem pw.go {D : va_G} {cs : Nat → ClassId} {ws : va_W} {s U : State} {H : Heap} (hU : U.heap = H) (hW : s.WarmedH U.vm) (hP : va_P D vwCl ws H) (hK : va_K D vwCl (ty3 cs) s) (hN : NN s) : pw D cs ws U := ⟨by rw [hU]; exact hP, va_K.moved hW.alike hK, NN.warm hW hN⟩
theorem va_P_l {D : va_G} {cl : List vw_C} {a b : va_W} {H : Heap} (h : va_P D cl (a ++ b) H) : va_P D cl a H := fun k q hk => h k q (by rw [List.getElem?_append_left (List.getElem?_eq_some_iff.mp hk).1]; exact hk)
theorem va_P_r {D : va_G} {cl : List vw_C} {a b : va_W} {H : Heap} (h : va_P D cl (a ++ b) H) : va_P D cl b H := fun k q hk => h (a.length + k) q (by rw [List.getElem?_append_right (Nat.le_add_right _ _), Nat.add_sub_cancel_left]; exact hk)
section RO
variable {p : Program} {l : Launch} {e : Env} {R : Room} {s : State} {m : MethodId} {args : Array Value} {below : List Frame} {meth : Method} {c : Code} {H : Heap} {locs : List Loc} {cells slots : Nat} {Q : State → Prop}
variable {cc bytes : ByteArray} {pc nL maxL n index : Nat} {ls : Array Slot} {ret : Option FieldType} {Ts wy : List Cond} {rm : Room} {own C host : String} {y : MethodName} {b : Addr} {As rest st0 : List Value} {D : va_G} {cs : Nat → ClassId} {wc : va_W} {ci N : Nat} {fs : List Value} {T : u_T}
theorem va_Run.cr {mc ms : Nat} {g : JFrame} {Qa : State → Outcome → State → Prop} {free : Addr → Prop} (h : va_Run p l e R s m args below meth c H locs cells slots mc ms g rest Qa free) : CallRun p l e R s m args below meth c H locs cells slots mc ms g rest Qa free := by
  intro T hT X
  obtain ⟨v, st₀, t, T', L, h0, X', hL, e1, e2, hq, st⟩ := h T hT X
  exact ⟨v, st₀, t, T', L, h0, X', hL, e1, hq, st⟩
theorem roVi {v : Int32} (S : CallFix p m c cc nL s args Ts own) (hM : Met l y wy rm (va_Pc (.ref b :: As) (pw D cs wc)) (vp_Si (fun r => r = v)) 0 0 (fun _ => False)) (cw : CallW R s args own C index y bytes maxL ret wy rm 0 0 n) (hP : va_P D vwCl wc H) (hK : va_K D vwCl (ty3 cs) s) (hN : NN s) (q0 : Nat) (he : wc[q0]? = some (b, .inr (ci, fs))) (hc : vwCl[ci]? = some (C, T, N)) (hn : As.length = n) (hsize : ls.size = nL) (hst : st0 = As.reverse ++ .ref b :: rest) (hW : (rest.map fun v => v.category).sum ≤ 8) (hdg : decode cc pc = .ok (.invokevirtual index, 3)) (hcl : cells ≤ R.cells ∧ slots ≤ R.slots)
    (k : W p l e R s m args below meth c H locs cells slots Q (F0 m (pc + 3) ls (.int v :: rest))) : W p l e R s m args below meth c H locs cells slots Q (F0 m pc ls st0) := by
  subst hst
  exact vp_callSi (W.runV (g := F0 m pc ls (As.reverse ++ .ref b :: rest)) S hM cw ⟨pw.blind, va_recv hK hP hc he, fun U hU hW => ⟨rfl, pw.go hU hW hP hK hN⟩⟩ rfl hn hsize rfl (lv_room hW) hdg hcl) (fun r hr => by subst hr; exact k)
theorem roVl {v : Int64} (S : CallFix p m c cc nL s args Ts own) (hM : Met l y wy rm (va_Pc (.ref b :: As) (pw D cs wc)) (vp_Sl (fun r => r = v)) 0 0 (fun _ => False)) (cw : CallW R s args own C index y bytes maxL ret wy rm 0 0 n) (hP : va_P D vwCl wc H) (hK : va_K D vwCl (ty3 cs) s) (hN : NN s) (q0 : Nat) (he : wc[q0]? = some (b, .inr (ci, fs))) (hc : vwCl[ci]? = some (C, T, N)) (hn : As.length = n) (hsize : ls.size = nL) (hst : st0 = As.reverse ++ .ref b :: rest) (hW : (rest.map fun v => v.category).sum ≤ 8) (hdg : decode cc pc = .ok (.invokevirtual index, 3)) (hcl : cells ≤ R.cells ∧ slots ≤ R.slots)
    (k : W p l e R s m args below meth c H locs cells slots Q (F0 m (pc + 3) ls (.long v :: rest))) : W p l e R s m args below meth c H locs cells slots Q (F0 m pc ls st0) := by
  subst hst
  exact vp_callSl (W.runV (g := F0 m pc ls (As.reverse ++ .ref b :: rest)) S hM cw ⟨pw.blind, va_recv hK hP hc he, fun U hU hW => ⟨rfl, pw.go hU hW hP hK hN⟩⟩ rfl hn hsize rfl (lv_room hW) hdg hcl) (fun r hr => by subst hr; exact k)
theorem roSi {v : Int32} (S : CallFix p m c cc nL s args Ts own) (hM : Met l y wy rm (va_Pc As (fun _ => True)) (vp_Si (fun r => r = v)) 0 0 (fun _ => False)) (cw : CallB R s args own index y bytes maxL ret wy rm 0 0 n ∧ (Cond.static y).before args s = true) (hn : As.length = n) (hsize : ls.size = nL) (hst : st0 = As.reverse ++ rest) (hW : (rest.map fun v => v.category).sum ≤ 8) (hdg : decode cc pc = .ok (.invokestatic index, 3)) (hcl : cells ≤ R.cells ∧ slots ≤ R.slots)
    (k : W p l e R s m args below meth c H locs cells slots Q (F0 m (pc + 3) ls (.int v :: rest))) : W p l e R s m args below meth c H locs cells slots Q (F0 m pc ls st0) := by
  subst hst
  exact vp_callSi (W.runS (g := F0 m pc ls (As.reverse ++ rest)) S hM cw ⟨tr.blind, fun U _ _ => ⟨rfl, trivial⟩⟩ rfl hn hsize rfl (lv_room hW) hdg hcl) (fun r hr => by subst hr; exact k)
theorem roSl {v : Int64} (S : CallFix p m c cc nL s args Ts own) (hM : Met l y wy rm (va_Pc As (fun _ => True)) (vp_Sl (fun r => r = v)) 0 0 (fun _ => False)) (cw : CallB R s args own index y bytes maxL ret wy rm 0 0 n ∧ (Cond.static y).before args s = true) (hn : As.length = n) (hsize : ls.size = nL) (hst : st0 = As.reverse ++ rest) (hW : (rest.map fun v => v.category).sum ≤ 8) (hdg : decode cc pc = .ok (.invokestatic index, 3)) (hcl : cells ≤ R.cells ∧ slots ≤ R.slots)
    (k : W p l e R s m args below meth c H locs cells slots Q (F0 m (pc + 3) ls (.long v :: rest))) : W p l e R s m args below meth c H locs cells slots Q (F0 m pc ls st0) := by
  subst hst
  exact vp_callSl (W.runS (g := F0 m pc ls (As.reverse ++ rest)) S hM cw ⟨tr.blind, fun U _ _ => ⟨rfl, trivial⟩⟩ rfl hn hsize rfl (lv_room hW) hdg hcl) (fun r hr => by subst hr; exact k)
theorem roNi {v : Int32} (S : CallFix p m c cc nL s args Ts own) (hM : Met l y wy rm (va_Pc As (fun _ => True)) (vp_Si (fun r => r = v)) 0 0 (fun _ => False)) (cw : va_CN R s args own index y host bytes maxL ret wy rm 0 0 n) (hst9 : (Cond.static y).before args s = true) (hn : As.length = n) (hsize : ls.size = nL) (hst : st0 = As.reverse ++ rest) (hW : (rest.map fun v => v.category).sum ≤ 8) (hdg : decode cc pc = .ok (.invokestatic index, 3)) (hcl : cells ≤ R.cells ∧ slots ≤ R.slots)
    (k : W p l e R s m args below meth c H locs cells slots Q (F0 m (pc + 3) ls (.int v :: rest))) : W p l e R s m args below meth c H locs cells slots Q (F0 m pc ls st0) := by
  subst hst
  exact vp_callSi (va_Run.cr (va_runSN (g := F0 m pc ls (As.reverse ++ rest)) S hM ⟨cw, hst9, trivial⟩ ⟨tr.blind, fun U _ _ => ⟨rfl, trivial⟩⟩ rfl hn hsize rfl (lv_room hW) hdg hcl)) (fun r hr => by subst hr; exact k)
/-- an element, its index by its place -/
theorem iaK {D : va_G} {cl : List vw_C} {tys : List (ClassId × FieldType)} {ws : va_W} {a : Nat} (hexec : p.tables.exec = Jvm.exec) (hb : c.code = cc) (hK : va_K D cl tys s) (hP : va_P D cl ws H) (q0 t0 : Nat) {cA : ClassId} {n : Nat} {f : Nat → Int32} (ha : ws[q0]? = some (a, .inl (cA, n, .inl f))) (ht : tys[t0]? = some (cA, .int)) {i : Int32} (j : Nat) {v : Int32} (hin : vp_in i n) (hj : i.toNatClampNeg = j) (hv : f j = v) (hdg : decode cc pc = .ok (.iaload, 1))
    (kk : W p l e R s m args below meth c H locs cells slots Q (F0 m (pc + 1) ls (.int v :: rest))) : W p l e R s m args below meth c H locs cells slots Q (F0 m pc ls (.int i :: .ref a :: rest)) := by
  subst hj; subst hv
  exact va_iald hexec hb hK hP q0 t0 ha ht hin hdg kk
theorem laK {D : va_G} {cl : List vw_C} {tys : List (ClassId × FieldType)} {ws : va_W} {a : Nat} (hexec : p.tables.exec = Jvm.exec) (hb : c.code = cc) (hK : va_K D cl tys s) (hP : va_P D cl ws H) (q0 t0 : Nat) {cA : ClassId} {n : Nat} {f : Nat → Int64} (ha : ws[q0]? = some (a, .inl (cA, n, .inr (.inl f)))) (ht : tys[t0]? = some (cA, .long)) {i : Int32} (j : Nat) {v : Int64} (hin : vp_in i n) (hj : i.toNatClampNeg = j) (hv : f j = v) (hdg : decode cc pc = .ok (.laload, 1))
    (kk : W p l e R s m args below meth c H locs cells slots Q (F0 m (pc + 1) ls (.long v :: rest))) : W p l e R s m args below meth c H locs cells slots Q (F0 m pc ls (.int i :: .ref a :: rest)) := by
  subst hj; subst hv
  exact va_lald hexec hb hK hP q0 t0 ha ht hin hdg kk
end RO
/-- a loop that counts up -/
theorem lpU {P : Array Slot → Prop} (I : Nat → Array Slot → Prop) (N k0 : Nat) (hk : k0 ≤ N) (ls : Array Slot) (h0 : I k0 ls) (hend : ∀ ls, I N ls → P ls) (hstep : ∀ k, k0 ≤ k → k < N → (∀ ls, I (k + 1) ls → P ls) → ∀ ls, I k ls → P ls) : P ls := by
  have h : ∀ (f k : Nat), k0 ≤ k → k + f = N → ∀ ls, I k ls → P ls := by
    intro f
    induction f with
    | zero => intro k _ hk ls h; rw [Nat.add_zero] at hk; subst hk; exact hend ls h
    | succ f ih => intro k h1 hk ls h; exact hstep k h1 (by omega) (fun ls h => ih (k + 1) (by omega) (by omega) ls h) ls h
  exact h (N - k0) k0 (Nat.le_refl _) (by omega) ls h0
theorem lpW {p : Program} {l : Launch} {e : Env} {R : Room} {s : State} {m : MethodId} {args : Array Value} {below : List Frame} {meth : Method} {c : Code} {H : Heap} {locs : List Loc} {cells slots : Nat} {Q : State → Prop} {pc : Nat} {st : List Value} (I : Nat → Array Slot → Prop) (N k0 : Nat) (hk : k0 ≤ N) (ls : Array Slot) (h0 : I k0 ls) (hend : ∀ ls, I N ls → W p l e R s m args below meth c H locs cells slots Q (F0 m pc ls st)) (hstep : ∀ k, k0 ≤ k → k < N → (∀ ls, I (k + 1) ls → W p l e R s m args below meth c H locs cells slots Q (F0 m pc ls st)) → ∀ ls, I k ls → W p l e R s m args below meth c H locs cells slots Q (F0 m pc ls st)) : W p l e R s m args below meth c H locs cells slots Q (F0 m pc ls st) := lpU (P := fun ls => W p l e R s m args below meth c H locs cells slots Q (F0 m pc ls st)) I N k0 hk ls h0 hend hstep
theorem lv_cast {ls : Array Slot} {nL : Nat} {a b : List (Nat × Value)} (h : lv_has ls nL a) (e : a = b) : lv_has ls nL b := e ▸ h
/-! Bool as an int -/
def bI (b : Bool) : Int32 := if b = true then 1 else 0
theorem bI_t {b : Bool} (h : ¬ bI b = 0) : b = true := by cases b <;> simp_all [bI]
theorem bI_f {b : Bool} (h : bI b = 0) : b = false := by cases b <;> simp_all [bI]
theorem bI_n (b : Bool) : narrow .boolean (.int (bI b)) = .int (bI b) := by cases b <;> rfl
theorem bI_1 : bI true = 1 := rfl
theorem bI_0 : bI false = 0 := rfl
/-- between two bounds -/
def rg (x lo hi : Int32) : Bool := decide (lo ≤ x) && decide (x ≤ hi)
/-- how many, a sum, whether any -/
def ctI (p : Nat → Bool) : Nat → Int32
  | 0 => 0
  | k + 1 => if p k = true then ctI p k + 1 else ctI p k
def smI (f : Nat → Int32) : Nat → Int32
  | 0 => 0
  | k + 1 => smI f k + f k
def anyB (p : Nat → Bool) : Nat → Bool
  | 0 => false
  | k + 1 => anyB p k || p k
abbrev ix (x : Int32) : Nat := x.toNatClampNeg
/-! the worlds -/
abbrev oW (q : Nat → Nat) (g : Int32) : va_W := [(q 0, .inr (4, [.ref (q 1), .ref (q 2), .ref (q 3), .ref (q 4), .int g]))]
abbrev tW (q : Nat → Nat) (cs : Nat → ClassId) (F : Nat → Nat → Int32) (n : Nat) : va_W := [(q 1, .inr (2, [.ref (q 10), .ref (q 11), .ref (q 12), .ref (q 13), .ref (q 14), .ref (q 15), .int (nI n)])), (q 10, .inl (cs 0, 60, .inl (F 0))), (q 11, .inl (cs 0, 60, .inl (F 1))), (q 12, .inl (cs 0, 60, .inl (F 2))), (q 13, .inl (cs 0, 60, .inl (F 3))), (q 14, .inl (cs 0, 4, .inl (F 4))), (q 15, .inl (cs 0, 4, .inl (F 5)))]
abbrev cW (q : Nat → Nat) (cs : Nat → ClassId) (F : Nat → Nat → Int32) (c : Nat) : va_W := [(q 2, .inr (0, [.ref (q 20), .ref (q 21), .ref (q 22), .ref (q 23), .ref (q 24), .ref (q 25), .ref (q 26), .int (nI c)])), (q 20, .inl (cs 0, 100, .inl (F 6))), (q 21, .inl (cs 0, 100, .inl (F 7))), (q 22, .inl (cs 0, 100, .inl (F 8))), (q 23, .inl (cs 0, 100, .inl (F 9))), (q 24, .inl (cs 0, 100, .inl (F 10))), (q 25, .inl (cs 0, 100, .inl (F 15))), (q 26, .inl (cs 0, 100, .inl (F 11)))]
abbrev pW (q : Nat → Nat) (cs : Nat → ClassId) (F : Nat → Nat → Int32) : va_W := [(q 3, .inr (1, [.ref (q 30), .ref (q 31), .ref (q 32)])), (q 30, .inl (cs 0, 10, .inl (F 12))), (q 31, .inl (cs 0, 10, .inl (F 13))), (q 32, .inl (cs 0, 10, .inl (F 14)))]
def chs : Nat → Nat → Nat
  | _, 0 => 1
  | 0, _ + 1 => 0
  | n + 1, k + 1 => chs n k + chs n (k + 1)
def wyF : Nat → Int64 := fun i => lN (chs (i / 61) (i % 61))
abbrev mW (q : Nat → Nat) (cs : Nat → ClassId) (F : Nat → Nat → Int32) (n c : Nat) (g : Int32) (up lo : Int64) : va_W := [(q 200, .inr (5, [.ref (q 201), .ref (q 202), .int (nI n), .ref (q 203), .ref (q 204), .ref (q 205), .ref (q 206), .int g, .int (nI c), .ref (q 207), .ref (q 208), .ref (q 209), .ref (q 210), .ref (q 211), .ref (q 212), .ref (q 213), .long up, .long lo, .ref (q 214), .ref (q 215), .ref (q 216)])), (q 201, .inl (cs 0, 4, .inl (F 4))), (q 202, .inl (cs 0, 4, .inl (F 5))), (q 203, .inl (cs 0, 60, .inl (F 0))), (q 204, .inl (cs 0, 60, .inl (F 1))), (q 205, .inl (cs 0, 60, .inl (F 2))), (q 206, .inl (cs 0, 60, .inl (F 3))), (q 207, .inl (cs 0, 100, .inl (F 6))), (q 208, .inl (cs 0, 100, .inl (F 7))), (q 209, .inl (cs 0, 100, .inl (F 8))), (q 210, .inl (cs 0, 100, .inl (F 9))), (q 211, .inl (cs 0, 100, .inl (F 10))), (q 212, .inl (cs 0, 100, .inl (F 11))), (q 213, .inl (cs 1, 3721, .inr (.inl wyF))), (q 214, .inl (cs 0, 10, .inl (F 12))), (q 215, .inl (cs 0, 10, .inl (F 13))), (q 216, .inl (cs 0, 10, .inl (F 14)))]
abbrev wW (q : Nat → Nat) (cs : Nat → ClassId) : va_W := [(q 4, .inr (3, [.ref (q 40)])), (q 40, .inl (cs 2, 61, .inr (.inr (.inr (.inr (fun i => if i < 61 then some (q (50 + i)) else none))))))] ++ (List.range 61).map (fun i => (q (50 + i), .inl (cs 1, 61, .inr (.inl (fun j => lN (chs i j))))))
abbrev xW (q : Nat → Nat) (cs : Nat → ClassId) (F : Nat → Nat → Int32) (n c : Nat) (g : Int32) : va_W := oW q g ++ (tW q cs F n ++ (cW q cs F c ++ (pW q cs F ++ wW q cs)))
end
section
theorem i_nlt {a b : Int32} (h : ¬ a < b) : b ≤ a := by
  rw [Int32.le_iff_toInt_le]; rw [Int32.lt_iff_toInt_lt] at h; omega
theorem i_nle {a b : Int32} (h : ¬ a ≤ b) : b < a := by
  rw [Int32.lt_iff_toInt_lt]; rw [Int32.le_iff_toInt_le] at h; omega
theorem i_lt {a b : Int32} (h : a < b) : ¬ b ≤ a := by
  rw [Int32.le_iff_toInt_le]; rw [Int32.lt_iff_toInt_lt] at h; omega
theorem i_le {a b : Int32} (h : a ≤ b) : ¬ b < a := by
  rw [Int32.lt_iff_toInt_lt]; rw [Int32.le_iff_toInt_le] at h; omega
theorem i_nltL {a b : Int64} (h : ¬ a < b) : b ≤ a := by
  rw [Int64.le_iff_toInt_le]; rw [Int64.lt_iff_toInt_lt] at h; omega
theorem i_nleL {a b : Int64} (h : ¬ a ≤ b) : b < a := by
  rw [Int64.lt_iff_toInt_lt]; rw [Int64.le_iff_toInt_le] at h; omega
theorem i_ltL {a b : Int64} (h : a < b) : ¬ b ≤ a := by
  rw [Int64.le_iff_toInt_le]; rw [Int64.lt_iff_toInt_lt] at h; omega
theorem i_leL {a b : Int64} (h : a ≤ b) : ¬ b < a := by
  rw [Int64.lt_iff_toInt_lt]; rw [Int64.le_iff_toInt_le] at h; omega
/-- from a range, the place -/
theorem rg_nat {x : Int32} {N : Nat} (hN : N < 2 ^ 31) {M : Int32} (hM : M.toInt = (N : Int) - 1) (h : rg x 0 M = true) : ∃ j : Nat, j < N ∧ x = nI j := by
  simp only [rg, Bool.and_eq_true, decide_eq_true_eq, Int32.le_iff_toInt_le, Int32.toInt_zero] at h
  refine ⟨x.toInt.toNat, by omega, ?_⟩
  apply Int32.toInt_inj.mp
  rw [nI_toInt (by omega)]
  omega
theorem rg_in {x : Int32} {N : Nat} (hN : N < 2 ^ 31) {M : Int32} (hM : M.toInt = (N : Int) - 1) (h : rg x 0 M = true) : vp_in x N := by
  obtain ⟨j, hj, rfl⟩ := rg_nat hN hM h
  exact vp_in_nI hj hN
/-! chains of parts -/
def itP (F : Nat → Nat → Int32) : Nat → Int32 → Int32
  | 0, x => x
  | k + 1, x => if rg (itP F k x) 0 9 = true then F 12 (ix (itP F k x)) else itP F k x
def InvT (F : Nat → Nat → Int32) (t : Nat) : Prop := rg (F 0 t) 0 7 = true ∧ rg (F 1 t) 0 119 = true ∧ rg (F 2 t) 0 5000 = true ∧ rg (F 3 t) 0 3 = true
def InvL (F : Nat → Nat → Int32) (i : Nat) : Prop := rg (F 4 i) 0 120 = true ∧ rg (F 5 i) 0 600000 = true
def InvC (F : Nat → Nat → Int32) (n k : Nat) : Prop := (∃ t, t < n ∧ F 6 k = nI t) ∧ rg (F 7 k) 0 9 = true ∧ rg (F 8 k) 0 300 = true ∧ rg (F 9 k) 0 300 = true ∧ F 8 k ≤ F 9 k ∧ rg (F 10 k) 0 10000 = true ∧ rg (F 11 k) 0 4 = true ∧ F 15 k = F 8 k - F 1 (ix (F 6 k))
def InvQ (F : Nat → Nat → Int32) (i : Nat) : Prop := rg (F 12 i) (-1) 9 = true ∧ rg (F 13 i) (-1) 5 = true ∧ rg (F 14 i) 0 100 = true ∧ ∃ j, itP F j (nI i) = -1
def Inv (F : Nat → Nat → Int32) (n c : Nat) : Prop := n ≤ 60 ∧ c ≤ 100 ∧ (∀ t, t < n → InvT F t) ∧ (∀ i, i < 4 → InvL F i) ∧ (∀ k, k < c → InvC F n k) ∧ (∀ i, i < 10 → InvQ F i)
theorem Inv.n60 {F : Nat → Nat → Int32} {n c : Nat} (h : Inv F n c) : n ≤ 60 := h.1
theorem Inv.c100 {F : Nat → Nat → Int32} {n c : Nat} (h : Inv F n c) : c ≤ 100 := h.2.1
theorem Inv.T {F : Nat → Nat → Int32} {n c : Nat} (h : Inv F n c) {t : Nat} (ht : t < n) : InvT F t := h.2.2.1 t ht
theorem Inv.Lb {F : Nat → Nat → Int32} {n c : Nat} (h : Inv F n c) {i : Nat} (ht : i < 4) : InvL F i := h.2.2.2.1 i ht
theorem Inv.C {F : Nat → Nat → Int32} {n c : Nat} (h : Inv F n c) {k : Nat} (ht : k < c) : InvC F n k := h.2.2.2.2.1 k ht
theorem Inv.Q {F : Nat → Nat → Int32} {n c : Nat} (h : Inv F n c) {i : Nat} (ht : i < 10) : InvQ F i := h.2.2.2.2.2 i ht
/-- the land of a thing is a place -/
theorem Inv.land {F : Nat → Nat → Int32} {n c : Nat} (h : Inv F n c) {t : Nat} (ht : t < n) : vp_in (F 3 t) 4 := rg_in (by decide) (by decide) (h.T ht).2.2.2
theorem Inv.ct {F : Nat → Nat → Int32} {n c : Nat} (h : Inv F n c) {k : Nat} (ht : k < c) : ix (F 6 k) < n := by
  obtain ⟨t, h1, h2⟩ := (h.C ht).1
  have := h.n60
  rw [ix, h2, nI_clamp (by omega)]; exact h1
theorem Inv.ctE {F : Nat → Nat → Int32} {n c : Nat} (h : Inv F n c) {k : Nat} (ht : k < c) : F 6 k = nI (ix (F 6 k)) := by
  obtain ⟨t, h1, h2⟩ := (h.C ht).1
  have := h.n60
  rw [ix, h2, nI_clamp (by omega)]
theorem Inv.ctV {F : Nat → Nat → Int32} {n c : Nat} (h : Inv F n c) {k : Nat} (ht : k < c) : vp_in (F 6 k) 60 := by
  obtain ⟨t, h1, h2⟩ := (h.C ht).1
  have := h.n60
  rw [h2]; exact vp_in_nI (by omega) (by decide)
theorem Inv.cpV {F : Nat → Nat → Int32} {n c : Nat} (h : Inv F n c) {k : Nat} (ht : k < c) : vp_in (F 7 k) 10 := rg_in (by decide) (by decide) (h.C ht).2.1
/-! what is asked of claims -/
def sLetBy (F : Nat → Nat → Int32) (by_ : Int32) (k : Nat) : Bool := decide (F 11 k = 0) && decide (F 9 k ≤ by_)
def sAny (F : Nat → Nat → Int32) (t p from_ to_ : Int32) (k : Nat) : Bool := decide (F 6 k = t) && decide (F 7 k = p) && decide (F 11 k = 0) && rg (F 8 k) from_ to_
def sTell (F : Nat → Nat → Int32) (k : Nat) (w : Int32) : Int32 := if w = 0 then F 6 k else if w = 1 then F 7 k else if w = 2 then F 8 k else if w = 3 then F 9 k else if w = 4 then F 10 k else if w = 5 then F 11 k else F 9 k - F 8 k
def sAge (F : Nat → Nat → Int32) (w by_ : Int32) (k : Nat) : Bool := sLetBy F by_ k && decide (F 15 k = w)
def sTab (F : Nat → Nat → Int32) (s w by_ : Int32) (k : Nat) : Bool := sLetBy F by_ k && decide (F 15 k = w) && decide (F 8 k = s + w)
def sFail (F : Nat → Nat → Int32) (m by_ : Int32) (k : Nat) : Bool := sLetBy F by_ k && decide (F 8 k = m)
def sDel (F : Nat → Nat → Int32) (least most by_ : Int32) (k : Nat) : Bool := decide (F 8 k ≤ by_ - 11) && sLetBy F by_ k && decide (least ≤ F 9 k - F 8 k) && decide (F 9 k - F 8 k ≤ most)
def sJud (F : Nat → Nat → Int32) (w : Int32) (k : Nat) : Bool := decide (F 11 k = w)
def sCost (F : Nat → Nat → Int32) (k : Nat) : Int32 := if F 11 k = 0 then F 10 k else 0
def sHas (b : Int64) (p : Int32) : Bool := decide (¬ ((b.toUInt64 >>> (p.toInt64.toUInt64 &&& Int64.toUInt64 63)).toInt64 &&& 1) = 0)
def orL (p : Nat → Bool) (v : Nat → Int64) : Nat → Int64
  | 0 => 0
  | k + 1 => if p k = true then orL p v k ||| v k else orL p v k
def sHit (F : Nat → Nat → Int32) (bits by_ : Int32) (k : Nat) : Bool := sLetBy F by_ k && sHas bits.toInt64 (F 7 k)
def bit1 (x : Int32) : Int64 := (1 : Int64) <<< (x.toInt64 &&& 63)
def fdL (f : Nat → Int64) (h : Int64) : Nat → Int64
  | 0 => h
  | j + 1 => 31 * fdL f h j + f j
def dgC (F : Nat → Nat → Int32) (h : Int64) : Nat → Int64
  | 0 => h
  | k + 1 => fdL (fun j => (sTell F k (nI j)).toInt64) (dgC F h k) 7
theorem anyB_t {p : Nat → Bool} : ∀ {c k : Nat}, k < c → p k = true → anyB p c = true
  | 0, _, h, _ => absurd h (Nat.not_lt_zero _)
  | c + 1, k, h, hp => by
    simp only [anyB, Bool.or_eq_true]
    rcases Nat.lt_or_ge k c with q | q
    · exact Or.inl (anyB_t q hp)
    · exact Or.inr (by rw [show c = k by omega]; exact hp)
/-- a switch's default -/
theorem sw_out {x : Int32} {lo hi : Int} (h1 : -100 ≤ lo) (h2 : hi ≤ 100) (h : ∀ j : Nat, lo ≤ (j : Int) → (j : Int) ≤ hi → ¬ x = Int32.ofNat j) (h0 : 0 ≤ lo := by decide) : x.toInt < lo ∨ hi < x.toInt := by
  rcases Classical.em (x.toInt < lo) with q | q
  · exact Or.inl q
  rcases Classical.em (hi < x.toInt) with q2 | q2
  · exact Or.inr q2
  exfalso
  refine h x.toInt.toNat (by omega) (by omega) ?_
  apply Int32.toInt_inj.mp
  have := nI_toInt (n := x.toInt.toNat) (by omega)
  rw [show Int32.ofNat x.toInt.toNat = nI x.toInt.toNat from rfl, this]
  omega
/-- whether a part is another one or stands under it; the first with a maker -/
def stn (F : Nat → Nat → Int32) (top : Int32) : Nat → Int32 → Bool
  | 0, _ => false
  | f + 1, x => if rg x 0 9 = true then (if x = top then true else stn F top f (F 12 (ix x))) else false
def fwm (F : Nat → Nat → Int32) : Nat → Int32 → Int32
  | 0, _ => -1
  | f + 1, x => if rg x 0 9 = true then (if F 13 (ix x) = -1 then fwm F f (F 12 (ix x)) else x) else -1
theorem stn_0 {F : Nat → Nat → Int32} {top x : Int32} : ∀ f, rg x 0 9 = false → stn F top f x = false
  | 0, _ => rfl
  | f + 1, h => by simp [stn, h]
theorem stn_s {F : Nat → Nat → Int32} {top x v : Int32} {f k : Nat} {r : Bool} (hk : k < f) (hx : rg x 0 9 = true) (hn : ¬ x = top) (h : stn F top (f - k) x = r) (hv : F 12 (ix x) = v) : stn F top (f - (k + 1)) v = r := by
  rw [show f - k = (f - (k + 1)) + 1 by omega, stn, if_pos hx, if_neg hn, hv] at h
  exact h
theorem stn_t {F : Nat → Nat → Int32} {top x : Int32} {f k : Nat} {r : Bool} (hk : k < f) (hx : rg x 0 9 = true) (hn : x = top) (h : stn F top (f - k) x = r) : r = true := by
  rw [show f - k = (f - (k + 1)) + 1 by omega, stn, if_pos hx, if_pos hn] at h
  exact h.symm
theorem stn_e {F : Nat → Nat → Int32} {top x : Int32} {f k : Nat} {r : Bool} (hx : rg x 0 9 = false) (h : stn F top (f - k) x = r) : r = false := by
  rw [stn_0 _ hx] at h
  exact h.symm
theorem fwm_0 {F : Nat → Nat → Int32} {x : Int32} : ∀ f, rg x 0 9 = false → fwm F f x = -1
  | 0, _ => rfl
  | f + 1, h => by simp [fwm, h]
theorem fwm_s {F : Nat → Nat → Int32} {x v : Int32} {f k : Nat} {r : Int32} (hk : k < f) (hx : rg x 0 9 = true) (hn : F 13 (ix x) = -1) (h : fwm F (f - k) x = r) (hv : F 12 (ix x) = v) : fwm F (f - (k + 1)) v = r := by
  rw [show f - k = (f - (k + 1)) + 1 by omega, fwm, if_pos hx, if_pos hn, hv] at h
  exact h
theorem fwm_t {F : Nat → Nat → Int32} {x : Int32} {f k : Nat} {r : Int32} (hk : k < f) (hx : rg x 0 9 = true) (hn : ¬ F 13 (ix x) = -1) (h : fwm F (f - k) x = r) : x = r := by
  rw [show f - k = (f - (k + 1)) + 1 by omega, fwm, if_pos hx, if_neg hn] at h
  exact h
theorem fwm_e {F : Nat → Nat → Int32} {x : Int32} {f k : Nat} {r : Int32} (hx : rg x 0 9 = false) (h : fwm F (f - k) x = r) : -1 = r := by
  rw [fwm_0 _ hx] at h
  exact h
def wau (F : Nat → Nat → Int32) (top : Int32) : Nat → Int32
  | 0 => 0
  | k + 1 => if stn F top 10 (nI k) = true then wau F top k ||| ((1 : Int32) <<< (nI k &&& 31)) else wau F top k
def dgP (F : Nat → Nat → Int32) (h : Int64) : Nat → Int64
  | 0 => h
  | k + 1 => 31 * (31 * (31 * dgP F h k + (F 12 k).toInt64) + (F 13 k).toInt64) + (F 14 k).toInt64
/-! things -/
def hasT (n : Nat) (x : Int32) : Bool := decide (0 ≤ x) && decide (x < nI n)
theorem hasT_nat {n : Nat} {x : Int32} (hn : n ≤ 60) (h : hasT n x = true) : ∃ t : Nat, t < n ∧ x = nI t := by
  simp only [hasT, Bool.and_eq_true, decide_eq_true_eq, Int32.le_iff_toInt_le, Int32.lt_iff_toInt_lt, Int32.toInt_zero, nI_toInt (show n < 2 ^ 31 by omega)] at h
  refine ⟨x.toInt.toNat, by omega, ?_⟩
  apply Int32.toInt_inj.mp
  rw [nI_toInt (by omega)]
  omega
def sProm (F : Nat → Nat → Int32) (t : Nat) (mo : Int32) : Bool := decide (0 ≤ mo - F 1 t) && decide (mo - F 1 t < F 4 (ix (F 3 t))) && decide ((mo - F 1 t) * F 2 t < F 5 (ix (F 3 t)))
def sLast (F : Nat → Nat → Int32) (t : Nat) : Int32 := if F 4 (ix (F 3 t)) = 0 then -1 else if F 5 (ix (F 3 t)) = 0 then -1 else if 0 < F 2 t then F 1 t + (if (F 5 (ix (F 3 t)) - 1) / F 2 t < F 4 (ix (F 3 t)) - 1 then (F 5 (ix (F 3 t)) - 1) / F 2 t else F 4 (ix (F 3 t)) - 1) else F 1 t + (F 4 (ix (F 3 t)) - 1)
def sExp (F : Nat → Nat → Int32) (a mo : Int32) (t : Nat) : Bool := decide (F 1 t + a ≤ mo) && sProm F t (F 1 t + a)
def sSold (F : Nat → Nat → Int32) (bs fr to0 : Int32) (k : Nat) : Bool := sHas bs.toInt64 (F 0 k) && rg (F 1 k) fr to0
def dgT (F : Nat → Nat → Int32) (h : Int64) : Nat → Int64
  | 0 => h
  | k + 1 => 31 * (31 * (31 * (31 * (31 * dgT F h k + (F 0 k).toInt64) + (F 1 k).toInt64) + (F 2 k).toInt64) + (F 3 k).toInt64) + (sLast F k).toInt64
theorem i_pos0 {x : Int32} (h : ¬ x ≤ 0) : ¬ x = 0 := fun e => h (by rw [e]; exact Int32.le_refl 0)
theorem bnot_f {b : Bool} (h : (!b) = false) : b = true := by cases b <;> simp_all
theorem bnot_t {b : Bool} (h : (!b) = true) : b = false := by cases b <;> simp_all
theorem w_le (a b : Int32) : a.toInt64 ≤ b.toInt64 ↔ a ≤ b := by
  rw [Int64.le_iff_toInt_le, Int32.le_iff_toInt_le, Int32.toInt_toInt64, Int32.toInt_toInt64]
theorem w_lt (a b : Int32) : a.toInt64 < b.toInt64 ↔ a < b := by
  rw [Int64.lt_iff_toInt_lt, Int32.lt_iff_toInt_lt, Int32.toInt_toInt64, Int32.toInt_toInt64]
theorem cg1 {α : Type} (f : α → List (Nat × Value)) {a b : α} (h : a = b) : f a = f b := by rw [h]
theorem cg2 {α β : Type} (f : α → β → List (Nat × Value)) {a b : α} {c d : β} (h : a = b) (h2 : c = d) : f a c = f b d := by rw [h, h2]
theorem cg3 {α β γ : Type} (f : α → β → γ → List (Nat × Value)) {a b : α} {c d : β} {x y : γ} (h : a = b) (h2 : c = d) (h3 : x = y) : f a c x = f b d y := by rw [h, h2, h3]
theorem cg4 {α β γ δ : Type} (f : α → β → γ → δ → List (Nat × Value)) {a b : α} {c d : β} {x y : γ} {u v : δ} (h : a = b) (h2 : c = d) (h3 : x = y) (h4 : u = v) : f a c x u = f b d y v := by rw [h, h2, h3, h4]
theorem hasT_rg {n : Nat} (hn : n ≤ 60) (x : Int32) : rg x 0 (nI n - 1) = hasT n x := by
  have e : (nI n - 1).toInt = (n : Int) - 1 := by
    rw [show (1 : Int32) = nI 1 from rfl, pk_sub_toInt (by omega) (by decide)]; rfl
  have h1 : (x ≤ nI n - 1) ↔ x < nI n := by
    rw [Int32.le_iff_toInt_le, Int32.lt_iff_toInt_lt, e, nI_toInt (by omega)]; omega
  simp only [rg, hasT, h1]
/-- below a size: a place -/
theorem lt_nat {n : Nat} {x : Int32} (hn : n ≤ 100) (h0 : ¬ x < 0) (h : x < nI n) : ∃ t : Nat, t < n ∧ x = nI t := by
  rw [Int32.lt_iff_toInt_lt] at h0 h
  rw [nI_toInt (show n < 2 ^ 31 by omega)] at h
  rw [Int32.toInt_zero] at h0
  refine ⟨x.toInt.toNat, by omega, ?_⟩
  apply Int32.toInt_inj.mp
  rw [nI_toInt (by omega)]
  omega
theorem rg_nn {x M : Int32} (h : rg x 0 M = true) : ¬ x < 0 := by
  simp only [rg, Bool.and_eq_true, decide_eq_true_eq, Int32.le_iff_toInt_le, Int32.toInt_zero] at h
  rw [Int32.lt_iff_toInt_lt, Int32.toInt_zero]; omega
/-! the model's own forms -/
def lsK (F : Nat → Nat → Int32) (t : Nat) : Nat → Int32
  | 0 => -1
  | k + 1 => if sProm F t (F 1 t + nI k) = true then F 1 t + nI k else lsK F t k
theorem ls_end {x : Int32} (h : rg x 0 119 = true) : x + 120 < x + nI 121 := by
  obtain ⟨j, hj, rfl⟩ := rg_nat (N := 120) (by decide) (by decide) h
  rw [show (120 : Int32) = nI 120 from rfl, nI_add, nI_add]
  exact nI_lt (by omega) (by omega)
theorem ls_in {x : Int32} {k : Nat} (h : rg x 0 119 = true) (hk : k < 121) : ¬ x + 120 < x + nI k := by
  obtain ⟨j, hj, rfl⟩ := rg_nat (N := 120) (by decide) (by decide) h
  rw [show (120 : Int32) = nI 120 from rfl, nI_add, nI_add]
  exact nI_nlt (by omega) (by omega)
def aPromised (F : Nat → Nat → Int32) (n : Nat) (x mo : Int32) : Int32 := if hasT n x = true then (if rg mo 0 300 = true then bI (sProm F (ix x) mo) else -2) else -2
def sJudge (F : Nat → Nat → Int32) (c : Nat) (g : Int32) (t : Nat) (p0 mo : Int32) : Int32 := if mo < F 1 t then 1 else if anyB (sAny F (nI t) p0 mo mo) c = true then 2 else if sProm F t mo = true then (if anyB (sAny F (nI t) p0 (mo - g) (mo - 1)) c = true then 4 else 0) else 3
def aAbout (F : Nat → Nat → Int32) (c : Nat) (x w : Int32) : Int32 := if x < 0 then -2 else if rg w 0 6 = true then (if x < nI c then sTell F (ix x) w else -1) else -2
def sTabM (F : Nat → Nat → Int32) (s0 a mo : Int32) (k : Nat) : Bool := sLetBy F mo k && decide (F 1 (ix (F 6 k)) = s0) && decide (F 8 k = s0 + a)
def r3 (b1 b2 b3 : Bool) (v : Int32) : Int32 := if b1 = true then (if b2 = true then (if b3 = true then v else -2) else -2) else -2
def r2 (b1 b2 : Bool) (v : Int32) : Int32 := if b1 = true then (if b2 = true then v else -2) else -2
def sDelM (F : Nat → Nat → Int32) (d mo : Int32) (k : Nat) : Bool := sLetBy F mo k && decide (F 9 k - F 8 k = d) && decide (F 8 k ≤ mo - 11)
def sLD (F : Nat → Nat → Int32) (c : Nat) (mo : Int32) (d : Nat) : Int32 := ctI (sDelM F (nI d) mo) c
def sLE (F : Nat → Nat → Int32) (c : Nat) (f0 mo : Int32) (d : Nat) : Int32 := if nI d ≤ mo - f0 then sLD F c mo d else 0
def aUndM (F : Nat → Nat → Int32) (c : Nat) (f0 mo : Int32) : Int32 := if rg f0 0 300 = true then (if rg mo 0 300 = true then (if f0 ≤ mo then (if mo - f0 < 11 then (if smI (sLE F c f0 mo) 12 = 0 then -1 else ctI (sFail F f0 mo) c * smI (sLD F c mo) 12 / smI (sLE F c f0 mo) 12) else ctI (sFail F f0 mo) c) else -2) else -2) else -2
def sHasC (F : Nat → Nat → Int32) (t : Nat) (p0 mo : Int32) (k : Nat) : Bool := sLetBy F mo k && decide (F 6 k = nI t) && decide (F 7 k = p0)
def aPayer (F : Nat → Nat → Int32) (x : Int32) : Int32 := if rg x 0 9 = true then (if rg (fwm F 10 x) 0 9 = true then F 13 (ix (fwm F 10 x)) else -1) else -2
def sPaid (F : Nat → Nat → Int32) (who : Int32) (k : Nat) : Int32 := if F 11 k = 0 then (if rg (fwm F 10 (F 7 k)) 0 9 = true then (if who < 0 then F 10 k * F 14 (ix (fwm F 10 (F 7 k))) / 100 else if F 13 (ix (fwm F 10 (F 7 k))) = who then F 10 k * F 14 (ix (fwm F 10 (F 7 k))) / 100 else 0) else 0) else 0
def aPays (F : Nat → Nat → Int32) (c : Nat) (who : Int32) : Int32 := if rg who 0 5 = true then smI (sPaid F who) c else -2
def sbI (f : Nat → Int32) (v : Int32) : Nat → Int32
  | 0 => v
  | k + 1 => sbI f v k - f k
def sCb (F : Nat → Nat → Int32) (bs fr to0 : Int32) (t : Nat) : Bool := decide (((bs >>> (F 0 t &&& 31)) &&& 1) = 1) && rg (F 1 t) fr to0
def sCc (F : Nat → Nat → Int32) (t : Nat) (pt : Int32) (k : Nat) : Bool := decide (F 11 k = 0) && decide (F 6 k = nI t) && stn F pt 10 (F 7 k)
def sCal (F : Nat → Nat → Int32) (bs fr to0 : Int32) (t : Nat) (pt : Int32) (k : Nat) : Bool := sCb F bs fr to0 t && !anyB (sCc F t pt) k
def canC (pt bs fr to0 : Int32) : Bool := rg pt 0 9 && rg bs 1 255 && rg fr 0 119 && rg to0 fr 119
def sCl (F : Nat → Nat → Int32) (c : Nat) (pt bs fr to0 : Int32) (t : Nat) : Bool := sCal F bs fr to0 t pt c
def fnd (p : Nat → Bool) (i : Int32) : Nat → Int32
  | 0 => -1
  | t + 1 => if p t = true then (if ctI p t = i then nI t else fnd p i t) else fnd p i t
def sTh (F : Nat → Nat → Int32) (t : Nat) (k : Nat) : Bool := decide (F 11 k = 0) && decide (F 6 k = nI t)
def sThs (F : Nat → Nat → Int32) (c t : Nat) : Bool := anyB (sTh F t) c
def aCount (F : Nat → Nat → Int32) (n c : Nat) (x : Int32) : Int32 := if x = 0 then nI n else if x = 1 then nI c else if x = 2 then ctI (sJud F 0) c else if x = 3 then ctI (sJud F 1) c else if x = 4 then ctI (sJud F 2) c else if x = 5 then ctI (sJud F 3) c else if x = 6 then ctI (sJud F 4) c else if x = 7 then ctI (sThs F c) n else if x = 8 then smI (sCost F) c else -2
def dgTM (F : Nat → Nat → Int32) (h : Int64) : Nat → Int64
  | 0 => h
  | k + 1 => 31 * (31 * (31 * (31 * (31 * dgTM F h k + (F 0 k).toInt64) + (F 1 k).toInt64) + (F 2 k).toInt64) + (F 3 k).toInt64) + (lsK F k 121).toInt64
def aDigM (F : Nat → Nat → Int32) (n c : Nat) : Int64 := dgP F (dgC F (dgTM F (fdL (fun j => (aCount F n c (nI j)).toInt64) 199 9) n) c) 10
theorem fwm_rg {F : Nat → Nat → Int32} : ∀ (f : Nat) (x : Int32), fwm F f x = -1 ∨ rg (fwm F f x) 0 9 = true
  | 0, _ => Or.inl rfl
  | f + 1, x => by
    by_cases h : rg x 0 9 = true
    · by_cases h2 : F 13 (ix x) = -1
      · rw [fwm, if_pos h, if_pos h2]; exact fwm_rg f _
      · rw [fwm, if_pos h, if_neg h2]; exact Or.inr h
    · rw [fwm, if_neg h]; exact Or.inl rfl
theorem fwm_neg {F : Nat → Nat → Int32} {f : Nat} {x : Int32} (h : fwm F f x < 0) : rg (fwm F f x) 0 9 = false := by
  cases hb : rg (fwm F f x) 0 9 with
  | false => rfl
  | true => exact absurd h (rg_nn hb)
theorem fwm_pos {F : Nat → Nat → Int32} {f : Nat} {x : Int32} (h : ¬ fwm F f x < 0) : rg (fwm F f x) 0 9 = true := by
  rcases fwm_rg (F := F) f x with q | q
  · rw [q] at h; exact absurd (by decide) h
  · exact q
/-- a maker is none, or a number -/
theorem Inv.mk {F : Nat → Nat → Int32} {n c : Nat} (h : Inv F n c) {x : Int32} (hx : rg x 0 9 = true) : F 13 (ix x) < 0 ↔ F 13 (ix x) = -1 := by
  obtain ⟨j, hj, rfl⟩ := rg_nat (N := 10) (by decide) (by decide) hx
  have e : ix (nI j) = j := nI_clamp (by omega)
  rw [e]
  have h2 := (h.Q hj).2.1
  simp only [rg, Bool.and_eq_true, decide_eq_true_eq, Int32.le_iff_toInt_le] at h2
  have e1 : (-1 : Int32).toInt = -1 := by decide
  rw [e1] at h2
  rw [Int32.lt_iff_toInt_lt, Int32.toInt_zero, ← Int32.toInt_inj, e1]
  omega
end
section
theorem fb_holes : ∀ (m n : Nat) (f : Nat → Nat), (∀ i, i < n → f i < m) → (∀ i j, i < j → j < n → f i ≠ f j) → n ≤ m := by
  intro m
  induction m with
  | zero =>
    intro n f h1 _
    rcases Nat.eq_zero_or_pos n with h | h
    · omega
    · exact absurd (h1 0 h) (Nat.not_lt_zero _)
  | succ m ih =>
    intro n f h1 h2
    by_cases hx : ∃ i, i < n ∧ f i = m
    · obtain ⟨a, ha, hfa⟩ := hx
      have hg := ih (n - 1) (fun i => if i < a then f i else f (i + 1)) (by
        intro i hi
        by_cases q : i < a
        · simp only [if_pos q]
          have b1 := h1 i (by omega)
          have b2 := h2 i a q ha
          omega
        · simp only [if_neg q]
          have b1 := h1 (i + 1) (by omega)
          have b2 := h2 a (i + 1) (by omega) (by omega)
          omega) (by
        intro i j hij hj
        by_cases q : i < a
        · by_cases r : j < a
          · simp only [if_pos q, if_pos r]
            exact h2 i j hij (by omega)
          · simp only [if_pos q, if_neg r]
            exact h2 i (j + 1) (by omega) (by omega)
        · have r : ¬ j < a := by omega
          simp only [if_neg q, if_neg r]
          exact h2 (i + 1) (j + 1) (by omega) (by omega))
      omega
    · have hg := ih n f (fun i hi => by
        have b1 := h1 i hi
        have b2 : f i ≠ m := fun e => hx ⟨i, hi, e⟩
        omega) h2
      omega
/-! chains -/
theorem itP_add {F : Nat → Nat → Int32} (a : Nat) (x : Int32) : ∀ d, itP F (a + d) x = itP F d (itP F a x)
  | 0 => rfl
  | d + 1 => by
    show (if rg (itP F (a + d) x) 0 9 = true then F 12 (ix (itP F (a + d) x)) else itP F (a + d) x) = (if rg (itP F d (itP F a x)) 0 9 = true then F 12 (ix (itP F d (itP F a x))) else itP F d (itP F a x))
    rw [itP_add a x d]
theorem rg_m1 {x M : Int32} (h : rg x (-1) M = true) : x = -1 ∨ rg x 0 M = true := by
  by_cases e : x = -1
  · exact Or.inl e
  · right
    simp only [rg, Bool.and_eq_true, decide_eq_true_eq, Int32.le_iff_toInt_le, Int32.toInt_zero] at h ⊢
    have e1 : (-1 : Int32).toInt = -1 := by decide
    rw [e1] at h
    rw [← Int32.toInt_inj, e1] at e
    omega
theorem chain {F : Nat → Nat → Int32} {n c : Nat} (hI : Inv F n c) {x : Int32} (hx : rg x 0 9 = true) : ∃ J, J ≤ 10 ∧ itP F J x = -1 ∧ ∀ k, k < J → rg (itP F k x) 0 9 = true := by
  obtain ⟨i, hi, rfl⟩ := rg_nat (N := 10) (by decide) (by decide) hx
  obtain ⟨J, hJ, hm⟩ := pk_least (fun j => itP F j (nI i) = -1) (hI.Q hi).2.2.2
  have hk : ∀ k, k < J → rg (itP F k (nI i)) 0 9 = true := by
    intro k
    induction k with
    | zero => intro _; exact hx
    | succ k ih =>
      intro hkJ
      have h1 := ih (by omega)
      obtain ⟨y, hy, ey⟩ := rg_nat (N := 10) (by decide) (by decide) h1
      have e2 : itP F (k + 1) (nI i) = F 12 y := by
        show (if rg (itP F k (nI i)) 0 9 = true then F 12 (ix (itP F k (nI i))) else itP F k (nI i)) = F 12 y
        rw [if_pos h1, ey]
        show F 12 (ix (nI y)) = F 12 y
        rw [show ix (nI y) = y from nI_clamp (by omega)]
      rcases rg_m1 (hI.Q hy).1 with q | q
      · exact absurd (e2.trans q) (hm (k + 1) hkJ)
      · rw [e2]; exact q
  refine ⟨J, ?_, hJ, hk⟩
  refine fb_holes 10 J (fun k => ix (itP F k (nI i))) (fun k h => ?_) (fun a b hab hb e => ?_)
  · obtain ⟨y, hy, ey⟩ := rg_nat (N := 10) (by decide) (by decide) (hk k h)
    show ix (itP F k (nI i)) < 10
    rw [ey, show ix (nI y) = y from nI_clamp (by omega)]; exact hy
  · obtain ⟨y, hy, ey⟩ := rg_nat (N := 10) (by decide) (by decide) (hk a (by omega))
    obtain ⟨z, hz, ez⟩ := rg_nat (N := 10) (by decide) (by decide) (hk b hb)
    have e' : ix (itP F a (nI i)) = ix (itP F b (nI i)) := e
    rw [ey, ez, show ix (nI y) = y from nI_clamp (by omega), show ix (nI z) = z from nI_clamp (by omega)] at e'
    have e2 : itP F a (nI i) = itP F b (nI i) := by rw [ey, ez, e']
    have e3 : itP F (a + (J - b)) (nI i) = itP F (b + (J - b)) (nI i) := by rw [itP_add, itP_add, e2]
    rw [show b + (J - b) = J by omega, hJ] at e3
    exact hm (a + (J - b)) (by omega) e3
theorem m1_ne {x M : Int32} (h : rg x 0 M = true) : ¬ (-1 : Int32) = x := fun e => by rw [← e] at h; exact absurd (rg_nn h) (by decide)
theorem canC_p {pt bs fr to0 : Int32} (h : canC pt bs fr to0 = true) : rg pt 0 9 = true := by
  simp only [canC, Bool.and_eq_true] at h
  exact h.1.1.1
theorem sCal_s {F : Nat → Nat → Int32} {bs fr to0 : Int32} {t : Nat} {pt : Int32} {k : Nat} : sCal F bs fr to0 t pt (k + 1) = (sCal F bs fr to0 t pt k && !sCc F t pt k) := by
  simp only [sCal, anyB]
  cases sCb F bs fr to0 t <;> cases anyB (sCc F t pt) k <;> cases sCc F t pt k <;> rfl
/-! the class's own forms -/
def aUndC (F : Nat → Nat → Int32) (c : Nat) (f0 mo : Int32) : Int32 := if rg f0 0 300 = true then (if rg mo 0 300 = true then (if f0 ≤ mo then (if mo - f0 < 11 then (if ctI (sDel F 0 (mo - f0) mo) c = 0 then -1 else ctI (sFail F f0 mo) c * ctI (sDel F 0 11 mo) c / ctI (sDel F 0 (mo - f0) mo) c) else ctI (sFail F f0 mo) c) else -2) else -2) else -2
def cald (F : Nat → Nat → Int32) (n c : Nat) (pt bs fr to0 : Int32) : Int64 := orL (sSold F bs fr to0) (fun k => bit1 (nI k)) n &&& (orL (sHit F (wau F pt 10) 300) (fun k => bit1 (F 6 k)) c ^^^ (-1))
def canK (pt bs fr to0 : Int32) : Bool := rg pt 0 9 && rg bs 1 255 && rg fr 0 119 && rg to0 0 119 && decide (fr ≤ to0)
theorem fnd_no {p : Nat → Bool} {i : Int32} : ∀ N : Nat, (∀ j, j < N → p j = true → ¬ ctI p j = i) → fnd p i N = -1
  | 0, _ => rfl
  | N + 1, h => by
    have ih := fnd_no N (fun j hj => h j (by omega))
    by_cases hp : p N = true
    · rw [fnd, if_pos hp, if_neg (h N (by omega) hp), ih]
    · rw [fnd, if_neg hp, ih]
theorem ctI_nat {p : Nat → Bool} : ∀ k : Nat, ∃ j, j ≤ k ∧ ctI p k = nI j
  | 0 => ⟨0, Nat.le_refl _, rfl⟩
  | k + 1 => by
    obtain ⟨j, hj, e⟩ := ctI_nat (p := p) k
    by_cases hp : p k = true
    · exact ⟨j + 1, by omega, by rw [ctI, if_pos hp, e, nI_1]⟩
    · exact ⟨j, by omega, by rw [ctI, if_neg hp, e]⟩
/-- the same count, as a number -/
def ctN (p : Nat → Bool) : Nat → Nat
  | 0 => 0
  | k + 1 => if p k = true then ctN p k + 1 else ctN p k
theorem ctN_le {p : Nat → Bool} : ∀ k : Nat, ctN p k ≤ k
  | 0 => Nat.le_refl _
  | k + 1 => by
    have := ctN_le (p := p) k
    rw [ctN]; split <;> omega
theorem ctI_N {p : Nat → Bool} : ∀ k : Nat, ctI p k = nI (ctN p k)
  | 0 => rfl
  | k + 1 => by
    rw [ctI, ctN, ctI_N k]
    split
    · rw [nI_1]
    · rfl
theorem ctN_mono {p : Nat → Bool} {a : Nat} : ∀ d : Nat, ctN p a ≤ ctN p (a + d)
  | 0 => Nat.le_refl _
  | d + 1 => by
    have h := ctN_mono (p := p) (a := a) d
    show _ ≤ ctN p ((a + d) + 1)
    rw [ctN]; split <;> omega
theorem fnd_at {p : Nat → Bool} {i : Int32} {k : Nat} (hp : p k = true) (hi : ctI p k = i) : ∀ d : Nat, k + 1 + d < 2 ^ 31 → fnd p i (k + 1 + d) = nI k
  | 0, _ => by rw [Nat.add_zero, fnd, if_pos hp, if_pos hi]
  | d + 1, h => by
    have ih := fnd_at hp hi d (by omega)
    show fnd p i ((k + 1 + d) + 1) = nI k
    have hne : ¬ ctI p (k + 1 + d) = i := by
      rw [← hi, ctI_N, ctI_N]
      have h1 := ctN_mono (p := p) (a := k + 1) d
      have h2 : ctN p (k + 1) = ctN p k + 1 := by rw [ctN, if_pos hp]
      have h3 := ctN_le (p := p) (k + 1 + d)
      intro e
      rw [nI_eq (by omega) (by omega)] at e
      omega
    by_cases hq : p (k + 1 + d) = true
    · rw [fnd, if_pos hq, if_neg hne, ih]
    · rw [fnd, if_neg hq, ih]
theorem nI_nn {k : Nat} (h : k < 100) : ¬ nI k < 0 := nI_pos (by omega)
end
section
/-! how many bits of a long: the JDK's sum, byte by byte -/
def bitL (x : Int64) (i : Nat) : Bool := x.toBitVec.getLsbD i
theorem bitL_lN {X i : Nat} (hi : i < 64) : bitL (lN X) i = X.testBit i := by
  unfold bitL
  rw [wb_tb, BitVec.getLsbD_ofNat]
  simp [hi]
def mk8 (b : Nat) : Nat → Nat
  | 0 => 0
  | n + 1 => b + 256 * mk8 b n
theorem and_split {a A m M : Nat} (ha : a < 256) (hm : m < 256) : (a + 256 * A) &&& (m + 256 * M) = (a &&& m) + 256 * (A &&& M) := by
  apply Nat.eq_of_testBit_eq
  intro j
  have e1 : a + 256 * A = 2 ^ 8 * A + a := by omega
  have e2 : m + 256 * M = 2 ^ 8 * M + m := by omega
  have h3 : a &&& m < 2 ^ 8 := Nat.lt_of_le_of_lt Nat.and_le_left ha
  have e3 : (a &&& m) + 256 * (A &&& M) = 2 ^ 8 * (A &&& M) + (a &&& m) := by omega
  rw [e1, e2, e3, Nat.testBit_and, Nat.testBit_two_pow_mul_add A ha, Nat.testBit_two_pow_mul_add M hm, Nat.testBit_two_pow_mul_add (A &&& M) h3]
  split <;> rw [Nat.testBit_and]
def S1 (n X : Nat) : Nat := X - ((X / 2) &&& mk8 85 n)
def S2 (n X : Nat) : Nat := (X &&& mk8 51 n) + ((X / 4) &&& mk8 51 n)
def S3 (n X : Nat) : Nat := (X + X / 16) &&& mk8 15 n
def s1 (a : Nat) : Nat := a - ((a / 2) &&& 85)
def s2 (a : Nat) : Nat := (a &&& 51) + ((a / 4) &&& 51)
def pc8 (a : Nat) : Nat := ctN (fun i => a.testBit i) 8
theorem k_1 : ∀ a, a < 256 → ∀ t, t < 2 → (a / 2 + 128 * t) &&& 85 = (a / 2) &&& 85 := by decide +kernel
theorem k_2 : ∀ a, a < 256 → ∀ t, t < 4 → (a / 4 + 64 * t) &&& 51 = (a / 4) &&& 51 := by decide +kernel
theorem k_3 : ∀ a, a < 256 → (a / 2) &&& 85 ≤ a := by decide +kernel
theorem k_4 : ∀ a, a < 256 → s2 (s1 a) ≤ 68 ∧ s2 (s1 a) % 16 ≤ 4 ∧ s1 a < 256 := by decide +kernel
theorem k_5 : ∀ a, a < 69 → ∀ t, t < 5 → (a + a / 16 + 16 * t) &&& 15 = (a + a / 16) &&& 15 := by decide +kernel
theorem k_6 : ∀ a, a < 256 → (s2 (s1 a) + s2 (s1 a) / 16) &&& 15 = pc8 a := by decide +kernel
theorem k_7 : ∀ a, a < 256 → pc8 a ≤ 8 := by decide +kernel
theorem S1_s {n a A : Nat} (ha : a < 256) : S1 (n + 1) (a + 256 * A) = s1 a + 256 * S1 n A := by
  unfold S1 s1
  have e : (a + 256 * A) / 2 = (a / 2 + 128 * (A % 2)) + 256 * (A / 2) := by omega
  rw [e, mk8, and_split (by omega) (by decide), k_1 a ha (A % 2) (by omega)]
  have h1 := k_3 a ha
  have h2 : (A / 2) &&& mk8 85 n ≤ A := Nat.le_trans Nat.and_le_left (Nat.div_le_self _ _)
  omega
theorem S2_s {n a A : Nat} (ha : a < 256) : S2 (n + 1) (a + 256 * A) = s2 a + 256 * S2 n A := by
  unfold S2 s2
  have e : (a + 256 * A) / 4 = (a / 4 + 64 * (A % 4)) + 256 * (A / 4) := by omega
  rw [e, mk8, and_split ha (by decide), and_split (by omega) (by decide), k_2 a ha (A % 4) (by omega)]
  omega
theorem S3_s {n a A : Nat} (ha : a ≤ 68) (hA : A % 16 ≤ 4) : S3 (n + 1) (a + 256 * A) = ((a + a / 16) &&& 15) + 256 * S3 n A := by
  unfold S3
  have e : (a + 256 * A) + (a + 256 * A) / 16 = (a + a / 16 + 16 * (A % 16)) + 256 * (A + A / 16) := by omega
  rw [e, mk8, and_split (by omega) (by decide), k_5 a (by omega) (A % 16) (by omega)]
theorem S21_4 : ∀ (n A : Nat), A < 256 ^ n → S2 n (S1 n A) % 16 ≤ 4
  | 0, A, _ => by simp [S2, mk8]
  | n + 1, A, h => by
    have e : A = A % 256 + 256 * (A / 256) := by omega
    have h4 := k_4 (A % 256) (by omega)
    rw [e, S1_s (by omega), S2_s h4.2.2]
    have := h4.2.1
    omega
def pcs : Nat → Nat → Nat
  | 0, _ => 0
  | n + 1, X => pc8 (X % 256) + 256 * pcs n (X / 256)
theorem S321 : ∀ (n X : Nat), X < 256 ^ n → S3 n (S2 n (S1 n X)) = pcs n X
  | 0, X, _ => by simp [S3, mk8, pcs]
  | n + 1, X, h => by
    have e : X = X % 256 + 256 * (X / 256) := by omega
    have hq : X / 256 < 256 ^ n := by
      rw [Nat.pow_succ] at h
      exact Nat.div_lt_of_lt_mul (by rw [Nat.mul_comm]; exact h)
    have h4 := k_4 (X % 256) (by omega)
    have ih := S321 n (X / 256) hq
    rw [pcs, ← ih]
    conv => lhs; rw [e]
    rw [S1_s (by omega), S2_s h4.2.2, S3_s h4.1 (S21_4 n _ hq), k_6 _ (by omega)]
theorem ctN_split {p : Nat → Bool} (a : Nat) : ∀ b : Nat, ctN p (a + b) = ctN p a + ctN (fun i => p (a + i)) b
  | 0 => rfl
  | b + 1 => by
    show ctN p ((a + b) + 1) = _
    rw [ctN, ctN, ctN_split a b]
    split <;> omega
theorem ctN_cong {p r : Nat → Bool} : ∀ {k : Nat}, (∀ j, j < k → p j = r j) → ctN p k = ctN r k
  | 0, _ => rfl
  | k + 1, h => by rw [ctN, ctN, ctN_cong (fun j hj => h j (by omega)), h k (by omega)]
theorem ct_8 (X m : Nat) : ctN (fun i => X.testBit i) (8 + m) = pc8 (X % 256) + ctN (fun i => (X / 256).testBit i) m := by
  rw [ctN_split]
  congr 1
  · unfold pc8
    apply ctN_cong
    intro j hj
    rw [show (256 : Nat) = 2 ^ 8 from rfl, Nat.testBit_mod_two_pow]
    simp [hj]
  · apply ctN_cong
    intro j _
    rw [show (256 : Nat) = 2 ^ 8 from rfl, Nat.testBit_div_two_pow, Nat.add_comm]
theorem pc_le (X : Nat) : pc8 (X % 256) ≤ 8 := k_7 _ (by omega)
theorem divq {m L H : Nat} (hm : L < m) : (L + m * H) / m = H := by
  rw [Nat.add_mul_div_left _ _ (Nat.lt_of_le_of_lt (Nat.zero_le _) hm), Nat.div_eq_of_lt hm, Nat.zero_add]
theorem modq {L H : Nat} (hm : L < 128) : (L + 128 * H) % 128 = L := by
  rw [Nat.add_mul_mod_self_left, Nat.mod_eq_of_lt hm]
theorem f8_1 (p0 p1 p2 p3 p4 p5 p6 p7 : Nat) : (p0 + 256 * (p1 + 256 * (p2 + 256 * (p3 + 256 * (p4 + 256 * (p5 + 256 * (p6 + 256 * (p7 + 256 * 0)))))))) + (p1 + 256 * (p2 + 256 * (p3 + 256 * (p4 + 256 * (p5 + 256 * (p6 + 256 * (p7 + 256 * 0))))))) = ((p0 + p1) + 256 * (p1 + p2)) + 65536 * ((p2 + p3) + 256 * (p3 + p4) + 65536 * ((p4 + p5) + 256 * (p5 + p6) + 65536 * ((p6 + p7) + 256 * p7))) := by omega
theorem f8_2 (p0 p1 p2 p3 p4 p5 p6 p7 : Nat) : (((p0 + p1) + 256 * (p1 + p2)) + 65536 * ((p2 + p3) + 256 * (p3 + p4) + 65536 * ((p4 + p5) + 256 * (p5 + p6) + 65536 * ((p6 + p7) + 256 * p7)))) + ((p2 + p3) + 256 * (p3 + p4) + 65536 * ((p4 + p5) + 256 * (p5 + p6) + 65536 * ((p6 + p7) + 256 * p7))) = ((p0 + p1 + p2 + p3) + 256 * (p1 + p2 + p3 + p4) + 65536 * ((p2 + p3 + p4 + p5) + 256 * (p3 + p4 + p5 + p6))) + 4294967296 * ((p4 + p5 + p6 + p7) + 256 * (p5 + p6 + p7) + 65536 * ((p6 + p7) + 256 * p7)) := by omega
theorem f8_3 (p0 p1 p2 p3 p4 p5 p6 p7 : Nat) : (((p0 + p1 + p2 + p3) + 256 * (p1 + p2 + p3 + p4) + 65536 * ((p2 + p3 + p4 + p5) + 256 * (p3 + p4 + p5 + p6))) + 4294967296 * ((p4 + p5 + p6 + p7) + 256 * (p5 + p6 + p7) + 65536 * ((p6 + p7) + 256 * p7))) + ((p4 + p5 + p6 + p7) + 256 * (p5 + p6 + p7) + 65536 * ((p6 + p7) + 256 * p7)) = (p0 + (p1 + (p2 + (p3 + (p4 + (p5 + (p6 + p7))))))) + 128 * (2 * (p1 + p2 + p3 + p4 + p5 + p6 + p7) + 512 * ((p2 + p3 + p4 + p5 + p6 + p7) + 256 * (p3 + p4 + p5 + p6 + p7)) + 33554432 * ((p4 + p5 + p6 + p7) + 256 * (p5 + p6 + p7) + 65536 * ((p6 + p7) + 256 * p7))) := by omega
theorem f8_L (p0 p1 p2 p3 p4 p5 p6 p7 : Nat) (h0 : p0 ≤ 8) (h1 : p1 ≤ 8) (h2 : p2 ≤ 8) (h3 : p3 ≤ 8) (h4 : p4 ≤ 8) (h5 : p5 ≤ 8) (h6 : p6 ≤ 8) (h7 : p7 ≤ 8) : ((p0 + p1) + 256 * (p1 + p2)) < 65536 ∧ ((p0 + p1 + p2 + p3) + 256 * (p1 + p2 + p3 + p4) + 65536 * ((p2 + p3 + p4 + p5) + 256 * (p3 + p4 + p5 + p6))) < 4294967296 ∧ p0 + (p1 + (p2 + (p3 + (p4 + (p5 + (p6 + p7)))))) < 128 := by omega
theorem f8_B (p0 p1 p2 p3 p4 p5 p6 p7 : Nat) (h0 : p0 ≤ 8) (h1 : p1 ≤ 8) (h2 : p2 ≤ 8) (h3 : p3 ≤ 8) (h4 : p4 ≤ 8) (h5 : p5 ≤ 8) (h6 : p6 ≤ 8) (h7 : p7 ≤ 8) : (p0 + 256 * (p1 + 256 * (p2 + 256 * (p3 + 256 * (p4 + 256 * (p5 + 256 * (p6 + 256 * (p7 + 256 * 0)))))))) < 2 ^ 60 := by omega
/-- the end of the sum: the bytes together -/
theorem fold8 (p0 p1 p2 p3 p4 p5 p6 p7 : Nat) (h0 : p0 ≤ 8) (h1 : p1 ≤ 8) (h2 : p2 ≤ 8) (h3 : p3 ≤ 8) (h4 : p4 ≤ 8) (h5 : p5 ≤ 8) (h6 : p6 ≤ 8) (h7 : p7 ≤ 8) (Y a b c : Nat) (hY : Y = p0 + 256 * (p1 + 256 * (p2 + 256 * (p3 + 256 * (p4 + 256 * (p5 + 256 * (p6 + 256 * (p7 + 256 * 0)))))))) (ha : a = Y + Y / 256) (hb : b = a + a / 65536) (hc : c = b + b / 4294967296) : c % 128 = p0 + (p1 + (p2 + (p3 + (p4 + (p5 + (p6 + p7)))))) ∧ Y < 2 ^ 60 ∧ a < 2 ^ 61 ∧ b < 2 ^ 62 := by
  obtain ⟨l1, l2, l3⟩ := f8_L p0 p1 p2 p3 p4 p5 p6 p7 h0 h1 h2 h3 h4 h5 h6 h7
  have l4 := f8_B p0 p1 p2 p3 p4 p5 p6 p7 h0 h1 h2 h3 h4 h5 h6 h7
  have l5 : p0 < 256 := Nat.lt_of_le_of_lt h0 (by decide)
  clear h0 h1 h2 h3 h4 h5 h6 h7
  have b1 : Y < 2 ^ 60 := by rw [hY]; exact l4
  have b2 : a < 2 ^ 61 := by
    clear hY hb hc l1 l2 l3 l4 l5
    omega
  have b3 : b < 2 ^ 62 := by
    clear hY hc l1 l2 l3 l4 l5 ha b1
    omega
  refine ⟨?_, b1, b2, b3⟩
  clear b1 b2 b3 l4
  have e1 := hY
  rw [hY, divq l5, f8_1] at ha
  rw [ha, divq l1, f8_2] at hb
  rw [hb, divq l2, f8_3] at hc
  rw [hc]
  exact modq l3
theorem ct_64 {X : Nat} (hX : X < 2 ^ 64) : (let Y := S3 8 (S2 8 (S1 8 X)); let a := Y + Y / 256; let b := a + a / 65536; let c := b + b / 4294967296; c % 128 = ctN (fun i => X.testBit i) 64 ∧ Y < 2 ^ 60 ∧ a < 2 ^ 61 ∧ b < 2 ^ 62) := by
  have hY : S3 8 (S2 8 (S1 8 X)) = pcs 8 X := S321 8 X (by rw [show 256 ^ 8 = 2 ^ 64 by decide]; exact hX)
  have hc : ctN (fun i => X.testBit i) 64 = pc8 (X % 256) + (pc8 (X / 256 % 256) + (pc8 (X / 256 / 256 % 256) + (pc8 (X / 256 / 256 / 256 % 256) + (pc8 (X / 256 / 256 / 256 / 256 % 256) + (pc8 (X / 256 / 256 / 256 / 256 / 256 % 256) + (pc8 (X / 256 / 256 / 256 / 256 / 256 / 256 % 256) + pc8 (X / 256 / 256 / 256 / 256 / 256 / 256 / 256 % 256))))))) := by
    rw [show (64 : Nat) = 8 + 56 from rfl, ct_8, show (56 : Nat) = 8 + 48 from rfl, ct_8, show (48 : Nat) = 8 + 40 from rfl, ct_8, show (40 : Nat) = 8 + 32 from rfl, ct_8, show (32 : Nat) = 8 + 24 from rfl, ct_8, show (24 : Nat) = 8 + 16 from rfl, ct_8, show (16 : Nat) = 8 + 8 from rfl, ct_8, show ctN (fun i => (X / 256 / 256 / 256 / 256 / 256 / 256 / 256).testBit i) 8 = ctN (fun i => (X / 256 / 256 / 256 / 256 / 256 / 256 / 256).testBit i) (8 + 0) from rfl, ct_8]
    rfl
  have h := fold8 _ _ _ _ _ _ _ _ (pc_le X) (pc_le (X / 256)) (pc_le (X / 256 / 256)) (pc_le (X / 256 / 256 / 256)) (pc_le (X / 256 / 256 / 256 / 256)) (pc_le (X / 256 / 256 / 256 / 256 / 256)) (pc_le (X / 256 / 256 / 256 / 256 / 256 / 256)) (pc_le (X / 256 / 256 / 256 / 256 / 256 / 256 / 256)) (pcs 8 X) _ _ _ (by simp only [pcs]) rfl rfl rfl
  simp only [hY]
  rw [hc]
  exact h
end
section
theorem m85 : mk8 85 8 = 6148914691236517205 := by decide +kernel
theorem m51 : mk8 51 8 = 3689348814741910323 := by decide +kernel
theorem m15 : mk8 15 8 = 1085102592571150095 := by decide +kernel
theorem shrL {n k : Nat} (hn : n < 2 ^ 64) (hk : k < 64) (K : Int32) (hK : K = nI k) : ((lN n).toUInt64 >>> (K.toInt64.toUInt64 &&& Int64.toUInt64 63)).toInt64 = lN (n / 2 ^ k) := by rw [hK]; exact wb_shr hn hk
theorem bc_ok {x y1 y2 y3 y4 y5 y6 : Int64} (e1 : y1 = x - ((x.toUInt64 >>> ((1 : Int32).toInt64.toUInt64 &&& Int64.toUInt64 63)).toInt64 &&& 6148914691236517205)) (e2 : y2 = (y1 &&& 3689348814741910323) + ((y1.toUInt64 >>> ((2 : Int32).toInt64.toUInt64 &&& Int64.toUInt64 63)).toInt64 &&& 3689348814741910323)) (e3 : y3 = (y2 + (y2.toUInt64 >>> ((4 : Int32).toInt64.toUInt64 &&& Int64.toUInt64 63)).toInt64) &&& 1085102592571150095) (e4 : y4 = y3 + (y3.toUInt64 >>> ((8 : Int32).toInt64.toUInt64 &&& Int64.toUInt64 63)).toInt64) (e5 : y5 = y4 + (y4.toUInt64 >>> ((16 : Int32).toInt64.toUInt64 &&& Int64.toUInt64 63)).toInt64) (e6 : y6 = y5 + (y5.toUInt64 >>> ((32 : Int32).toInt64.toUInt64 &&& Int64.toUInt64 63)).toInt64) : y6.toInt32 &&& 127 = ctI (bitL x) 64 := by
  obtain ⟨X, hX, rfl⟩ := wb_of x
  obtain ⟨r1, r3, r4, r5⟩ := ct_64 hX
  have hct : ctI (bitL (lN X)) 64 = nI (ctN (fun i => X.testBit i) 64) := by
    rw [ctI_N, ctN_cong (fun j hj => bitL_lN hj)]
  have l1 : S1 8 X < 2 ^ 64 := Nat.lt_of_le_of_lt (Nat.sub_le _ _) hX
  have l0 : X / 2 ^ 1 < 2 ^ 64 := Nat.lt_of_le_of_lt (Nat.div_le_self _ _) hX
  have a1 : y1 = lN (S1 8 X) := by
    rw [e1, shrL hX (by decide) 1 rfl, show (6148914691236517205 : Int64) = lN (mk8 85 8) by decide +kernel, wb_and l0 (by rw [m85]; decide), lN_sub (Nat.le_trans Nat.and_le_left (Nat.div_le_self _ _))]
    rfl
  have l2 : S2 8 (S1 8 X) < 2 ^ 64 := by
    unfold S2
    have h1 : S1 8 X &&& mk8 51 8 ≤ mk8 51 8 := Nat.and_le_right
    have h2 : S1 8 X / 4 &&& mk8 51 8 ≤ mk8 51 8 := Nat.and_le_right
    rw [m51] at h1 h2 ⊢
    omega
  have l2' : S2 8 (S1 8 X) + S2 8 (S1 8 X) / 2 ^ 4 < 2 ^ 64 := by
    unfold S2 at l2 ⊢
    have h1 : S1 8 X &&& mk8 51 8 ≤ mk8 51 8 := Nat.and_le_right
    have h2 : S1 8 X / 4 &&& mk8 51 8 ≤ mk8 51 8 := Nat.and_le_right
    rw [m51] at h1 h2 ⊢
    omega
  have a2 : y2 = lN (S2 8 (S1 8 X)) := by
    rw [e2, a1, shrL l1 (by decide) 2 rfl, show (3689348814741910323 : Int64) = lN (mk8 51 8) by decide +kernel, wb_and l1 (by rw [m51]; decide), wb_and (Nat.lt_of_le_of_lt (Nat.div_le_self _ _) l1) (by rw [m51]; decide), lN_add]
    rfl
  have a3 : y3 = lN (S3 8 (S2 8 (S1 8 X))) := by
    rw [e3, a2, shrL l2 (by decide) 4 rfl, lN_add, show (1085102592571150095 : Int64) = lN (mk8 15 8) by decide +kernel, wb_and l2' (by rw [m15]; decide)]
    rfl
  generalize S3 8 (S2 8 (S1 8 X)) = Y at *
  have a4 : y4 = lN (Y + Y / 256) := by rw [e4, a3, shrL (by omega) (by decide) 8 rfl, lN_add]
  have a5 : y5 = lN (Y + Y / 256 + (Y + Y / 256) / 65536) := by rw [e5, a4, shrL (by omega) (by decide) 16 rfl, lN_add]
  have a6 : y6 = lN (Y + Y / 256 + (Y + Y / 256) / 65536 + (Y + Y / 256 + (Y + Y / 256) / 65536) / 4294967296) := by rw [e6, a5, shrL (by omega) (by decide) 32 rfl, lN_add]
  rw [hct, a6, lN_i, show (127 : Int32) = nI 127 from rfl, nx_and, show (127 : Nat) = 2 ^ 7 - 1 from rfl, Nat.and_two_pow_sub_one_eq_mod, show (2 : Nat) ^ 7 = 128 from rfl, r1]
end
section
/-! sets of things as the bits of a long -/
theorem bitL_and (x y : Int64) (i : Nat) : bitL (x &&& y) i = (bitL x i && bitL y i) := by
  unfold bitL; rw [Int64.toBitVec_and, BitVec.getLsbD_and]
theorem bitL_or (x y : Int64) (i : Nat) : bitL (x ||| y) i = (bitL x i || bitL y i) := by
  unfold bitL; rw [Int64.toBitVec_or, BitVec.getLsbD_or]
theorem bitL_not (x : Int64) {i : Nat} (hi : i < 64) : bitL (x ^^^ (-1)) i = !bitL x i := by
  unfold bitL
  rw [Int64.toBitVec_xor, BitVec.getLsbD_xor]
  have h : (-1 : Int64).toBitVec = BitVec.allOnes 64 := by decide +kernel
  rw [h, BitVec.getLsbD_allOnes]
  simp [hi]
theorem bitL_0 (i : Nat) : bitL 0 i = false := by
  unfold bitL
  rw [show (0 : Int64).toBitVec = 0#64 from rfl]
  simp
theorem bitL_1 {t i : Nat} (ht : t < 64) (hi : i < 64) : bitL (bit1 (nI t)) i = decide (t = i) := by
  unfold bit1
  rw [show (1 : Int64) = lN 1 from rfl, wb_shl 1 ht, Nat.one_mul, bitL_lN hi, Nat.testBit_two_pow]
theorem orL_bit {p : Nat → Bool} {v : Nat → Int64} {i : Nat} : ∀ c : Nat, bitL (orL p v c) i = anyB (fun k => p k && bitL (v k) i) c
  | 0 => bitL_0 i
  | c + 1 => by
    have ih := orL_bit (p := p) (v := v) (i := i) c
    rw [orL, anyB]
    by_cases hp : p c = true
    · rw [if_pos hp, bitL_or, ih, hp]; rfl
    · rw [if_neg hp, ih, show p c = false by simpa using hp]; simp
theorem sHas_bit {x : Int64} {t : Nat} (ht : t < 64) : sHas x (nI t) = bitL x t := by
  obtain ⟨X, hX, rfl⟩ := wb_of x
  unfold sHas
  rw [wb_bit hX ht, bitL_lN ht, Nat.testBit_eq_decide_div_mod_eq]
  have h2 : X / 2 ^ t % 2 < 2 := Nat.mod_lt _ (by decide)
  rcases (show X / 2 ^ t % 2 = 0 ∨ X / 2 ^ t % 2 = 1 by omega) with h | h
  · rw [h]; decide
  · rw [h]; decide
theorem bitL_64 (x : Int32) {r : Nat} (hr : r < 32) : bitL x.toInt64 r = bt x r := by
  unfold bitL bt
  rw [show x.toInt64.toBitVec = x.toBitVec.signExtend 64 from rfl, BitVec.getLsbD_signExtend]
  simp [hr, show r < 64 by omega]
theorem anyB_iff {p : Nat → Bool} : ∀ {c : Nat}, anyB p c = true ↔ ∃ k, k < c ∧ p k = true
  | 0 => ⟨fun h => by simp [anyB] at h, fun ⟨k, h, _⟩ => absurd h (Nat.not_lt_zero k)⟩
  | c + 1 => by
    rw [anyB, Bool.or_eq_true, anyB_iff]
    constructor
    · rintro (⟨k, h1, h2⟩ | h)
      · exact ⟨k, by omega, h2⟩
      · exact ⟨c, by omega, h⟩
    · rintro ⟨k, h1, h2⟩
      rcases Nat.lt_or_ge k c with q | q
      · exact Or.inl ⟨k, q, h2⟩
      · exact Or.inr (by rw [show c = k by omega]; exact h2)
theorem b_eq {a b : Bool} (h : a = true ↔ b = true) : a = b := by cases a <;> cases b <;> simp_all
theorem anyB_cong {p r : Nat → Bool} : ∀ {c : Nat}, (∀ k, k < c → p k = r k) → anyB p c = anyB r c
  | 0, _ => rfl
  | c + 1, h => by rw [anyB, anyB, anyB_cong (fun k hk => h k (by omega)), h c (by omega)]
theorem ctI_cong {p r : Nat → Bool} : ∀ {c : Nat}, (∀ k, k < c → p k = r k) → ctI p c = ctI r c
  | 0, _ => rfl
  | c + 1, h => by rw [ctI, ctI, ctI_cong (fun k hk => h k (by omega)), h c (by omega)]
theorem smI_cong {f r : Nat → Int32} : ∀ {c : Nat}, (∀ k, k < c → f k = r k) → smI f c = smI r c
  | 0, _ => rfl
  | c + 1, h => by rw [smI, smI, smI_cong (fun k hk => h k (by omega)), h c (by omega)]
/-- nothing counts from n on -/
theorem ctN_ext {p : Nat → Bool} {n : Nat} : ∀ d : Nat, (∀ k, n ≤ k → k < n + d → p k = false) → ctN p (n + d) = ctN p n
  | 0, _ => rfl
  | d + 1, h => by
    show ctN p ((n + d) + 1) = _
    rw [ctN, ctN_ext d (fun k h1 h2 => h k h1 (by omega)), h (n + d) (by omega) (by omega)]
    simp
theorem fnd_ext {p : Nat → Bool} {i : Int32} {n : Nat} : ∀ d : Nat, (∀ k, n ≤ k → k < n + d → p k = false) → fnd p i (n + d) = fnd p i n
  | 0, _ => rfl
  | d + 1, h => by
    show fnd p i ((n + d) + 1) = _
    rw [fnd, fnd_ext d (fun k h1 h2 => h k h1 (by omega)), h (n + d) (by omega) (by omega)]
    simp
theorem fnd_cong {p r : Nat → Bool} {i : Int32} : ∀ {n : Nat}, (∀ k, k < n → p k = r k) → fnd p i n = fnd r i n
  | 0, _ => rfl
  | n + 1, h => by rw [fnd, fnd, fnd_cong (fun k hk => h k (by omega)), h n (by omega), ctI_cong (fun k hk => h k (by omega))]
/-- a set of things: who is in -/
theorem bs_set {p : Nat → Bool} {n i : Nat} (hn : n ≤ 64) (hi : i < 64) : bitL (orL p (fun k => bit1 (nI k)) n) i = (decide (i < n) && p i) := by
  rw [orL_bit]
  apply b_eq
  rw [anyB_iff]
  simp only [Bool.and_eq_true, decide_eq_true_eq]
  constructor
  · rintro ⟨k, h1, h2, h3⟩
    rw [bitL_1 (by omega) hi] at h3
    simp only [decide_eq_true_eq] at h3
    subst h3
    exact ⟨h1, h2⟩
  · rintro ⟨h1, h2⟩
    exact ⟨i, h1, h2, by rw [bitL_1 hi hi]; simp⟩
/-- a set of things named by claims -/
theorem bs_hit {F : Nat → Nat → Int32} {n c : Nat} (hI : Inv F n c) {p : Nat → Bool} {i : Nat} (hi : i < 64) : bitL (orL p (fun k => bit1 (F 6 k)) c) i = anyB (fun k => p k && decide (F 6 k = nI i)) c := by
  rw [orL_bit]
  apply anyB_cong
  intro k hk
  have h1 := hI.ct hk
  have h2 := hI.ctE hk
  have h3 := hI.n60
  congr 1
  rw [h2, bitL_1 (by omega) hi]
  apply b_eq
  simp only [decide_eq_true_eq]
  rw [nI_eq (by omega) (by omega)]
theorem bt_1 : ∀ p, p < 32 → ∀ r, r < 32 → bt ((1 : Int32) <<< (nI p &&& 31)) r = decide (r = p) := by decide +kernel
theorem bt_1023 : ∀ r, r < 10 → bt 1023 r = true := by decide +kernel
theorem bt_sshr1 : ∀ j, j < 256 → ∀ r, r < 8 → decide (((nI j >>> (nI r &&& 31)) &&& 1) = 1) = bt (nI j) r := by decide +kernel
theorem bt_wau {F : Nat → Nat → Int32} {tp : Int32} {r : Nat} (hr : r < 32) : ∀ k : Nat, k ≤ 32 → bt (wau F tp k) r = (decide (r < k) && stn F tp 10 (nI r))
  | 0, _ => by rw [wau, b_0]; simp
  | k + 1, hk => by
    have ih := bt_wau (F := F) (tp := tp) hr k (by omega)
    rw [wau]
    by_cases hs : stn F tp 10 (nI k) = true
    · rw [if_pos hs, b_or, ih, bt_1 k (by omega) r hr]
      by_cases e : r = k
      · subst e; simp [hs]
      · have h1 : (r < k + 1) ↔ r < k := by omega
        simp [e, h1]
    · rw [if_neg hs, ih]
      by_cases e : r = k
      · subst e; simp [hs]
      · have h1 : (r < k + 1) ↔ r < k := by omega
        simp [h1]
end
section
/-! Euclid's steps -/
def gP (a b : Nat) : Nat → Nat × Nat
  | 0 => (a, b)
  | k + 1 => ((gP a b k).2, (gP a b k).1 % (gP a b k).2)
def GI (a b k x y : Nat) : Prop := Nat.gcd x y = Nat.gcd a b ∧ x < 2 ^ 63 ∧ y < 2 ^ 63 ∧ (k = 0 ∨ (y < x ∧ x * y * 2 ^ k ≤ 2 ^ 127))
theorem GI_0 {a b : Nat} (ha : a < 2 ^ 63) (hb : b < 2 ^ 63) : GI a b 0 a b := ⟨rfl, ha, hb, Or.inl rfl⟩
theorem half_mod {x y : Nat} (q : 0 < y) (h : y < x) : 2 * (x % y) ≤ x := by
  have h1 := Nat.mod_lt x q
  have h2 := Nat.mod_add_div x y
  have h3 : 1 ≤ x / y := (Nat.one_le_div_iff q).mpr (Nat.le_of_lt h)
  have h4 : y * 1 ≤ y * (x / y) := Nat.mul_le_mul_left y h3
  omega
theorem GI_s {a b k x y : Nat} (h : GI a b k x y) (hy : ¬ y = 0) : GI a b (k + 1) y (x % y) := by
  obtain ⟨h1, h2, h3, h4⟩ := h
  have hp : 0 < y := Nat.pos_of_ne_zero hy
  have hm := Nat.mod_lt x hp
  refine ⟨?_, h3, Nat.lt_trans hm h3, Or.inr ⟨hm, ?_⟩⟩
  · rw [← h1, Nat.gcd_comm x y, Nat.gcd_rec y x, Nat.gcd_comm]
  · rcases h4 with h4 | ⟨h5, h6⟩
    · subst h4
      have e1 : y * (x % y) ≤ 2 ^ 63 * 2 ^ 63 := Nat.mul_le_mul (Nat.le_of_lt h3) (Nat.le_of_lt (Nat.lt_trans hm h3))
      have e2 : (2 : Nat) ^ 63 * 2 ^ 63 * 2 ^ 1 = 2 ^ 127 := by decide
      calc y * (x % y) * 2 ^ (0 + 1) ≤ 2 ^ 63 * 2 ^ 63 * 2 ^ (0 + 1) := Nat.mul_le_mul_right _ e1
        _ = 2 ^ 127 := e2
    · have e1 := half_mod hp h5
      have e2 : y * (2 * (x % y)) ≤ y * x := Nat.mul_le_mul_left y e1
      calc y * (x % y) * 2 ^ (k + 1) = y * (2 * (x % y)) * 2 ^ k := by rw [Nat.pow_succ, Nat.mul_comm (2 ^ k) 2, ← Nat.mul_assoc, Nat.mul_assoc y, Nat.mul_comm (x % y) 2]
        _ ≤ y * x * 2 ^ k := Nat.mul_le_mul_right _ e2
        _ = x * y * 2 ^ k := by rw [Nat.mul_comm y x]
        _ ≤ 2 ^ 127 := h6
theorem pow_big {v k m : Nat} (h : v * 2 ^ k ≤ 2 ^ m) (hk : m < k) : v = 0 := by
  rcases Nat.eq_zero_or_pos v with q | q
  · exact q
  · exfalso
    have h1 : 1 * 2 ^ k ≤ v * 2 ^ k := Nat.mul_le_mul_right _ q
    have h2 : 2 ^ m < 2 ^ k := Nat.pow_lt_pow_right (by decide) hk
    omega
theorem GI_end {a b x y : Nat} (h : GI a b 200 x y) : y = 0 := by
  obtain ⟨h1, h2, h3, h4⟩ := h
  rcases h4 with h4 | ⟨h5, h6⟩
  · exact absurd h4 (by decide)
  · have := pow_big h6 (by decide)
    rcases Nat.mul_eq_zero.mp this with q | q
    · omega
    · exact q
theorem GI_g {a b k x y : Nat} (h : GI a b k x y) (hz : y = 0) : x = Nat.gcd a b := by
  rw [← h.1, hz, Nat.gcd_zero_right]
theorem lN_0 {x : Nat} (h : x < 2 ^ 63) : lN x = 0 ↔ x = 0 := by
  rw [show (0 : Int64) = lN 0 from rfl, pk_lEQ h (by decide)]
theorem lN_rem {x y : Nat} (hx : x < 2 ^ 63) (hy : y < 2 ^ 63) (h : ¬ lN y = 0) : lN x - lN x / lN y * lN y = lN (x % y) := by
  rw [lN_0 hy] at h
  exact pk_lRem hx (Nat.pos_of_ne_zero h) hy
theorem lN_pos {y : Nat} (hy : y < 2 ^ 63) (h : 0 < y) : ¬ lN y = 0 := by
  rw [lN_0 hy]; omega
/-! fractions compared by whole parts and rests -/
def sL (a b c d : Nat) : Nat → Nat × Nat × Nat × Nat
  | 0 => (a, b, c, d)
  | k + 1 => ((sL a b c d k).2.2.2, (sL a b c d k).2.2.1 % (sL a b c d k).2.2.2, (sL a b c d k).2.1, (sL a b c d k).1 % (sL a b c d k).2.1)
def LI (a b c d k x y z w : Nat) : Prop := 0 < y ∧ 0 < w ∧ (x < 2 ^ 63 ∧ y < 2 ^ 63 ∧ z < 2 ^ 63 ∧ w < 2 ^ 63) ∧ (x * w < z * y ↔ a * d < c * b) ∧ (k = 0 ∨ (y < x ∧ w < z ∧ (x * y + z * w) * 2 ^ k ≤ 2 ^ 128))
theorem LI_0 {a b c d : Nat} (ha : a < 2 ^ 63) (hb : b < 2 ^ 63) (hc : c < 2 ^ 63) (hd : d < 2 ^ 63) (h1 : 0 < b) (h2 : 0 < d) : LI a b c d 0 a b c d := ⟨h1, h2, ⟨ha, hb, hc, hd⟩, Iff.rfl, Or.inl rfl⟩
theorem cross {x y z w : Nat} (e : x / y = z / w) : x * w < z * y ↔ w * (x % y) < y * (z % w) := by
  have hx := Nat.mod_add_div x y
  have hz := Nat.mod_add_div z w
  have e1 : x * w = w * (x % y) + y * w * (z / w) := by
    conv => lhs; rw [← hx, e]
    rw [Nat.add_mul, Nat.mul_comm (x % y) w, Nat.mul_assoc, Nat.mul_comm (z / w) w, Nat.mul_assoc]
  have e2 : z * y = y * (z % w) + y * w * (z / w) := by
    conv => lhs; rw [← hz]
    rw [Nat.add_mul, Nat.mul_comm (z % w) y, Nat.mul_comm (w * (z / w)) y, Nat.mul_assoc]
  rw [e1, e2]
  omega
theorem LI_s {a b c d k x y z w : Nat} (h : LI a b c d k x y z w) (e : x / y = z / w) (hp : ¬ x % y = 0) (hr : ¬ z % w = 0) : LI a b c d (k + 1) w (z % w) y (x % y) := by
  obtain ⟨hy, hw, ⟨b1, b2, b3, b4⟩, h4, h5⟩ := h
  have m1 := Nat.mod_lt x hy
  have m2 := Nat.mod_lt z hw
  refine ⟨Nat.pos_of_ne_zero hr, Nat.pos_of_ne_zero hp, ⟨b4, by omega, b2, by omega⟩, ?_, Or.inr ⟨m2, m1, ?_⟩⟩
  · rw [← h4, cross e]
  · rcases h5 with h5 | ⟨g1, g2, g3⟩
    · subst h5
      have e1 : w * (z % w) ≤ 2 ^ 63 * 2 ^ 63 := Nat.mul_le_mul (Nat.le_of_lt b4) (by omega)
      have e2 : y * (x % y) ≤ 2 ^ 63 * 2 ^ 63 := Nat.mul_le_mul (Nat.le_of_lt b2) (by omega)
      calc (w * (z % w) + y * (x % y)) * 2 ^ (0 + 1) ≤ (2 ^ 63 * 2 ^ 63 + 2 ^ 63 * 2 ^ 63) * 2 ^ (0 + 1) := Nat.mul_le_mul_right _ (Nat.add_le_add e1 e2)
        _ = 2 ^ 128 := by decide
    · have e1 : w * (2 * (z % w)) ≤ w * z := Nat.mul_le_mul_left w (half_mod hw g2)
      have e2 : y * (2 * (x % y)) ≤ y * x := Nat.mul_le_mul_left y (half_mod hy g1)
      have e3 : (w * (z % w) + y * (x % y)) * 2 ≤ x * y + z * w := by
        rw [Nat.mul_comm x y, Nat.mul_comm z w]
        have q1 : w * (2 * (z % w)) = 2 * (w * (z % w)) := by rw [Nat.mul_left_comm]
        have q2 : y * (2 * (x % y)) = 2 * (y * (x % y)) := by rw [Nat.mul_left_comm]
        omega
      calc (w * (z % w) + y * (x % y)) * 2 ^ (k + 1) = (w * (z % w) + y * (x % y)) * 2 * 2 ^ k := by rw [Nat.pow_succ, Nat.mul_comm (2 ^ k) 2, ← Nat.mul_assoc]
        _ ≤ (x * y + z * w) * 2 ^ k := Nat.mul_le_mul_right _ e3
        _ ≤ 2 ^ 128 := g3
theorem LI_end {a b c d x y z w : Nat} (h : LI a b c d 200 x y z w) : False := by
  obtain ⟨hy, hw, -, -, h5⟩ := h
  rcases h5 with h5 | ⟨g1, g2, g3⟩
  · exact absurd h5 (by decide)
  · have h0 := pow_big g3 (by decide)
    have h1 : 0 < x * y := Nat.mul_pos (by omega) hy
    omega
theorem LI_lt {a b c d k x y z w : Nat} (h : LI a b c d k x y z w) (hl : x / y < z / w) : a * d < c * b := by
  obtain ⟨hy, hw, -, h4, -⟩ := h
  rw [← h4]
  have h1 : x < y * (x / y + 1) := Nat.lt_mul_div_succ x hy
  have h2 : y * (x / y + 1) ≤ y * (z / w) := Nat.mul_le_mul_left y hl
  have h3 : (z / w) * w ≤ z := Nat.div_mul_le_self z w
  calc x * w < y * (z / w) * w := Nat.mul_lt_mul_of_pos_right (Nat.lt_of_lt_of_le h1 h2) hw
    _ = (z / w) * w * y := by rw [Nat.mul_comm y, Nat.mul_assoc, Nat.mul_comm y w, Nat.mul_assoc]
    _ ≤ z * y := Nat.mul_le_mul_right y h3
theorem LI_ge {a b c d k x y z w : Nat} (h : LI a b c d k x y z w) (hl : z / w < x / y) : ¬ a * d < c * b := by
  obtain ⟨hy, hw, -, h4, -⟩ := h
  rw [← h4]
  have h1 : z < w * (z / w + 1) := Nat.lt_mul_div_succ z hw
  have h2 : w * (z / w + 1) ≤ w * (x / y) := Nat.mul_le_mul_left w hl
  have h3 : (x / y) * y ≤ x := Nat.div_mul_le_self x y
  have h5 : z * y < x * w := by
    calc z * y < w * (x / y) * y := Nat.mul_lt_mul_of_pos_right (Nat.lt_of_lt_of_le h1 h2) hy
      _ = (x / y) * y * w := by rw [Nat.mul_comm w, Nat.mul_assoc, Nat.mul_comm w y, Nat.mul_assoc]
      _ ≤ x * w := Nat.mul_le_mul_right w h3
  omega
theorem LI_pos {a b c d k x y z w : Nat} (h : LI a b c d k x y z w) (e : x / y = z / w) (hp : x % y = 0) (hr : ¬ z % w = 0) : a * d < c * b := by
  obtain ⟨hy, hw, -, h4, -⟩ := h
  rw [← h4, cross e, hp, Nat.mul_zero]
  exact Nat.mul_pos hy (Nat.pos_of_ne_zero hr)
theorem LI_zero {a b c d k x y z w : Nat} (h : LI a b c d k x y z w) (e : x / y = z / w) (hr : z % w = 0) : ¬ a * d < c * b := by
  obtain ⟨hy, hw, -, h4, -⟩ := h
  rw [← h4, cross e, hr, Nat.mul_zero]
  exact Nat.not_lt_zero _
/-! ways to choose -/
theorem chs_0 (n : Nat) : chs n 0 = 1 := by cases n <;> rfl
theorem chs_gt : ∀ {n k : Nat}, n < k → chs n k = 0
  | _, 0, h => absurd h (Nat.not_lt_zero _)
  | 0, _ + 1, _ => rfl
  | n + 1, k + 1, h => by rw [chs, chs_gt (by omega), chs_gt (by omega)]
theorem chs_pos : ∀ {n k : Nat}, k ≤ n → 0 < chs n k
  | n, 0, _ => by rw [chs_0]; decide
  | 0, _ + 1, h => absurd h (by omega)
  | n + 1, k + 1, h => by
    have := chs_pos (n := n) (k := k) (by omega)
    rw [chs]; omega
theorem chs_le : ∀ (n k : Nat), chs n k ≤ 2 ^ n
  | n, 0 => by rw [chs_0]; exact Nat.one_le_two_pow
  | 0, _ + 1 => by rw [chs]; exact Nat.zero_le _
  | n + 1, k + 1 => by
    have h1 := chs_le n k
    have h2 := chs_le n (k + 1)
    rw [chs, Nat.pow_succ]; omega
theorem chs_63 {n : Nat} (hn : n ≤ 60) (k : Nat) : chs n k < 2 ^ 63 :=
  Nat.lt_of_le_of_lt (chs_le n k) (Nat.lt_of_le_of_lt (Nat.pow_le_pow_right (by decide) hn) (by decide))
def smN (f : Nat → Nat) : Nat → Nat
  | 0 => 0
  | k + 1 => smN f k + f k
def smR (f : Nat → Nat) (lo : Nat) : Nat → Nat
  | 0 => 0
  | k + 1 => if lo ≤ k then smR f lo k + f k else smR f lo k
theorem smR_lo {f : Nat → Nat} {lo : Nat} : ∀ k : Nat, k ≤ lo → smR f lo k = 0
  | 0, _ => rfl
  | k + 1, h => by rw [smR, if_neg (by omega), smR_lo k (by omega)]
theorem smR_le {f : Nat → Nat} {lo : Nat} : ∀ k : Nat, smR f lo k ≤ smN f k
  | 0 => Nat.le_refl _
  | k + 1 => by
    have h := smR_le (f := f) (lo := lo) k
    rw [smR, smN]; split <;> omega
theorem smR_ext {f : Nat → Nat} {lo k : Nat} : ∀ d : Nat, (∀ j, k ≤ j → j < k + d → f j = 0) → smR f lo (k + d) = smR f lo k
  | 0, _ => rfl
  | d + 1, h => by
    show smR f lo ((k + d) + 1) = _
    rw [smR, smR_ext d (fun j h1 h2 => h j h1 (by omega)), h (k + d) (by omega) (by omega)]
    simp
theorem smN_0 {f : Nat → Nat} : ∀ m : Nat, smN f (m + 1) = f 0 + smN (fun i => f (i + 1)) m
  | 0 => by rw [smN, smN, smN]; omega
  | m + 1 => by rw [smN, smN_0 m, smN]; omega
theorem smN_add {f g : Nat → Nat} : ∀ m : Nat, smN (fun i => f i + g i) m = smN f m + smN g m
  | 0 => rfl
  | m + 1 => by rw [smN, smN, smN, smN_add m]; omega
theorem smN_cong {f g : Nat → Nat} : ∀ {m : Nat}, (∀ i, i < m → f i = g i) → smN f m = smN g m
  | 0, _ => rfl
  | m + 1, h => by rw [smN, smN, smN_cong (fun i hi => h i (by omega)), h m (by omega)]
theorem smN_zero {f : Nat → Nat} : ∀ {m : Nat}, (∀ i, i < m → f i = 0) → smN f m = 0
  | 0, _ => rfl
  | m + 1, h => by rw [smN, smN_zero (fun i hi => h i (by omega)), h m (by omega)]
theorem vander (R : Nat) : ∀ (K m : Nat), smN (fun i => chs K i * chs R (m - i)) (m + 1) = chs (K + R) m
  | 0, m => by
    rw [smN_0, smN_zero (fun i _ => by show chs 0 (i + 1) * _ = 0; rw [chs, Nat.zero_mul]), chs_0, Nat.one_mul, Nat.sub_zero, Nat.add_zero, Nat.zero_add]
  | K + 1, 0 => by rw [smN_0, smN, chs_0, chs_0, chs_0]
  | K + 1, m + 1 => by
    have h1 := vander R K m
    have h2 := vander R K (m + 1)
    rw [smN_0] at h2
    rw [smN_0, smN_cong (g := fun i => chs K i * chs R (m - i) + chs K (i + 1) * chs R (m + 1 - (i + 1))) (fun i _ => by
      show chs (K + 1) (i + 1) * chs R (m + 1 - (i + 1)) = _
      rw [chs, Nat.add_mul, show m + 1 - (i + 1) = m - i by omega]), smN_add, h1, chs_0, show K + 1 + R = (K + R) + 1 by omega, chs, ← h2, chs_0]
    omega
def Uf (K M nb : Nat) : Nat → Nat := fun i => chs K i * chs (M - K) (nb - i)
def uW (K M nb kb : Nat) : Nat := smR (Uf K M nb) kb (nb + 1)
theorem uW_le {K M nb kb : Nat} (h : K ≤ M) : uW K M nb kb ≤ chs M nb := by
  have h1 := smR_le (f := Uf K M nb) (lo := kb) (nb + 1)
  have h2 := vander (M - K) K nb
  rw [show K + (M - K) = M by omega] at h2
  show smR (Uf K M nb) kb (nb + 1) ≤ _
  rw [← h2]; exact h1
theorem uW_min {K M nb kb N : Nat} (h : N = min K nb + 1) : smR (Uf K M nb) kb N = uW K M nb kb := by
  unfold uW
  rcases Nat.lt_or_ge K nb with q | q
  · have e : N = K + 1 := by omega
    rw [e, show nb + 1 = (K + 1) + (nb - K) by omega, smR_ext (nb - K) (fun j h1 _ => by unfold Uf; rw [chs_gt (by omega), Nat.zero_mul])]
  · rw [show N = nb + 1 by omega]
theorem wyF_at {a b : Nat} (h : b < 61) : wyF (61 * a + b) = lN (chs a b) := by
  unfold wyF
  rw [show (61 * a + b) / 61 = a by omega, show (61 * a + b) % 61 = b by omega]
theorem ctN_imp {p r : Nat → Bool} : ∀ {k : Nat}, (∀ j, j < k → p j = true → r j = true) → ctN p k ≤ ctN r k
  | 0, _ => Nat.le_refl _
  | k + 1, h => by
    have ih := ctN_imp (p := p) (r := r) (k := k) (fun j hj => h j (by omega))
    rw [ctN, ctN]
    by_cases hp : p k = true
    · rw [if_pos hp, if_pos (h k (by omega) hp)]; omega
    · rw [if_neg hp]; split <;> omega
theorem lowest {a b : Nat} (hb : 0 < b) : 0 < Nat.gcd a b := Nat.gcd_pos_of_pos_right a hb
theorem lN_npos {y : Nat} (hy : y < 2 ^ 63) (h : 0 < y) : ¬ lN y ≤ 0 := by
  rw [show (0 : Int64) = lN 0 from rfl, pk_lLE hy (by decide)]; omega
theorem lN_le0 {y : Nat} (hy : y < 2 ^ 63) (h : lN y ≤ 0) : y = 0 := by
  rw [show (0 : Int64) = lN 0 from rfl, pk_lLE hy (by decide)] at h; omega
theorem lN_nle0 {y : Nat} (h : ¬ lN y ≤ 0) : ¬ y = 0 := fun e => h (by rw [e]; exact Int64.le_refl 0)
theorem cg5 {α β γ δ ε : Type} (f : α → β → γ → δ → ε → List (Nat × Value)) {a b : α} {c d : β} {x y : γ} {u v : δ} {i j : ε} (h : a = b) (h2 : c = d) (h3 : x = y) (h4 : u = v) (h5 : i = j) : f a c x u i = f b d y v j := by rw [h, h2, h3, h4, h5]
end
section
/-! sets of things by batch, by claims -/
def sNb (F : Nat → Nat → Int32) (n : Nat) (x : Int32) : Nat := ctN (fun t => decide (F 0 t = x)) n
def sK (F : Nat → Nat → Int32) (n c : Nat) (p0 mo : Int32) : Nat := ctN (fun t => anyB (sHasC F t p0 mo) c) n
def sKb (F : Nat → Nat → Int32) (n c : Nat) (x p0 mo : Int32) : Nat := ctN (fun t => decide (F 0 t = x) && anyB (sHasC F t p0 mo) c) n
def cU (F : Nat → Nat → Int32) (n c : Nat) (x p0 mo : Int32) : Nat := uW (sK F n c p0 mo) n (sNb F n x) (sKb F n c x p0 mo)
def cL (F : Nat → Nat → Int32) (n : Nat) (x : Int32) : Nat := chs n (sNb F n x)
def sOb (F : Nat → Nat → Int32) (n : Nat) (x : Int32) : Int64 := orL (sSold F ((1 : Int32) <<< (x &&& 31)) 0 119) (fun k => bit1 (nI k)) n
def sHi (F : Nat → Nat → Int32) (c : Nat) (p0 mo : Int32) : Int64 := orL (sHit F ((1 : Int32) <<< (p0 &&& 31)) mo) (fun k => bit1 (F 6 k)) c
theorem ab_rg (w : Int32) : (decide (w = 0) || decide (w = 1)) = rg w 0 1 := by
  apply b_eq
  simp only [rg, Bool.or_eq_true, Bool.and_eq_true, decide_eq_true_eq, Int32.le_iff_toInt_le, ← Int32.toInt_inj]
  have e0 : (0 : Int32).toInt = 0 := by decide
  have e1 : (1 : Int32).toInt = 1 := by decide
  rw [e0, e1]; omega
theorem sHas_1 {x r : Int32} {N : Nat} (hN : N ≤ 32) {M : Int32} (hM : M.toInt = (N : Int) - 1) (hx : rg x 0 M = true) (hr : rg r 0 M = true) : sHas ((1 : Int32) <<< (x &&& 31)).toInt64 r = decide (r = x) := by
  obtain ⟨a, ha, rfl⟩ := rg_nat (by omega) hM hx
  obtain ⟨b, hb, rfl⟩ := rg_nat (by omega) hM hr
  rw [sHas_bit (by omega), bitL_64 _ (by omega), bt_1 a (by omega) b (by omega)]
  apply b_eq
  simp only [decide_eq_true_eq]
  rw [nI_eq (by omega) (by omega)]
theorem ob_bit {F : Nat → Nat → Int32} {n c : Nat} (hI : Inv F n c) {x : Int32} (hx : rg x 0 7 = true) {i : Nat} (hi : i < 64) : bitL (sOb F n x) i = (decide (i < n) && decide (F 0 i = x)) := by
  have h60 := hI.n60
  rw [sOb, bs_set (by omega) hi]
  by_cases h : i < n
  · have ht := hI.T h
    rw [show sSold F ((1 : Int32) <<< (x &&& 31)) 0 119 i = (sHas ((1 : Int32) <<< (x &&& 31)).toInt64 (F 0 i) && rg (F 1 i) 0 119) from rfl, sHas_1 (N := 8) (by decide) (by decide) hx ht.1, ht.2.1, Bool.and_true]
  · simp [h]
theorem hi_bit {F : Nat → Nat → Int32} {n c : Nat} (hI : Inv F n c) {p0 mo : Int32} (hp : rg p0 0 9 = true) {i : Nat} (hi : i < 64) : bitL (sHi F c p0 mo) i = (decide (i < n) && anyB (sHasC F i p0 mo) c) := by
  have h60 := hI.n60
  rw [sHi, bs_hit hI hi]
  have e : anyB (fun k => sHit F ((1 : Int32) <<< (p0 &&& 31)) mo k && decide (F 6 k = nI i)) c = anyB (sHasC F i p0 mo) c := by
    apply anyB_cong
    intro k hk
    rw [show sHit F ((1 : Int32) <<< (p0 &&& 31)) mo k = (sLetBy F mo k && sHas ((1 : Int32) <<< (p0 &&& 31)).toInt64 (F 7 k)) from rfl, sHas_1 (N := 10) (by decide) (by decide) hp (hI.C hk).2.1]
    unfold sHasC
    cases sLetBy F mo k <;> cases decide (F 7 k = p0) <;> cases decide (F 6 k = nI i) <;> rfl
  rw [e]
  by_cases h : i < n
  · simp [h]
  · have : anyB (sHasC F i p0 mo) c = false := by
      rcases hb : anyB (sHasC F i p0 mo) c with _ | _
      · rfl
      · exfalso
        obtain ⟨k, hk, h2⟩ := anyB_iff.mp hb
        unfold sHasC at h2
        simp only [Bool.and_eq_true, decide_eq_true_eq] at h2
        have h3 := hI.ct hk
        rw [h2.1.2, show ix (nI i) = i from nI_clamp (by omega)] at h3
        exact h h3
    rw [this]; simp
theorem ct_in {p : Nat → Bool} {x : Int64} {n : Nat} (hn : n ≤ 60) (h : ∀ i, i < 64 → bitL x i = (decide (i < n) && p i)) : ctN (bitL x) 64 = ctN p n := by
  have e := ctN_ext (p := bitL x) (n := n) (64 - n) (fun k h1 h2 => by rw [h k (by omega)]; simp [Nat.not_lt.mpr h1])
  rw [show n + (64 - n) = 64 by omega] at e
  rw [e]
  exact ctN_cong (fun j hj => by rw [h j (by omega)]; simp [hj])
theorem ob_ct {F : Nat → Nat → Int32} {n c : Nat} (hI : Inv F n c) {x : Int32} (hx : rg x 0 7 = true) : ctN (bitL (sOb F n x)) 64 = sNb F n x := ct_in hI.n60 (fun _ hi => ob_bit hI hx hi)
theorem hi_ct {F : Nat → Nat → Int32} {n c : Nat} (hI : Inv F n c) {p0 mo : Int32} (hp : rg p0 0 9 = true) : ctN (bitL (sHi F c p0 mo)) 64 = sK F n c p0 mo := ct_in hI.n60 (fun _ hi => hi_bit hI hp hi)
theorem oh_ct {F : Nat → Nat → Int32} {n c : Nat} (hI : Inv F n c) {x p0 mo : Int32} (hx : rg x 0 7 = true) (hp : rg p0 0 9 = true) : ctN (bitL (sOb F n x &&& sHi F c p0 mo)) 64 = sKb F n c x p0 mo := ct_in hI.n60 (fun i hi => by
  rw [bitL_and, ob_bit hI hx hi, hi_bit hI hp hi]
  cases decide (i < n) <;> cases decide (F 0 i = x) <;> cases anyB (sHasC F i p0 mo) c <;> rfl)
theorem L_ext {x y : Int64} (h : ∀ i, i < 64 → bitL x i = bitL y i) : x = y := Int64.toBitVec_inj.mp (BitVec.eq_of_getLsbD_eq (fun i hi => h i hi))
theorem ctN_0 {p : Nat → Bool} : ∀ {k : Nat}, ctN p k = 0 → ∀ j, j < k → p j = false
  | 0, _, j, hj => absurd hj (Nat.not_lt_zero j)
  | k + 1, h, j, hj => by
    rw [ctN] at h
    by_cases hp : p k = true
    · rw [if_pos hp] at h; omega
    · rw [if_neg hp] at h
      rcases Nat.lt_or_ge j k with q | q
      · exact ctN_0 h j q
      · rw [show j = k by omega]; simpa using hp
theorem ctN_z {p : Nat → Bool} : ∀ {k : Nat}, (∀ j, j < k → p j = false) → ctN p k = 0
  | 0, _ => rfl
  | k + 1, h => by rw [ctN, h k (by omega), ctN_z (fun j hj => h j (by omega))]; simp
theorem ob_0 {F : Nat → Nat → Int32} {n c : Nat} (hI : Inv F n c) {x : Int32} (hx : rg x 0 7 = true) : sOb F n x = 0 ↔ sNb F n x = 0 := by
  rw [← ob_ct hI hx]
  constructor
  · intro h; rw [h]; exact ctN_z (fun j _ => bitL_0 j)
  · intro h
    apply L_ext
    intro i hi
    rw [bitL_0]
    exact ctN_0 h i hi
theorem sNb_le {F : Nat → Nat → Int32} {n : Nat} {x : Int32} : sNb F n x ≤ n := ctN_le n
theorem sK_le {F : Nat → Nat → Int32} {n c : Nat} {p0 mo : Int32} : sK F n c p0 mo ≤ n := ctN_le n
theorem cL_pos {F : Nat → Nat → Int32} {n : Nat} {x : Int32} : 0 < cL F n x := chs_pos sNb_le
theorem cL_63 {F : Nat → Nat → Int32} {n c : Nat} (hI : Inv F n c) {x : Int32} : cL F n x < 2 ^ 63 := chs_63 hI.n60 _
theorem cU_63 {F : Nat → Nat → Int32} {n c : Nat} (hI : Inv F n c) {x p0 mo : Int32} : cU F n c x p0 mo < 2 ^ 63 := Nat.lt_of_le_of_lt (uW_le sK_le) (chs_63 hI.n60 _)
def aChance (F : Nat → Nat → Int32) (n c : Nat) (x p0 mo w : Int32) : Int64 := if rg x 0 7 = true then (if rg p0 0 9 = true then (if rg mo 0 300 = true then (if rg w 0 1 = true then (if sNb F n x = 0 then -3 else lN ((if w = 0 then cU F n c x p0 mo else cL F n x) / Nat.gcd (cU F n c x p0 mo) (cL F n x))) else -2) else -2) else -2) else -2
def odC (F : Nat → Nat → Int32) (n c : Nat) (p0 mo : Int32) : Nat → Int32 × Nat × Nat
  | 0 => (-1, 1, 1)
  | b + 1 => if sNb F n (nI b) = 0 then odC F n c p0 mo b else if (odC F n c p0 mo b).1 = -1 then (nI b, cU F n c (nI b) p0 mo, cL F n (nI b)) else if cU F n c (nI b) p0 mo * (odC F n c p0 mo b).2.2 < (odC F n c p0 mo b).2.1 * cL F n (nI b) then (nI b, cU F n c (nI b) p0 mo, cL F n (nI b)) else odC F n c p0 mo b
theorem odC_ok {F : Nat → Nat → Int32} {n c : Nat} (hI : Inv F n c) {p0 mo : Int32} : ∀ b : Nat, (odC F n c p0 mo b).2.1 < 2 ^ 63 ∧ (odC F n c p0 mo b).2.2 < 2 ^ 63 ∧ 0 < (odC F n c p0 mo b).2.2
  | 0 => ⟨(by decide : 1 < 2 ^ 63), (by decide : 1 < 2 ^ 63), (by decide : 0 < 1)⟩
  | b + 1 => by
    have ih := odC_ok hI (p0 := p0) (mo := mo) b
    have hn : (nI b, cU F n c (nI b) p0 mo, cL F n (nI b)).2.1 < 2 ^ 63 ∧ (nI b, cU F n c (nI b) p0 mo, cL F n (nI b)).2.2 < 2 ^ 63 ∧ 0 < (nI b, cU F n c (nI b) p0 mo, cL F n (nI b)).2.2 := ⟨cU_63 hI, cL_63 hI, cL_pos⟩
    rw [odC]
    split
    · exact ih
    · split
      · exact hn
      · split
        · exact hn
        · exact ih
theorem rg_k7 {k : Nat} (h : k < 8) : rg (nI k) 0 7 = true := by
  have : ∀ k, k < 8 → rg (nI k) 0 7 = true := by decide +kernel
  exact this k h
/-- the row of ways -/
theorem wW_row {q : Nat → Nat} {cs : Nat → ClassId} {i : Nat} (h : i < 61) : (wW q cs)[2 + i]? = some (q (50 + i), .inl (cs 1, 61, .inr (.inl (fun j => lN (chs i j))))) := by
  show ([(q 4, (.inr (3, [.ref (q 40)]) : va_E)), (q 40, .inl (cs 2, 61, .inr (.inr (.inr (.inr (fun i => if i < 61 then some (q (50 + i)) else none))))))] ++ (List.range 61).map (fun i => (q (50 + i), (.inl (cs 1, 61, .inr (.inl (fun j => lN (chs i j)))) : va_E))))[2 + i]? = _
  rw [List.getElem?_append_right (by show 2 ≤ 2 + i; omega), show 2 + i - [(q 4, (.inr (3, [.ref (q 40)]) : va_E)), (q 40, .inl (cs 2, 61, .inr (.inr (.inr (.inr (fun i => if i < 61 then some (q (50 + i)) else none))))))].length = i by show 2 + i - 2 = i; omega, List.getElem?_map, List.getElem?_range h]
  rfl
section AA
variable {p : Program} {l : Launch} {e : Env} {R : Room} {s : State} {m : MethodId} {args : Array Value} {below : List Frame} {meth : Method} {c : Code} {H : Heap} {locs : List Loc} {cells slots : Nat} {Q : State → Prop}
variable {cc : ByteArray} {pc : Nat} {ls : Array Slot} {rest : List Value} {D : va_G} {cl : List vw_C} {tys : List (ClassId × FieldType)} {ws : va_W} {a : Nat}
theorem aaK (hexec : p.tables.exec = Jvm.exec) (hb : c.code = cc) (hK : va_K D cl tys s) (hP : va_P D cl ws H) (q0 t0 : Nat) {cA : ClassId} {ty : FieldType} {n : Nat} {f : Nat → Option Nat} (ha : ws[q0]? = some (a, .inl (cA, n, .inr (.inr (.inr (.inr f)))))) (ht : tys[t0]? = some (cA, .array ty)) {i : Int32} (j : Nat) {b : Nat} (hin : vp_in i n) (hj : i.toNatClampNeg = j) (hv : f j = some b) (hdg : decode cc pc = .ok (.aaload, 1))
    (kk : W p l e R s m args below meth c H locs cells slots Q (F0 m (pc + 1) ls (.ref b :: rest))) : W p l e R s m args below meth c H locs cells slots Q (F0 m pc ls (.int i :: .ref a :: rest)) := by
  subst hj
  have hlt : i.toNatClampNeg < n := Nat.not_le.mp fun q => hin (Or.inr q)
  have kk' : W p l e R s m args below meth c H locs cells slots Q (F0 m (pc + 1) ls (va_rf (f i.toNatClampNeg) :: rest)) := by rw [hv]; exact kk
  exact W.aald (v := va_rf (f i.toNatClampNeg)) (ty := .array ty) hexec hb (hP q0 _ ha) ((hK.2 t0 _ ht).1 n (fun j => va_rf (f j))) rfl (fun q => by cases q) (by show ¬ (i < 0 ∨ (arrV _ _ _).slots.size ≤ _); rw [arrV_size]; exact hin) (by show (arrV _ _ _).slots[_]? = _; rw [arrV_read _ _ hlt]) rfl rfl hdg kk'
end AA
end
section
set_option maxHeartbeats 4000000 in
set_option maxRecDepth 100000 in
/-- J13_bitCount_95d88 -/
theorem c_J13_bitCount_95d88 (l : Launch)  (x : Int64)  : Met l yJ13_bitCount_95d88 wsJ13_bitCount_95d88 ({ frames := 0, cells := 0, slots := 0, locals := 0 }) (va_Pc [.long x] (fun _ => True)) (vp_Si (fun r => r = (nI (ctN (bitL x) 64)))) 0 0 (fun _ => False) := by
  refine Met.ofW (cc := cJ13_bitCount_95d88) (maxL := 2) (ret := (some .int)) (by decide) rfl ?_
  intro p e s m args below meth c_ s₁ B hml hv
  obtain ⟨rfl, -⟩ := hv
  have hx := B.exec
  have hb := B.bytes
  have hr := B.returns
  have hts := atoms_spec (ws := wsJ13_bitCount_95d88) B.pre
  have hown : s.vm.findClass RJ13 = some m.cls := findClass_of_methodNamed B.named
  have hlocks := B.notSynchronized
  have hl := lv_entry ([.long x]) (n := 2) (Nat.le_of_ble_eq_true rfl)
  rw [lg_entry_eq]
  generalize (lg_sl ([.long x]) ++ List.replicate (2 - (lg_sl ([.long x])).length) Slot.unset).toArray = ls at hl ⊢
  have hl : lv_has ls 2 [(0, .long x)] := hl
  refine lv_lload_n hx hb dJ13_bitCount_95d88_0 rfl (lv_at hl 0 rfl) ?_
  refine lv_lload_n hx hb dJ13_bitCount_95d88_1 rfl (lv_at hl 0 rfl) ?_
  refine lv_iconst (v := 1) hx hb dJ13_bitCount_95d88_2 (by decide) ?_
  refine lv_lushr (v := ((x : Int64).toUInt64 >>> ((Int32.toInt64 1).toUInt64 &&& Int64.toUInt64 63)).toInt64) hx hb dJ13_bitCount_95d88_3 rfl ?_
  refine lv_ldc2 (v := 6148914691236517205) hx hb hown (hts (.constantLong RJ13 314 (6148914691236517205)) (List.mem_of_getElem? (i := 1) rfl)) dJ13_bitCount_95d88_4 ?_
  refine lv_land hx hb dJ13_bitCount_95d88_7 ?_
  refine lv_lsub hx hb dJ13_bitCount_95d88_8 ?_
  refine lv_topl (fun y1 ey1 => ?_)
  refine lv_lstore_n (lv' := [(0, .long y1)]) hx hb dJ13_bitCount_95d88_9 rfl hl (by decide) rfl (fun ls hl => ?_)
  refine lv_lload_n hx hb dJ13_bitCount_95d88_10 rfl (lv_at hl 0 rfl) ?_
  refine lv_ldc2 (v := 3689348814741910323) hx hb hown (hts (.constantLong RJ13 316 (3689348814741910323)) (List.mem_of_getElem? (i := 2) rfl)) dJ13_bitCount_95d88_11 ?_
  refine lv_land hx hb dJ13_bitCount_95d88_14 ?_
  refine lv_lload_n hx hb dJ13_bitCount_95d88_15 rfl (lv_at hl 0 rfl) ?_
  refine lv_iconst (v := 2) hx hb dJ13_bitCount_95d88_16 (by decide) ?_
  refine lv_lushr (v := ((y1 : Int64).toUInt64 >>> ((Int32.toInt64 2).toUInt64 &&& Int64.toUInt64 63)).toInt64) hx hb dJ13_bitCount_95d88_17 rfl ?_
  refine lv_ldc2 (v := 3689348814741910323) hx hb hown (hts (.constantLong RJ13 316 (3689348814741910323)) (List.mem_of_getElem? (i := 2) rfl)) dJ13_bitCount_95d88_18 ?_
  refine lv_land hx hb dJ13_bitCount_95d88_21 ?_
  refine lv_ladd hx hb dJ13_bitCount_95d88_22 ?_
  refine lv_topl (fun y2 ey2 => ?_)
  refine lv_lstore_n (lv' := [(0, .long y2)]) hx hb dJ13_bitCount_95d88_23 rfl hl (by decide) rfl (fun ls hl => ?_)
  refine lv_lload_n hx hb dJ13_bitCount_95d88_24 rfl (lv_at hl 0 rfl) ?_
  refine lv_lload_n hx hb dJ13_bitCount_95d88_25 rfl (lv_at hl 0 rfl) ?_
  refine lv_iconst (v := 4) hx hb dJ13_bitCount_95d88_26 (by decide) ?_
  refine lv_lushr (v := ((y2 : Int64).toUInt64 >>> ((Int32.toInt64 4).toUInt64 &&& Int64.toUInt64 63)).toInt64) hx hb dJ13_bitCount_95d88_27 rfl ?_
  refine lv_ladd hx hb dJ13_bitCount_95d88_28 ?_
  refine lv_ldc2 (v := 1085102592571150095) hx hb hown (hts (.constantLong RJ13 318 (1085102592571150095)) (List.mem_of_getElem? (i := 3) rfl)) dJ13_bitCount_95d88_29 ?_
  refine lv_land hx hb dJ13_bitCount_95d88_32 ?_
  refine lv_topl (fun y3 ey3 => ?_)
  refine lv_lstore_n (lv' := [(0, .long y3)]) hx hb dJ13_bitCount_95d88_33 rfl hl (by decide) rfl (fun ls hl => ?_)
  refine lv_lload_n hx hb dJ13_bitCount_95d88_34 rfl (lv_at hl 0 rfl) ?_
  refine lv_lload_n hx hb dJ13_bitCount_95d88_35 rfl (lv_at hl 0 rfl) ?_
  refine lv_bipush (v := 8) hx hb dJ13_bitCount_95d88_36 (by decide) ?_
  refine lv_lushr (v := ((y3 : Int64).toUInt64 >>> ((Int32.toInt64 8).toUInt64 &&& Int64.toUInt64 63)).toInt64) hx hb dJ13_bitCount_95d88_38 rfl ?_
  refine lv_ladd hx hb dJ13_bitCount_95d88_39 ?_
  refine lv_topl (fun y4 ey4 => ?_)
  refine lv_lstore_n (lv' := [(0, .long y4)]) hx hb dJ13_bitCount_95d88_40 rfl hl (by decide) rfl (fun ls hl => ?_)
  refine lv_lload_n hx hb dJ13_bitCount_95d88_41 rfl (lv_at hl 0 rfl) ?_
  refine lv_lload_n hx hb dJ13_bitCount_95d88_42 rfl (lv_at hl 0 rfl) ?_
  refine lv_bipush (v := 16) hx hb dJ13_bitCount_95d88_43 (by decide) ?_
  refine lv_lushr (v := ((y4 : Int64).toUInt64 >>> ((Int32.toInt64 16).toUInt64 &&& Int64.toUInt64 63)).toInt64) hx hb dJ13_bitCount_95d88_45 rfl ?_
  refine lv_ladd hx hb dJ13_bitCount_95d88_46 ?_
  refine lv_topl (fun y5 ey5 => ?_)
  refine lv_lstore_n (lv' := [(0, .long y5)]) hx hb dJ13_bitCount_95d88_47 rfl hl (by decide) rfl (fun ls hl => ?_)
  refine lv_lload_n hx hb dJ13_bitCount_95d88_48 rfl (lv_at hl 0 rfl) ?_
  refine lv_lload_n hx hb dJ13_bitCount_95d88_49 rfl (lv_at hl 0 rfl) ?_
  refine lv_bipush (v := 32) hx hb dJ13_bitCount_95d88_50 (by decide) ?_
  refine lv_lushr (v := ((y5 : Int64).toUInt64 >>> ((Int32.toInt64 32).toUInt64 &&& Int64.toUInt64 63)).toInt64) hx hb dJ13_bitCount_95d88_52 rfl ?_
  refine lv_ladd hx hb dJ13_bitCount_95d88_53 ?_
  refine lv_topl (fun y6 ey6 => ?_)
  refine lv_lstore_n (lv' := [(0, .long y6)]) hx hb dJ13_bitCount_95d88_54 rfl hl (by decide) rfl (fun ls hl => ?_)
  refine lv_lload_n hx hb dJ13_bitCount_95d88_55 rfl (lv_at hl 0 rfl) ?_
  refine lv_l2i (v := (Int64.toInt32 y6)) hx hb dJ13_bitCount_95d88_56 rfl ?_
  refine lv_bipush (v := 127) hx hb dJ13_bitCount_95d88_57 (by decide) ?_
  refine lv_iand hx hb dJ13_bitCount_95d88_59 ?_
  exact W.iret (v := ((Int64.toInt32 y6) &&& 127)) hx hb hr (fun t9 ht9 hW9 => ⟨((Int64.toInt32 y6) &&& 127), rfl, ((bc_ok ey1 ey2 ey3 ey4 ey5 ey6).trans (ctI_N 64)), ht9⟩) (fun _ h => by cases h) dJ13_bitCount_95d88_60
set_option maxHeartbeats 4000000 in
set_option maxRecDepth 100000 in
/-- X4_greatestCommonDivisor -/
theorem c_X4_greatestCommonDivisor (l : Launch)  (ua : Nat) (ub : Nat) (ha : ua < 2 ^ 63) (hb2 : ub < 2 ^ 63) : Met l yX4_greatestCommonDivisor wsX4_greatestCommonDivisor ({ frames := 0, cells := 0, slots := 0, locals := 0 }) (va_Pc [.long (lN ua), .long (lN ub)] (fun _ => True)) (vp_Sl (fun r => r = (lN (Nat.gcd ua ub)))) 0 0 (fun _ => False) := by
  refine Met.ofW (cc := cX4_greatestCommonDivisor) (maxL := 11) (ret := (some .long)) (by decide) rfl ?_
  intro p e s m args below meth c_ s₁ B hml hv
  obtain ⟨rfl, -⟩ := hv
  have hx := B.exec
  have hb := B.bytes
  have hr := B.returns
  have hts := atoms_spec (ws := wsX4_greatestCommonDivisor) B.pre
  have hown : s.vm.findClass RX4 = some m.cls := findClass_of_methodNamed B.named
  have hlocks := B.notSynchronized
  have hl := lv_entry ([.long (lN ua), .long (lN ub)]) (n := 11) (Nat.le_of_ble_eq_true rfl)
  rw [lg_entry_eq]
  generalize (lg_sl ([.long (lN ua), .long (lN ub)]) ++ List.replicate (11 - (lg_sl ([.long (lN ua), .long (lN ub)])).length) Slot.unset).toArray = ls at hl ⊢
  have hl : lv_has ls 11 [(0, .long (lN ua)), (2, .long (lN ub))] := hl
  refine lv_lload_n hx hb dX4_greatestCommonDivisor_0 rfl (lv_at hl 0 rfl) ?_
  refine lv_lstore (lv' := [(4, .long (lN ua)), (0, .long (lN ua)), (2, .long (lN ub))]) hx hb dX4_greatestCommonDivisor_1 hl (by decide) rfl (fun ls hl => ?_)
  refine lv_lload_n hx hb dX4_greatestCommonDivisor_3 rfl (lv_at hl 2 rfl) ?_
  refine lv_lstore (lv' := [(6, .long (lN ub)), (4, .long (lN ua)), (0, .long (lN ua)), (2, .long (lN ub))]) hx hb dX4_greatestCommonDivisor_4 hl (by decide) rfl (fun ls hl => ?_)
  refine lv_iconst (v := 0) hx hb dX4_greatestCommonDivisor_6 (by decide) ?_
  refine lv_istore (lv' := [(8, .int 0), (6, .long (lN ub)), (4, .long (lN ua)), (0, .long (lN ua)), (2, .long (lN ub))]) hx hb dX4_greatestCommonDivisor_7 hl (by decide) rfl (fun ls hl => ?_)
  refine lpW (fun k ls => lv_has ls 11 [(0, .long (lN ua)), (2, .long (lN ub)), (4, .long (lN (gP ua ub k).1)), (6, .long (lN (gP ua ub k).2)), (8, .int (nI k))] ∧ (GI ua ub k (gP ua ub k).1 (gP ua ub k).2)) 200 0 (Nat.zero_le _) ls ⟨(show lv_has ls 11 [(0, .long (lN ua)), (2, .long (lN ub)), (4, .long (lN (gP ua ub 0).1)), (6, .long (lN (gP ua ub 0).2)), (8, .int (nI 0))] from lv_sub hl [3, 4, 2, 1, 0] rfl), (GI_0 ha hb2)⟩ ?_ ?_
  · intro ls ⟨hl, hE⟩
    have hl : lv_has ls 11 [(0, .long (lN ua)), (2, .long (lN ub)), (4, .long (lN (gP ua ub 200).1)), (6, .long (lN (gP ua ub 200).2)), (8, .int (nI 200))] := hl
    have hE : GI ua ub 200 (gP ua ub 200).1 (gP ua ub 200).2 := hE
    refine lv_iload hx hb dX4_greatestCommonDivisor_9 (lv_at hl 4 rfl) ?_
    refine lv_sipush (v := 200) hx hb dX4_greatestCommonDivisor_11 (by decide) ?_
    refine lv_icmp_ge (tgt := 45) hx hb dX4_greatestCommonDivisor_14 (by decide) (fun c_1 => ?_) (fun c_1 => ?_)
    · have c_2 := i_le c_1
      refine lv_lload hx hb dX4_greatestCommonDivisor_45 (lv_at hl 2 rfl) ?_
      exact W.lret (v := (lN (gP ua ub 200).1)) hx hb hr (fun t9 ht9 hW9 => ⟨(lN (gP ua ub 200).1), rfl, (by rw [GI_g hE (GI_end hE)]), ht9⟩) (fun _ h => by cases h) dX4_greatestCommonDivisor_47
    · exact absurd (nI_le (b := 200) (Nat.le_refl 200) (by decide)) c_1
  · intro k hk0 hk ih ls ⟨hl, hE⟩
    have hl : lv_has ls 11 [(0, .long (lN ua)), (2, .long (lN ub)), (4, .long (lN (gP ua ub k).1)), (6, .long (lN (gP ua ub k).2)), (8, .int (nI k))] := hl
    have hE : GI ua ub k (gP ua ub k).1 (gP ua ub k).2 := hE
    refine lv_iload hx hb dX4_greatestCommonDivisor_9 (lv_at hl 4 rfl) ?_
    refine lv_sipush (v := 200) hx hb dX4_greatestCommonDivisor_11 (by decide) ?_
    refine lv_icmp_ge (tgt := 45) hx hb dX4_greatestCommonDivisor_14 (by decide) (fun c_3 => ?_) (fun c_3 => ?_)
    · exact absurd c_3 (nI_ge (b := 200) hk (by decide))
    · have c_4 := i_nle c_3
      refine lv_lload hx hb dX4_greatestCommonDivisor_17 (lv_at hl 3 rfl) ?_
      refine lv_lconst (v := 0) hx hb dX4_greatestCommonDivisor_19 (by decide) ?_
      refine W.lcmp hx hb dX4_greatestCommonDivisor_20 ?_
      refine lv_if_eq (tgt := 45) hx hb dX4_greatestCommonDivisor_21 (by decide) (fun c_5 => ?_) (fun c_5 => ?_)
      · have c_6 := (lg_cmp_eq _ _).mp c_5
        refine lv_lload hx hb dX4_greatestCommonDivisor_45 (lv_at hl 2 rfl) ?_
        exact W.lret (v := (lN (gP ua ub k).1)) hx hb hr (fun t9 ht9 hW9 => ⟨(lN (gP ua ub k).1), rfl, (by rw [GI_g hE ((lN_0 hE.2.2.1).mp c_6)]), ht9⟩) (fun _ h => by cases h) dX4_greatestCommonDivisor_47
      · have c_7 := (not_congr (lg_cmp_eq _ _)).mp c_5
        refine lv_lload hx hb dX4_greatestCommonDivisor_24 (lv_at hl 2 rfl) ?_
        refine lv_lload hx hb dX4_greatestCommonDivisor_26 (lv_at hl 3 rfl) ?_
        refine lv_lrem hx hb dX4_greatestCommonDivisor_28 c_7 ?_
        refine lv_lstore (lv' := [(9, .long ((lN (gP ua ub k).1) - (lN (gP ua ub k).1) / (lN (gP ua ub k).2) * (lN (gP ua ub k).2))), (0, .long (lN ua)), (2, .long (lN ub)), (4, .long (lN (gP ua ub k).1)), (6, .long (lN (gP ua ub k).2)), (8, .int (nI k))]) hx hb dX4_greatestCommonDivisor_29 hl (by decide) rfl (fun ls hl => ?_)
        refine lv_lload hx hb dX4_greatestCommonDivisor_31 (lv_at hl 4 rfl) ?_
        refine lv_lstore (lv' := [(4, .long (lN (gP ua ub k).2)), (9, .long ((lN (gP ua ub k).1) - (lN (gP ua ub k).1) / (lN (gP ua ub k).2) * (lN (gP ua ub k).2))), (0, .long (lN ua)), (2, .long (lN ub)), (6, .long (lN (gP ua ub k).2)), (8, .int (nI k))]) hx hb dX4_greatestCommonDivisor_33 hl (by decide) rfl (fun ls hl => ?_)
        refine lv_lload hx hb dX4_greatestCommonDivisor_35 (lv_at hl 1 rfl) ?_
        refine lv_lstore (lv' := [(6, .long ((lN (gP ua ub k).1) - (lN (gP ua ub k).1) / (lN (gP ua ub k).2) * (lN (gP ua ub k).2))), (4, .long (lN (gP ua ub k).2)), (9, .long ((lN (gP ua ub k).1) - (lN (gP ua ub k).1) / (lN (gP ua ub k).2) * (lN (gP ua ub k).2))), (0, .long (lN ua)), (2, .long (lN ub)), (8, .int (nI k))]) hx hb dX4_greatestCommonDivisor_37 hl (by decide) rfl (fun ls hl => ?_)
        refine lv_iinc (v := ((nI k) + 1)) (lv' := [(8, .int ((nI k) + 1)), (6, .long ((lN (gP ua ub k).1) - (lN (gP ua ub k).1) / (lN (gP ua ub k).2) * (lN (gP ua ub k).2))), (4, .long (lN (gP ua ub k).2)), (9, .long ((lN (gP ua ub k).1) - (lN (gP ua ub k).1) / (lN (gP ua ub k).2) * (lN (gP ua ub k).2))), (0, .long (lN ua)), (2, .long (lN ub))]) hx hb dX4_greatestCommonDivisor_39 hl (k := 5) rfl rfl (by decide) rfl (fun ls hl => ?_)
        refine lv_goto (tgt := 9) hx hb dX4_greatestCommonDivisor_42 (by decide) ?_
        have h_8 : (lN (gP ua ub k).2) = (lN (gP ua ub (k + 1)).1) := rfl
        have h_9 : ((lN (gP ua ub k).1) - (lN (gP ua ub k).1) / (lN (gP ua ub k).2) * (lN (gP ua ub k).2)) = (lN (gP ua ub (k + 1)).2) := (lN_rem hE.2.1 hE.2.2.1 c_7)
        have h_10 : ((nI k) + 1) = (nI (k + 1)) := (nI_1 _)
        exact ih _ ⟨(lv_cast (lv_sub (l' := [(0, .long (lN ua)), (2, .long (lN ub)), (4, .long (lN (gP ua ub k).2)), (6, .long ((lN (gP ua ub k).1) - (lN (gP ua ub k).1) / (lN (gP ua ub k).2) * (lN (gP ua ub k).2))), (8, .int ((nI k) + 1))]) hl [4, 5, 2, 1, 0] rfl) (cg3 (fun z8 z9 z10 => [(0, .long (lN ua)), (2, .long (lN ub)), (4, .long z8), (6, .long z9), (8, .int z10)]) h_8 h_9 h_10)), (GI_s hE (fun h9 => c_7 ((lN_0 hE.2.2.1).mpr h9)))⟩
set_option maxHeartbeats 4000000 in
set_option maxRecDepth 100000 in
/-- X5_gcd -/
theorem c_X5_gcd (l : Launch)  (ua : Nat) (ub : Nat) (ha : ua < 2 ^ 63) (hb2 : ub < 2 ^ 63) : Met l yX5_gcd wsX5_gcd ({ frames := 0, cells := 0, slots := 0, locals := 0 }) (va_Pc [.long (lN ua), .long (lN ub)] (fun _ => True)) (vp_Sl (fun r => r = (lN (Nat.gcd ua ub)))) 0 0 (fun _ => False) := by
  refine Met.ofW (cc := cX5_gcd) (maxL := 10) (ret := (some .long)) (by decide) rfl ?_
  intro p e s m args below meth c_ s₁ B hml hv
  obtain ⟨rfl, -⟩ := hv
  have hx := B.exec
  have hb := B.bytes
  have hr := B.returns
  have hts := atoms_spec (ws := wsX5_gcd) B.pre
  have hown : s.vm.findClass RX5 = some m.cls := findClass_of_methodNamed B.named
  have hlocks := B.notSynchronized
  have hl := lv_entry ([.long (lN ua), .long (lN ub)]) (n := 10) (Nat.le_of_ble_eq_true rfl)
  rw [lg_entry_eq]
  generalize (lg_sl ([.long (lN ua), .long (lN ub)]) ++ List.replicate (10 - (lg_sl ([.long (lN ua), .long (lN ub)])).length) Slot.unset).toArray = ls at hl ⊢
  have hl : lv_has ls 10 [(0, .long (lN ua)), (2, .long (lN ub))] := hl
  refine lv_lload_n hx hb dX5_gcd_0 rfl (lv_at hl 0 rfl) ?_
  refine lv_lstore (lv' := [(4, .long (lN ua)), (0, .long (lN ua)), (2, .long (lN ub))]) hx hb dX5_gcd_1 hl (by decide) rfl (fun ls hl => ?_)
  refine lv_lload_n hx hb dX5_gcd_3 rfl (lv_at hl 2 rfl) ?_
  refine lv_lstore (lv' := [(6, .long (lN ub)), (4, .long (lN ua)), (0, .long (lN ua)), (2, .long (lN ub))]) hx hb dX5_gcd_4 hl (by decide) rfl (fun ls hl => ?_)
  refine lpW (fun k ls => lv_has ls 10 [(0, .long (lN ua)), (2, .long (lN ub)), (4, .long (lN (gP ua ub k).1)), (6, .long (lN (gP ua ub k).2))] ∧ (GI ua ub k (gP ua ub k).1 (gP ua ub k).2)) 200 0 (Nat.zero_le _) ls ⟨(show lv_has ls 10 [(0, .long (lN ua)), (2, .long (lN ub)), (4, .long (lN (gP ua ub 0).1)), (6, .long (lN (gP ua ub 0).2))] from lv_sub hl [2, 3, 1, 0] rfl), (GI_0 ha hb2)⟩ ?_ ?_
  · intro ls ⟨hl, hE⟩
    have hl : lv_has ls 10 [(0, .long (lN ua)), (2, .long (lN ub)), (4, .long (lN (gP ua ub 200).1)), (6, .long (lN (gP ua ub 200).2))] := hl
    have hE : GI ua ub 200 (gP ua ub 200).1 (gP ua ub 200).2 := hE
    refine lv_lload hx hb dX5_gcd_6 (lv_at hl 3 rfl) ?_
    refine lv_lconst (v := 0) hx hb dX5_gcd_8 (by decide) ?_
    refine W.lcmp hx hb dX5_gcd_9 ?_
    refine lv_if_eq (tgt := 31) hx hb dX5_gcd_10 (by decide) (fun c_1 => ?_) (fun c_1 => ?_)
    · have c_2 := (lg_cmp_eq _ _).mp c_1
      refine lv_lload hx hb dX5_gcd_31 (lv_at hl 2 rfl) ?_
      exact W.lret (v := (lN (gP ua ub 200).1)) hx hb hr (fun t9 ht9 hW9 => ⟨(lN (gP ua ub 200).1), rfl, (by rw [GI_g hE (GI_end hE)]), ht9⟩) (fun _ h => by cases h) dX5_gcd_33
    · exact absurd ((lN_0 hE.2.2.1).mpr (GI_end hE)) ((not_congr (lg_cmp_eq _ _)).mp c_1)
  · intro k hk0 hk ih ls ⟨hl, hE⟩
    have hl : lv_has ls 10 [(0, .long (lN ua)), (2, .long (lN ub)), (4, .long (lN (gP ua ub k).1)), (6, .long (lN (gP ua ub k).2))] := hl
    have hE : GI ua ub k (gP ua ub k).1 (gP ua ub k).2 := hE
    refine lv_lload hx hb dX5_gcd_6 (lv_at hl 3 rfl) ?_
    refine lv_lconst (v := 0) hx hb dX5_gcd_8 (by decide) ?_
    refine W.lcmp hx hb dX5_gcd_9 ?_
    refine lv_if_eq (tgt := 31) hx hb dX5_gcd_10 (by decide) (fun c_3 => ?_) (fun c_3 => ?_)
    · have c_4 := (lg_cmp_eq _ _).mp c_3
      refine lv_lload hx hb dX5_gcd_31 (lv_at hl 2 rfl) ?_
      exact W.lret (v := (lN (gP ua ub k).1)) hx hb hr (fun t9 ht9 hW9 => ⟨(lN (gP ua ub k).1), rfl, (by rw [GI_g hE ((lN_0 hE.2.2.1).mp c_4)]), ht9⟩) (fun _ h => by cases h) dX5_gcd_33
    · have c_5 := (not_congr (lg_cmp_eq _ _)).mp c_3
      refine lv_lload hx hb dX5_gcd_13 (lv_at hl 2 rfl) ?_
      refine lv_lload hx hb dX5_gcd_15 (lv_at hl 3 rfl) ?_
      refine lv_lrem hx hb dX5_gcd_17 c_5 ?_
      refine lv_lstore (lv' := [(8, .long ((lN (gP ua ub k).1) - (lN (gP ua ub k).1) / (lN (gP ua ub k).2) * (lN (gP ua ub k).2))), (0, .long (lN ua)), (2, .long (lN ub)), (4, .long (lN (gP ua ub k).1)), (6, .long (lN (gP ua ub k).2))]) hx hb dX5_gcd_18 hl (by decide) rfl (fun ls hl => ?_)
      refine lv_lload hx hb dX5_gcd_20 (lv_at hl 4 rfl) ?_
      refine lv_lstore (lv' := [(4, .long (lN (gP ua ub k).2)), (8, .long ((lN (gP ua ub k).1) - (lN (gP ua ub k).1) / (lN (gP ua ub k).2) * (lN (gP ua ub k).2))), (0, .long (lN ua)), (2, .long (lN ub)), (6, .long (lN (gP ua ub k).2))]) hx hb dX5_gcd_22 hl (by decide) rfl (fun ls hl => ?_)
      refine lv_lload hx hb dX5_gcd_24 (lv_at hl 1 rfl) ?_
      refine lv_lstore (lv' := [(6, .long ((lN (gP ua ub k).1) - (lN (gP ua ub k).1) / (lN (gP ua ub k).2) * (lN (gP ua ub k).2))), (4, .long (lN (gP ua ub k).2)), (8, .long ((lN (gP ua ub k).1) - (lN (gP ua ub k).1) / (lN (gP ua ub k).2) * (lN (gP ua ub k).2))), (0, .long (lN ua)), (2, .long (lN ub))]) hx hb dX5_gcd_26 hl (by decide) rfl (fun ls hl => ?_)
      refine lv_goto (tgt := 6) hx hb dX5_gcd_28 (by decide) ?_
      have h_6 : (lN (gP ua ub k).2) = (lN (gP ua ub (k + 1)).1) := rfl
      have h_7 : ((lN (gP ua ub k).1) - (lN (gP ua ub k).1) / (lN (gP ua ub k).2) * (lN (gP ua ub k).2)) = (lN (gP ua ub (k + 1)).2) := (lN_rem hE.2.1 hE.2.2.1 c_5)
      exact ih _ ⟨(lv_cast (lv_sub (l' := [(0, .long (lN ua)), (2, .long (lN ub)), (4, .long (lN (gP ua ub k).2)), (6, .long ((lN (gP ua ub k).1) - (lN (gP ua ub k).1) / (lN (gP ua ub k).2) * (lN (gP ua ub k).2)))]) hl [3, 4, 1, 0] rfl) (cg2 (fun z6 z7 => [(0, .long (lN ua)), (2, .long (lN ub)), (4, .long z6), (6, .long z7)]) h_6 h_7)), (GI_s hE (fun h9 => c_5 ((lN_0 hE.2.2.1).mpr h9)))⟩
set_option maxHeartbeats 4000000 in
set_option maxRecDepth 100000 in
/-- X4_isLess -/
theorem c_X4_isLess (l : Launch)  (ua : Nat) (ub : Nat) (uc : Nat) (ud : Nat) (ha : ua < 2 ^ 63) (hb2 : ub < 2 ^ 63) (hc2 : uc < 2 ^ 63) (hd2 : ud < 2 ^ 63) (hb0 : 0 < ub) (hd0 : 0 < ud) : Met l yX4_isLess wsX4_isLess ({ frames := 0, cells := 0, slots := 0, locals := 0 }) (va_Pc [.long (lN ua), .long (lN ub), .long (lN uc), .long (lN ud)] (fun _ => True)) (vp_Si (fun r => r = (bI (decide (ua * ud < uc * ub))))) 0 0 (fun _ => False) := by
  refine Met.ofW (cc := cX4_isLess) (maxL := 25) (ret := (some .boolean)) (by decide) rfl ?_
  intro p e s m args below meth c_ s₁ B hml hv
  obtain ⟨rfl, -⟩ := hv
  have hx := B.exec
  have hb := B.bytes
  have hr := B.returns
  have hts := atoms_spec (ws := wsX4_isLess) B.pre
  have hown : s.vm.findClass RX4 = some m.cls := findClass_of_methodNamed B.named
  have hlocks := B.notSynchronized
  have hl := lv_entry ([.long (lN ua), .long (lN ub), .long (lN uc), .long (lN ud)]) (n := 25) (Nat.le_of_ble_eq_true rfl)
  rw [lg_entry_eq]
  generalize (lg_sl ([.long (lN ua), .long (lN ub), .long (lN uc), .long (lN ud)]) ++ List.replicate (25 - (lg_sl ([.long (lN ua), .long (lN ub), .long (lN uc), .long (lN ud)])).length) Slot.unset).toArray = ls at hl ⊢
  have hl : lv_has ls 25 [(0, .long (lN ua)), (2, .long (lN ub)), (4, .long (lN uc)), (6, .long (lN ud))] := hl
  refine lv_lload_n hx hb dX4_isLess_0 rfl (lv_at hl 0 rfl) ?_
  refine lv_lstore (lv' := [(8, .long (lN ua)), (0, .long (lN ua)), (2, .long (lN ub)), (4, .long (lN uc)), (6, .long (lN ud))]) hx hb dX4_isLess_1 hl (by decide) rfl (fun ls hl => ?_)
  refine lv_lload_n hx hb dX4_isLess_3 rfl (lv_at hl 2 rfl) ?_
  refine lv_lstore (lv' := [(10, .long (lN ub)), (8, .long (lN ua)), (0, .long (lN ua)), (2, .long (lN ub)), (4, .long (lN uc)), (6, .long (lN ud))]) hx hb dX4_isLess_4 hl (by decide) rfl (fun ls hl => ?_)
  refine lv_lload hx hb dX4_isLess_6 (lv_at hl 4 rfl) ?_
  refine lv_lstore (lv' := [(12, .long (lN uc)), (10, .long (lN ub)), (8, .long (lN ua)), (0, .long (lN ua)), (2, .long (lN ub)), (4, .long (lN uc)), (6, .long (lN ud))]) hx hb dX4_isLess_8 hl (by decide) rfl (fun ls hl => ?_)
  refine lv_lload hx hb dX4_isLess_10 (lv_at hl 6 rfl) ?_
  refine lv_lstore (lv' := [(14, .long (lN ud)), (12, .long (lN uc)), (10, .long (lN ub)), (8, .long (lN ua)), (0, .long (lN ua)), (2, .long (lN ub)), (4, .long (lN uc)), (6, .long (lN ud))]) hx hb dX4_isLess_12 hl (by decide) rfl (fun ls hl => ?_)
  refine lv_iconst (v := 0) hx hb dX4_isLess_14 (by decide) ?_
  refine lv_istore (lv' := [(16, .int 0), (14, .long (lN ud)), (12, .long (lN uc)), (10, .long (lN ub)), (8, .long (lN ua)), (0, .long (lN ua)), (2, .long (lN ub)), (4, .long (lN uc)), (6, .long (lN ud))]) hx hb dX4_isLess_15 hl (by decide) rfl (fun ls hl => ?_)
  refine lpW (fun k ls => lv_has ls 25 [(0, .long (lN ua)), (2, .long (lN ub)), (4, .long (lN uc)), (6, .long (lN ud)), (8, .long (lN (sL ua ub uc ud k).1)), (10, .long (lN (sL ua ub uc ud k).2.1)), (12, .long (lN (sL ua ub uc ud k).2.2.1)), (14, .long (lN (sL ua ub uc ud k).2.2.2)), (16, .int (nI k))] ∧ (LI ua ub uc ud k (sL ua ub uc ud k).1 (sL ua ub uc ud k).2.1 (sL ua ub uc ud k).2.2.1 (sL ua ub uc ud k).2.2.2)) 200 0 (Nat.zero_le _) ls ⟨(show lv_has ls 25 [(0, .long (lN ua)), (2, .long (lN ub)), (4, .long (lN uc)), (6, .long (lN ud)), (8, .long (lN (sL ua ub uc ud 0).1)), (10, .long (lN (sL ua ub uc ud 0).2.1)), (12, .long (lN (sL ua ub uc ud 0).2.2.1)), (14, .long (lN (sL ua ub uc ud 0).2.2.2)), (16, .int (nI 0))] from lv_sub hl [5, 6, 7, 8, 4, 3, 2, 1, 0] rfl), (LI_0 ha hb2 hc2 hd2 hb0 hd0)⟩ ?_ ?_
  · intro ls ⟨hl, hE⟩
    have hl : lv_has ls 25 [(0, .long (lN ua)), (2, .long (lN ub)), (4, .long (lN uc)), (6, .long (lN ud)), (8, .long (lN (sL ua ub uc ud 200).1)), (10, .long (lN (sL ua ub uc ud 200).2.1)), (12, .long (lN (sL ua ub uc ud 200).2.2.1)), (14, .long (lN (sL ua ub uc ud 200).2.2.2)), (16, .int (nI 200))] := hl
    have hE : LI ua ub uc ud 200 (sL ua ub uc ud 200).1 (sL ua ub uc ud 200).2.1 (sL ua ub uc ud 200).2.2.1 (sL ua ub uc ud 200).2.2.2 := hE
    exact (LI_end hE).elim
  · intro k hk0 hk ih ls ⟨hl, hE⟩
    have hl : lv_has ls 25 [(0, .long (lN ua)), (2, .long (lN ub)), (4, .long (lN uc)), (6, .long (lN ud)), (8, .long (lN (sL ua ub uc ud k).1)), (10, .long (lN (sL ua ub uc ud k).2.1)), (12, .long (lN (sL ua ub uc ud k).2.2.1)), (14, .long (lN (sL ua ub uc ud k).2.2.2)), (16, .int (nI k))] := hl
    have hE : LI ua ub uc ud k (sL ua ub uc ud k).1 (sL ua ub uc ud k).2.1 (sL ua ub uc ud k).2.2.1 (sL ua ub uc ud k).2.2.2 := hE
    have d1 : lN (sL ua ub uc ud k).1 / lN (sL ua ub uc ud k).2.1 = lN ((sL ua ub uc ud k).1 / (sL ua ub uc ud k).2.1) := (pk_lDiv (hE.2.2.1.1) hE.1 (hE.2.2.1.2.1))
    have d2 : lN (sL ua ub uc ud k).2.2.1 / lN (sL ua ub uc ud k).2.2.2 = lN ((sL ua ub uc ud k).2.2.1 / (sL ua ub uc ud k).2.2.2) := (pk_lDiv (hE.2.2.1.2.2.1) hE.2.1 (hE.2.2.1.2.2.2))
    have v1 : (sL ua ub uc ud k).1 / (sL ua ub uc ud k).2.1 < 2 ^ 63 := Nat.lt_of_le_of_lt (Nat.div_le_self _ _) (hE.2.2.1.1)
    have v2 : (sL ua ub uc ud k).2.2.1 / (sL ua ub uc ud k).2.2.2 < 2 ^ 63 := Nat.lt_of_le_of_lt (Nat.div_le_self _ _) (hE.2.2.1.2.2.1)
    have r1 : lN (sL ua ub uc ud k).1 - lN (sL ua ub uc ud k).1 / lN (sL ua ub uc ud k).2.1 * lN (sL ua ub uc ud k).2.1 = lN ((sL ua ub uc ud k).1 % (sL ua ub uc ud k).2.1) := (lN_rem (hE.2.2.1.1) (hE.2.2.1.2.1) (lN_pos (hE.2.2.1.2.1) hE.1))
    have r2 : lN (sL ua ub uc ud k).2.2.1 - lN (sL ua ub uc ud k).2.2.1 / lN (sL ua ub uc ud k).2.2.2 * lN (sL ua ub uc ud k).2.2.2 = lN ((sL ua ub uc ud k).2.2.1 % (sL ua ub uc ud k).2.2.2) := (lN_rem (hE.2.2.1.2.2.1) (hE.2.2.1.2.2.2) (lN_pos (hE.2.2.1.2.2.2) hE.2.1))
    have w1 : (sL ua ub uc ud k).1 % (sL ua ub uc ud k).2.1 < 2 ^ 63 := Nat.lt_of_le_of_lt (Nat.mod_le _ _) (hE.2.2.1.1)
    have w2 : (sL ua ub uc ud k).2.2.1 % (sL ua ub uc ud k).2.2.2 < 2 ^ 63 := Nat.lt_of_le_of_lt (Nat.mod_le _ _) (hE.2.2.1.2.2.1)
    refine lv_iload hx hb dX4_isLess_17 (lv_at hl 8 rfl) ?_
    refine lv_sipush (v := 200) hx hb dX4_isLess_19 (by decide) ?_
    refine lv_icmp_ge (tgt := 138) hx hb dX4_isLess_22 (by decide) (fun c_1 => ?_) (fun c_1 => ?_)
    · exact absurd c_1 (nI_ge (b := 200) hk (by decide))
    · have c_2 := i_nle c_1
      refine lv_lload hx hb dX4_isLess_25 (lv_at hl 5 rfl) ?_
      refine lv_lconst (v := 0) hx hb dX4_isLess_27 (by decide) ?_
      refine W.lcmp hx hb dX4_isLess_28 ?_
      refine lv_if_le (tgt := 138) hx hb dX4_isLess_29 (by decide) (fun c_3 => ?_) (fun c_3 => ?_)
      · exact absurd ((lg_cmp_le _ _).mp c_3) (lN_npos (hE.2.2.1.2.1) hE.1)
      · have c_4 := (not_congr (lg_cmp_le _ _)).mp c_3
        have c_5 := i_nleL c_4
        refine lv_lload hx hb dX4_isLess_32 (lv_at hl 7 rfl) ?_
        refine lv_lconst (v := 0) hx hb dX4_isLess_34 (by decide) ?_
        refine W.lcmp hx hb dX4_isLess_35 ?_
        refine lv_if_le (tgt := 138) hx hb dX4_isLess_36 (by decide) (fun c_6 => ?_) (fun c_6 => ?_)
        · exact absurd ((lg_cmp_le _ _).mp c_6) (lN_npos (hE.2.2.1.2.2.2) hE.2.1)
        · have c_7 := (not_congr (lg_cmp_le _ _)).mp c_6
          have c_8 := i_nleL c_7
          refine lv_lload hx hb dX4_isLess_39 (lv_at hl 4 rfl) ?_
          refine lv_lload hx hb dX4_isLess_41 (lv_at hl 5 rfl) ?_
          refine lv_ldiv hx hb dX4_isLess_43 (lN_pos (hE.2.2.1.2.1) hE.1) ?_
          rw [d1]
          refine lv_lstore (lv' := [(17, .long (lN ((sL ua ub uc ud k).1 / (sL ua ub uc ud k).2.1))), (0, .long (lN ua)), (2, .long (lN ub)), (4, .long (lN uc)), (6, .long (lN ud)), (8, .long (lN (sL ua ub uc ud k).1)), (10, .long (lN (sL ua ub uc ud k).2.1)), (12, .long (lN (sL ua ub uc ud k).2.2.1)), (14, .long (lN (sL ua ub uc ud k).2.2.2)), (16, .int (nI k))]) hx hb dX4_isLess_44 hl (by decide) rfl (fun ls hl => ?_)
          refine lv_lload hx hb dX4_isLess_46 (lv_at hl 7 rfl) ?_
          refine lv_lload hx hb dX4_isLess_48 (lv_at hl 8 rfl) ?_
          refine lv_ldiv hx hb dX4_isLess_50 (lN_pos (hE.2.2.1.2.2.2) hE.2.1) ?_
          rw [d2]
          refine lv_lstore (lv' := [(19, .long (lN ((sL ua ub uc ud k).2.2.1 / (sL ua ub uc ud k).2.2.2))), (17, .long (lN ((sL ua ub uc ud k).1 / (sL ua ub uc ud k).2.1))), (0, .long (lN ua)), (2, .long (lN ub)), (4, .long (lN uc)), (6, .long (lN ud)), (8, .long (lN (sL ua ub uc ud k).1)), (10, .long (lN (sL ua ub uc ud k).2.1)), (12, .long (lN (sL ua ub uc ud k).2.2.1)), (14, .long (lN (sL ua ub uc ud k).2.2.2)), (16, .int (nI k))]) hx hb dX4_isLess_51 hl (by decide) rfl (fun ls hl => ?_)
          refine lv_lload hx hb dX4_isLess_53 (lv_at hl 1 rfl) ?_
          refine lv_lload hx hb dX4_isLess_55 (lv_at hl 0 rfl) ?_
          refine W.lcmp hx hb dX4_isLess_57 ?_
          refine lv_if_eq (tgt := 75) hx hb dX4_isLess_58 (by decide) (fun c_9 => ?_) (fun c_9 => ?_)
          · have c_10 := (lg_cmp_eq _ _).mp c_9
            refine lv_lload hx hb dX4_isLess_75 (lv_at hl 6 rfl) ?_
            refine lv_lload hx hb dX4_isLess_77 (lv_at hl 7 rfl) ?_
            refine lv_lrem hx hb dX4_isLess_79 (lN_pos (hE.2.2.1.2.1) hE.1) ?_
            rw [r1]
            refine lv_lstore (lv' := [(21, .long (lN ((sL ua ub uc ud k).1 % (sL ua ub uc ud k).2.1))), (19, .long (lN ((sL ua ub uc ud k).2.2.1 / (sL ua ub uc ud k).2.2.2))), (17, .long (lN ((sL ua ub uc ud k).1 / (sL ua ub uc ud k).2.1))), (0, .long (lN ua)), (2, .long (lN ub)), (4, .long (lN uc)), (6, .long (lN ud)), (8, .long (lN (sL ua ub uc ud k).1)), (10, .long (lN (sL ua ub uc ud k).2.1)), (12, .long (lN (sL ua ub uc ud k).2.2.1)), (14, .long (lN (sL ua ub uc ud k).2.2.2)), (16, .int (nI k))]) hx hb dX4_isLess_80 hl (by decide) rfl (fun ls hl => ?_)
            refine lv_lload hx hb dX4_isLess_82 (lv_at hl 9 rfl) ?_
            refine lv_lload hx hb dX4_isLess_84 (lv_at hl 10 rfl) ?_
            refine lv_lrem hx hb dX4_isLess_86 (lN_pos (hE.2.2.1.2.2.2) hE.2.1) ?_
            rw [r2]
            refine lv_lstore (lv' := [(23, .long (lN ((sL ua ub uc ud k).2.2.1 % (sL ua ub uc ud k).2.2.2))), (21, .long (lN ((sL ua ub uc ud k).1 % (sL ua ub uc ud k).2.1))), (19, .long (lN ((sL ua ub uc ud k).2.2.1 / (sL ua ub uc ud k).2.2.2))), (17, .long (lN ((sL ua ub uc ud k).1 / (sL ua ub uc ud k).2.1))), (0, .long (lN ua)), (2, .long (lN ub)), (4, .long (lN uc)), (6, .long (lN ud)), (8, .long (lN (sL ua ub uc ud k).1)), (10, .long (lN (sL ua ub uc ud k).2.1)), (12, .long (lN (sL ua ub uc ud k).2.2.1)), (14, .long (lN (sL ua ub uc ud k).2.2.2)), (16, .int (nI k))]) hx hb dX4_isLess_87 hl (by decide) rfl (fun ls hl => ?_)
            refine lv_lload hx hb dX4_isLess_89 (lv_at hl 1 rfl) ?_
            refine lv_lconst (v := 0) hx hb dX4_isLess_91 (by decide) ?_
            refine W.lcmp hx hb dX4_isLess_92 ?_
            refine lv_if_eq (tgt := 103) hx hb dX4_isLess_93 (by decide) (fun c_11 => ?_) (fun c_11 => ?_)
            · have c_12 := (lg_cmp_eq _ _).mp c_11
              refine lv_lload hx hb dX4_isLess_103 (lv_at hl 0 rfl) ?_
              refine lv_lconst (v := 0) hx hb dX4_isLess_105 (by decide) ?_
              refine W.lcmp hx hb dX4_isLess_106 ?_
              refine lv_if_le (tgt := 114) hx hb dX4_isLess_107 (by decide) (fun c_13 => ?_) (fun c_13 => ?_)
              · have c_14 := (lg_cmp_le _ _).mp c_13
                have c_15 := i_leL c_14
                refine lv_iconst (v := 0) hx hb dX4_isLess_114 (by decide) ?_
                exact W.zret (v := 0) hx hb hr rfl (fun t9 ht9 hW9 => ⟨0, rfl, (by rw [decide_eq_false (LI_zero hE ((pk_lEQ v1 v2).mp c_10) (lN_le0 w2 c_14))]; rfl), ht9⟩) (fun _ h => by cases h) dX4_isLess_115
              · have c_16 := (not_congr (lg_cmp_le _ _)).mp c_13
                have c_17 := i_nleL c_16
                refine lv_iconst (v := 1) hx hb dX4_isLess_110 (by decide) ?_
                refine lv_goto (tgt := 115) hx hb dX4_isLess_111 (by decide) ?_
                exact W.zret (v := 1) hx hb hr rfl (fun t9 ht9 hW9 => ⟨1, rfl, (by rw [decide_eq_true (LI_pos hE ((pk_lEQ v1 v2).mp c_10) ((lN_0 w1).mp c_12) (lN_nle0 c_16))]; rfl), ht9⟩) (fun _ h => by cases h) dX4_isLess_115
            · have c_18 := (not_congr (lg_cmp_eq _ _)).mp c_11
              refine lv_lload hx hb dX4_isLess_96 (lv_at hl 0 rfl) ?_
              refine lv_lconst (v := 0) hx hb dX4_isLess_98 (by decide) ?_
              refine W.lcmp hx hb dX4_isLess_99 ?_
              refine lv_if_ne (tgt := 116) hx hb dX4_isLess_100 (by decide) (fun c_19 => ?_) (fun c_19 => ?_)
              · have c_20 := (not_congr (lg_cmp_eq _ _)).mp c_19
                refine lv_lload hx hb dX4_isLess_116 (lv_at hl 11 rfl) ?_
                refine lv_lstore (lv' := [(8, .long (lN (sL ua ub uc ud k).2.2.2)), (23, .long (lN ((sL ua ub uc ud k).2.2.1 % (sL ua ub uc ud k).2.2.2))), (21, .long (lN ((sL ua ub uc ud k).1 % (sL ua ub uc ud k).2.1))), (19, .long (lN ((sL ua ub uc ud k).2.2.1 / (sL ua ub uc ud k).2.2.2))), (17, .long (lN ((sL ua ub uc ud k).1 / (sL ua ub uc ud k).2.1))), (0, .long (lN ua)), (2, .long (lN ub)), (4, .long (lN uc)), (6, .long (lN ud)), (10, .long (lN (sL ua ub uc ud k).2.1)), (12, .long (lN (sL ua ub uc ud k).2.2.1)), (14, .long (lN (sL ua ub uc ud k).2.2.2)), (16, .int (nI k))]) hx hb dX4_isLess_118 hl (by decide) rfl (fun ls hl => ?_)
                refine lv_lload hx hb dX4_isLess_120 (lv_at hl 9 rfl) ?_
                refine lv_lstore (lv' := [(12, .long (lN (sL ua ub uc ud k).2.1)), (8, .long (lN (sL ua ub uc ud k).2.2.2)), (23, .long (lN ((sL ua ub uc ud k).2.2.1 % (sL ua ub uc ud k).2.2.2))), (21, .long (lN ((sL ua ub uc ud k).1 % (sL ua ub uc ud k).2.1))), (19, .long (lN ((sL ua ub uc ud k).2.2.1 / (sL ua ub uc ud k).2.2.2))), (17, .long (lN ((sL ua ub uc ud k).1 / (sL ua ub uc ud k).2.1))), (0, .long (lN ua)), (2, .long (lN ub)), (4, .long (lN uc)), (6, .long (lN ud)), (10, .long (lN (sL ua ub uc ud k).2.1)), (14, .long (lN (sL ua ub uc ud k).2.2.2)), (16, .int (nI k))]) hx hb dX4_isLess_122 hl (by decide) rfl (fun ls hl => ?_)
                refine lv_lload hx hb dX4_isLess_124 (lv_at hl 2 rfl) ?_
                refine lv_lstore (lv' := [(10, .long (lN ((sL ua ub uc ud k).2.2.1 % (sL ua ub uc ud k).2.2.2))), (12, .long (lN (sL ua ub uc ud k).2.1)), (8, .long (lN (sL ua ub uc ud k).2.2.2)), (23, .long (lN ((sL ua ub uc ud k).2.2.1 % (sL ua ub uc ud k).2.2.2))), (21, .long (lN ((sL ua ub uc ud k).1 % (sL ua ub uc ud k).2.1))), (19, .long (lN ((sL ua ub uc ud k).2.2.1 / (sL ua ub uc ud k).2.2.2))), (17, .long (lN ((sL ua ub uc ud k).1 / (sL ua ub uc ud k).2.1))), (0, .long (lN ua)), (2, .long (lN ub)), (4, .long (lN uc)), (6, .long (lN ud)), (14, .long (lN (sL ua ub uc ud k).2.2.2)), (16, .int (nI k))]) hx hb dX4_isLess_126 hl (by decide) rfl (fun ls hl => ?_)
                refine lv_lload hx hb dX4_isLess_128 (lv_at hl 4 rfl) ?_
                refine lv_lstore (lv' := [(14, .long (lN ((sL ua ub uc ud k).1 % (sL ua ub uc ud k).2.1))), (10, .long (lN ((sL ua ub uc ud k).2.2.1 % (sL ua ub uc ud k).2.2.2))), (12, .long (lN (sL ua ub uc ud k).2.1)), (8, .long (lN (sL ua ub uc ud k).2.2.2)), (23, .long (lN ((sL ua ub uc ud k).2.2.1 % (sL ua ub uc ud k).2.2.2))), (21, .long (lN ((sL ua ub uc ud k).1 % (sL ua ub uc ud k).2.1))), (19, .long (lN ((sL ua ub uc ud k).2.2.1 / (sL ua ub uc ud k).2.2.2))), (17, .long (lN ((sL ua ub uc ud k).1 / (sL ua ub uc ud k).2.1))), (0, .long (lN ua)), (2, .long (lN ub)), (4, .long (lN uc)), (6, .long (lN ud)), (16, .int (nI k))]) hx hb dX4_isLess_130 hl (by decide) rfl (fun ls hl => ?_)
                refine lv_iinc (v := ((nI k) + 1)) (lv' := [(16, .int ((nI k) + 1)), (14, .long (lN ((sL ua ub uc ud k).1 % (sL ua ub uc ud k).2.1))), (10, .long (lN ((sL ua ub uc ud k).2.2.1 % (sL ua ub uc ud k).2.2.2))), (12, .long (lN (sL ua ub uc ud k).2.1)), (8, .long (lN (sL ua ub uc ud k).2.2.2)), (23, .long (lN ((sL ua ub uc ud k).2.2.1 % (sL ua ub uc ud k).2.2.2))), (21, .long (lN ((sL ua ub uc ud k).1 % (sL ua ub uc ud k).2.1))), (19, .long (lN ((sL ua ub uc ud k).2.2.1 / (sL ua ub uc ud k).2.2.2))), (17, .long (lN ((sL ua ub uc ud k).1 / (sL ua ub uc ud k).2.1))), (0, .long (lN ua)), (2, .long (lN ub)), (4, .long (lN uc)), (6, .long (lN ud))]) hx hb dX4_isLess_132 hl (k := 12) rfl rfl (by decide) rfl (fun ls hl => ?_)
                refine lv_goto (tgt := 17) hx hb dX4_isLess_135 (by decide) ?_
                have h_21 : (lN (sL ua ub uc ud k).2.2.2) = (lN (sL ua ub uc ud (k + 1)).1) := rfl
                have h_22 : (lN ((sL ua ub uc ud k).2.2.1 % (sL ua ub uc ud k).2.2.2)) = (lN (sL ua ub uc ud (k + 1)).2.1) := rfl
                have h_23 : (lN (sL ua ub uc ud k).2.1) = (lN (sL ua ub uc ud (k + 1)).2.2.1) := rfl
                have h_24 : (lN ((sL ua ub uc ud k).1 % (sL ua ub uc ud k).2.1)) = (lN (sL ua ub uc ud (k + 1)).2.2.2) := rfl
                have h_25 : ((nI k) + 1) = (nI (k + 1)) := (nI_1 _)
                exact ih _ ⟨(lv_cast (lv_sub (l' := [(0, .long (lN ua)), (2, .long (lN ub)), (4, .long (lN uc)), (6, .long (lN ud)), (8, .long (lN (sL ua ub uc ud k).2.2.2)), (10, .long (lN ((sL ua ub uc ud k).2.2.1 % (sL ua ub uc ud k).2.2.2))), (12, .long (lN (sL ua ub uc ud k).2.1)), (14, .long (lN ((sL ua ub uc ud k).1 % (sL ua ub uc ud k).2.1))), (16, .int ((nI k) + 1))]) hl [9, 10, 11, 12, 4, 2, 3, 1, 0] rfl) (cg5 (fun z21 z22 z23 z24 z25 => [(0, .long (lN ua)), (2, .long (lN ub)), (4, .long (lN uc)), (6, .long (lN ud)), (8, .long z21), (10, .long z22), (12, .long z23), (14, .long z24), (16, .int z25)]) h_21 h_22 h_23 h_24 h_25)), (LI_s hE ((pk_lEQ v1 v2).mp c_10) (fun h9 => c_18 ((lN_0 w1).mpr h9)) (fun h9 => c_20 ((lN_0 w2).mpr h9)))⟩
              · have c_26 := (lg_cmp_eq _ _).mp c_19
                refine lv_lload hx hb dX4_isLess_103 (lv_at hl 0 rfl) ?_
                refine lv_lconst (v := 0) hx hb dX4_isLess_105 (by decide) ?_
                refine W.lcmp hx hb dX4_isLess_106 ?_
                refine lv_if_le (tgt := 114) hx hb dX4_isLess_107 (by decide) (fun c_27 => ?_) (fun c_27 => ?_)
                · have c_28 := (lg_cmp_le _ _).mp c_27
                  have c_29 := i_leL c_28
                  refine lv_iconst (v := 0) hx hb dX4_isLess_114 (by decide) ?_
                  exact W.zret (v := 0) hx hb hr rfl (fun t9 ht9 hW9 => ⟨0, rfl, (by rw [decide_eq_false (LI_zero hE ((pk_lEQ v1 v2).mp c_10) (lN_le0 w2 c_28))]; rfl), ht9⟩) (fun _ h => by cases h) dX4_isLess_115
                · exact absurd (Int64.le_of_eq c_26) ((not_congr (lg_cmp_le _ _)).mp c_27)
          · have c_30 := (not_congr (lg_cmp_eq _ _)).mp c_9
            refine lv_lload hx hb dX4_isLess_61 (lv_at hl 1 rfl) ?_
            refine lv_lload hx hb dX4_isLess_63 (lv_at hl 0 rfl) ?_
            refine W.lcmp hx hb dX4_isLess_65 ?_
            refine lv_if_ge (tgt := 73) hx hb dX4_isLess_66 (by decide) (fun c_31 => ?_) (fun c_31 => ?_)
            · have c_32 := (lg_cmp_ge _ _).mp c_31
              have c_33 := i_leL c_32
              refine lv_iconst (v := 0) hx hb dX4_isLess_73 (by decide) ?_
              exact W.zret (v := 0) hx hb hr rfl (fun t9 ht9 hW9 => ⟨0, rfl, (by rw [decide_eq_false (LI_ge hE (Nat.lt_of_le_of_ne ((pk_lLE v2 v1).mp c_32) (fun h9 => c_30 (congrArg lN h9.symm))))]; rfl), ht9⟩) (fun _ h => by cases h) dX4_isLess_74
            · have c_34 := (not_congr (lg_cmp_ge _ _)).mp c_31
              have c_35 := i_nleL c_34
              refine lv_iconst (v := 1) hx hb dX4_isLess_69 (by decide) ?_
              refine lv_goto (tgt := 74) hx hb dX4_isLess_70 (by decide) ?_
              exact W.zret (v := 1) hx hb hr rfl (fun t9 ht9 hW9 => ⟨1, rfl, (by rw [decide_eq_true (LI_lt hE (Nat.lt_of_not_le (fun h9 => c_34 ((pk_lLE v2 v1).mpr h9))))]; rfl), ht9⟩) (fun _ h => by cases h) dX4_isLess_74
set_option maxHeartbeats 4000000 in
set_option maxRecDepth 100000 in
/-- X5_isLess -/
theorem c_X5_isLess (l : Launch)  (ua : Nat) (ub : Nat) (uc : Nat) (ud : Nat) (ha : ua < 2 ^ 63) (hb2 : ub < 2 ^ 63) (hc2 : uc < 2 ^ 63) (hd2 : ud < 2 ^ 63) (hb0 : 0 < ub) (hd0 : 0 < ud) : Met l yX5_isLess wsX5_isLess ({ frames := 0, cells := 0, slots := 0, locals := 0 }) (va_Pc [.long (lN ua), .long (lN ub), .long (lN uc), .long (lN ud)] (fun _ => True)) (vp_Si (fun r => r = (bI (decide (ua * ud < uc * ub))))) 0 0 (fun _ => False) := by
  refine Met.ofW (cc := cX5_isLess) (maxL := 22) (ret := (some .boolean)) (by decide) rfl ?_
  intro p e s m args below meth c_ s₁ B hml hv
  obtain ⟨rfl, -⟩ := hv
  have hx := B.exec
  have hb := B.bytes
  have hr := B.returns
  have hts := atoms_spec (ws := wsX5_isLess) B.pre
  have hown : s.vm.findClass RX5 = some m.cls := findClass_of_methodNamed B.named
  have hlocks := B.notSynchronized
  have hl := lv_entry ([.long (lN ua), .long (lN ub), .long (lN uc), .long (lN ud)]) (n := 22) (Nat.le_of_ble_eq_true rfl)
  rw [lg_entry_eq]
  generalize (lg_sl ([.long (lN ua), .long (lN ub), .long (lN uc), .long (lN ud)]) ++ List.replicate (22 - (lg_sl ([.long (lN ua), .long (lN ub), .long (lN uc), .long (lN ud)])).length) Slot.unset).toArray = ls at hl ⊢
  have hl : lv_has ls 22 [(0, .long (lN ua)), (2, .long (lN ub)), (4, .long (lN uc)), (6, .long (lN ud))] := hl
  refine lv_lload_n hx hb dX5_isLess_0 rfl (lv_at hl 0 rfl) ?_
  refine lv_lstore (lv' := [(8, .long (lN ua)), (0, .long (lN ua)), (2, .long (lN ub)), (4, .long (lN uc)), (6, .long (lN ud))]) hx hb dX5_isLess_1 hl (by decide) rfl (fun ls hl => ?_)
  refine lv_lload_n hx hb dX5_isLess_3 rfl (lv_at hl 2 rfl) ?_
  refine lv_lstore (lv' := [(10, .long (lN ub)), (8, .long (lN ua)), (0, .long (lN ua)), (2, .long (lN ub)), (4, .long (lN uc)), (6, .long (lN ud))]) hx hb dX5_isLess_4 hl (by decide) rfl (fun ls hl => ?_)
  refine lv_lload hx hb dX5_isLess_6 (lv_at hl 4 rfl) ?_
  refine lv_lstore (lv' := [(12, .long (lN uc)), (10, .long (lN ub)), (8, .long (lN ua)), (0, .long (lN ua)), (2, .long (lN ub)), (4, .long (lN uc)), (6, .long (lN ud))]) hx hb dX5_isLess_8 hl (by decide) rfl (fun ls hl => ?_)
  refine lv_lload hx hb dX5_isLess_10 (lv_at hl 6 rfl) ?_
  refine lv_lstore (lv' := [(14, .long (lN ud)), (12, .long (lN uc)), (10, .long (lN ub)), (8, .long (lN ua)), (0, .long (lN ua)), (2, .long (lN ub)), (4, .long (lN uc)), (6, .long (lN ud))]) hx hb dX5_isLess_12 hl (by decide) rfl (fun ls hl => ?_)
  refine lpW (fun k ls => lv_has ls 22 [(0, .long (lN ua)), (2, .long (lN ub)), (4, .long (lN uc)), (6, .long (lN ud)), (8, .long (lN (sL ua ub uc ud k).1)), (10, .long (lN (sL ua ub uc ud k).2.1)), (12, .long (lN (sL ua ub uc ud k).2.2.1)), (14, .long (lN (sL ua ub uc ud k).2.2.2))] ∧ (LI ua ub uc ud k (sL ua ub uc ud k).1 (sL ua ub uc ud k).2.1 (sL ua ub uc ud k).2.2.1 (sL ua ub uc ud k).2.2.2)) 200 0 (Nat.zero_le _) ls ⟨(show lv_has ls 22 [(0, .long (lN ua)), (2, .long (lN ub)), (4, .long (lN uc)), (6, .long (lN ud)), (8, .long (lN (sL ua ub uc ud 0).1)), (10, .long (lN (sL ua ub uc ud 0).2.1)), (12, .long (lN (sL ua ub uc ud 0).2.2.1)), (14, .long (lN (sL ua ub uc ud 0).2.2.2))] from lv_sub hl [4, 5, 6, 7, 3, 2, 1, 0] rfl), (LI_0 ha hb2 hc2 hd2 hb0 hd0)⟩ ?_ ?_
  · intro ls ⟨hl, hE⟩
    have hl : lv_has ls 22 [(0, .long (lN ua)), (2, .long (lN ub)), (4, .long (lN uc)), (6, .long (lN ud)), (8, .long (lN (sL ua ub uc ud 200).1)), (10, .long (lN (sL ua ub uc ud 200).2.1)), (12, .long (lN (sL ua ub uc ud 200).2.2.1)), (14, .long (lN (sL ua ub uc ud 200).2.2.2))] := hl
    have hE : LI ua ub uc ud 200 (sL ua ub uc ud 200).1 (sL ua ub uc ud 200).2.1 (sL ua ub uc ud 200).2.2.1 (sL ua ub uc ud 200).2.2.2 := hE
    exact (LI_end hE).elim
  · intro k hk0 hk ih ls ⟨hl, hE⟩
    have hl : lv_has ls 22 [(0, .long (lN ua)), (2, .long (lN ub)), (4, .long (lN uc)), (6, .long (lN ud)), (8, .long (lN (sL ua ub uc ud k).1)), (10, .long (lN (sL ua ub uc ud k).2.1)), (12, .long (lN (sL ua ub uc ud k).2.2.1)), (14, .long (lN (sL ua ub uc ud k).2.2.2))] := hl
    have hE : LI ua ub uc ud k (sL ua ub uc ud k).1 (sL ua ub uc ud k).2.1 (sL ua ub uc ud k).2.2.1 (sL ua ub uc ud k).2.2.2 := hE
    have d1 : lN (sL ua ub uc ud k).1 / lN (sL ua ub uc ud k).2.1 = lN ((sL ua ub uc ud k).1 / (sL ua ub uc ud k).2.1) := (pk_lDiv (hE.2.2.1.1) hE.1 (hE.2.2.1.2.1))
    have d2 : lN (sL ua ub uc ud k).2.2.1 / lN (sL ua ub uc ud k).2.2.2 = lN ((sL ua ub uc ud k).2.2.1 / (sL ua ub uc ud k).2.2.2) := (pk_lDiv (hE.2.2.1.2.2.1) hE.2.1 (hE.2.2.1.2.2.2))
    have v1 : (sL ua ub uc ud k).1 / (sL ua ub uc ud k).2.1 < 2 ^ 63 := Nat.lt_of_le_of_lt (Nat.div_le_self _ _) (hE.2.2.1.1)
    have v2 : (sL ua ub uc ud k).2.2.1 / (sL ua ub uc ud k).2.2.2 < 2 ^ 63 := Nat.lt_of_le_of_lt (Nat.div_le_self _ _) (hE.2.2.1.2.2.1)
    have r1 : lN (sL ua ub uc ud k).1 - lN (sL ua ub uc ud k).1 / lN (sL ua ub uc ud k).2.1 * lN (sL ua ub uc ud k).2.1 = lN ((sL ua ub uc ud k).1 % (sL ua ub uc ud k).2.1) := (lN_rem (hE.2.2.1.1) (hE.2.2.1.2.1) (lN_pos (hE.2.2.1.2.1) hE.1))
    have r2 : lN (sL ua ub uc ud k).2.2.1 - lN (sL ua ub uc ud k).2.2.1 / lN (sL ua ub uc ud k).2.2.2 * lN (sL ua ub uc ud k).2.2.2 = lN ((sL ua ub uc ud k).2.2.1 % (sL ua ub uc ud k).2.2.2) := (lN_rem (hE.2.2.1.2.2.1) (hE.2.2.1.2.2.2) (lN_pos (hE.2.2.1.2.2.2) hE.2.1))
    have w1 : (sL ua ub uc ud k).1 % (sL ua ub uc ud k).2.1 < 2 ^ 63 := Nat.lt_of_le_of_lt (Nat.mod_le _ _) (hE.2.2.1.1)
    have w2 : (sL ua ub uc ud k).2.2.1 % (sL ua ub uc ud k).2.2.2 < 2 ^ 63 := Nat.lt_of_le_of_lt (Nat.mod_le _ _) (hE.2.2.1.2.2.1)
    refine lv_lload hx hb dX5_isLess_14 (lv_at hl 4 rfl) ?_
    refine lv_lload hx hb dX5_isLess_16 (lv_at hl 5 rfl) ?_
    refine lv_ldiv hx hb dX5_isLess_18 (lN_pos (hE.2.2.1.2.1) hE.1) ?_
    rw [d1]
    refine lv_lload hx hb dX5_isLess_19 (lv_at hl 6 rfl) ?_
    refine lv_lload hx hb dX5_isLess_21 (lv_at hl 7 rfl) ?_
    refine lv_ldiv hx hb dX5_isLess_23 (lN_pos (hE.2.2.1.2.2.2) hE.2.1) ?_
    rw [d2]
    refine W.lcmp hx hb dX5_isLess_24 ?_
    refine lv_if_ne (tgt := 99) hx hb dX5_isLess_25 (by decide) (fun c_1 => ?_) (fun c_1 => ?_)
    · have c_2 := (not_congr (lg_cmp_eq _ _)).mp c_1
      refine lv_lload hx hb dX5_isLess_99 (lv_at hl 4 rfl) ?_
      refine lv_lload hx hb dX5_isLess_101 (lv_at hl 5 rfl) ?_
      refine lv_ldiv hx hb dX5_isLess_103 (lN_pos (hE.2.2.1.2.1) hE.1) ?_
      rw [d1]
      refine lv_lload hx hb dX5_isLess_104 (lv_at hl 6 rfl) ?_
      refine lv_lload hx hb dX5_isLess_106 (lv_at hl 7 rfl) ?_
      refine lv_ldiv hx hb dX5_isLess_108 (lN_pos (hE.2.2.1.2.2.2) hE.2.1) ?_
      rw [d2]
      refine W.lcmp hx hb dX5_isLess_109 ?_
      refine lv_if_ge (tgt := 117) hx hb dX5_isLess_110 (by decide) (fun c_3 => ?_) (fun c_3 => ?_)
      · have c_4 := (lg_cmp_ge _ _).mp c_3
        have c_5 := i_leL c_4
        refine lv_iconst (v := 0) hx hb dX5_isLess_117 (by decide) ?_
        exact W.zret (v := 0) hx hb hr rfl (fun t9 ht9 hW9 => ⟨0, rfl, (by rw [decide_eq_false (LI_ge hE (Nat.lt_of_le_of_ne ((pk_lLE v2 v1).mp c_4) (fun h9 => c_2 (congrArg lN h9.symm))))]; rfl), ht9⟩) (fun _ h => by cases h) dX5_isLess_118
      · have c_6 := (not_congr (lg_cmp_ge _ _)).mp c_3
        have c_7 := i_nleL c_6
        refine lv_iconst (v := 1) hx hb dX5_isLess_113 (by decide) ?_
        refine lv_goto (tgt := 118) hx hb dX5_isLess_114 (by decide) ?_
        exact W.zret (v := 1) hx hb hr rfl (fun t9 ht9 hW9 => ⟨1, rfl, (by rw [decide_eq_true (LI_lt hE (Nat.lt_of_not_le (fun h9 => c_6 ((pk_lLE v2 v1).mpr h9))))]; rfl), ht9⟩) (fun _ h => by cases h) dX5_isLess_118
    · have c_8 := (lg_cmp_eq _ _).mp c_1
      refine lv_lload hx hb dX5_isLess_28 (lv_at hl 4 rfl) ?_
      refine lv_lload hx hb dX5_isLess_30 (lv_at hl 5 rfl) ?_
      refine lv_lrem hx hb dX5_isLess_32 (lN_pos (hE.2.2.1.2.1) hE.1) ?_
      rw [r1]
      refine lv_lstore (lv' := [(16, .long (lN ((sL ua ub uc ud k).1 % (sL ua ub uc ud k).2.1))), (0, .long (lN ua)), (2, .long (lN ub)), (4, .long (lN uc)), (6, .long (lN ud)), (8, .long (lN (sL ua ub uc ud k).1)), (10, .long (lN (sL ua ub uc ud k).2.1)), (12, .long (lN (sL ua ub uc ud k).2.2.1)), (14, .long (lN (sL ua ub uc ud k).2.2.2))]) hx hb dX5_isLess_33 hl (by decide) rfl (fun ls hl => ?_)
      refine lv_lload hx hb dX5_isLess_35 (lv_at hl 7 rfl) ?_
      refine lv_lload hx hb dX5_isLess_37 (lv_at hl 8 rfl) ?_
      refine lv_lrem hx hb dX5_isLess_39 (lN_pos (hE.2.2.1.2.2.2) hE.2.1) ?_
      rw [r2]
      refine lv_lstore (lv' := [(18, .long (lN ((sL ua ub uc ud k).2.2.1 % (sL ua ub uc ud k).2.2.2))), (16, .long (lN ((sL ua ub uc ud k).1 % (sL ua ub uc ud k).2.1))), (0, .long (lN ua)), (2, .long (lN ub)), (4, .long (lN uc)), (6, .long (lN ud)), (8, .long (lN (sL ua ub uc ud k).1)), (10, .long (lN (sL ua ub uc ud k).2.1)), (12, .long (lN (sL ua ub uc ud k).2.2.1)), (14, .long (lN (sL ua ub uc ud k).2.2.2))]) hx hb dX5_isLess_40 hl (by decide) rfl (fun ls hl => ?_)
      refine lv_lload hx hb dX5_isLess_42 (lv_at hl 1 rfl) ?_
      refine lv_lconst (v := 0) hx hb dX5_isLess_44 (by decide) ?_
      refine W.lcmp hx hb dX5_isLess_45 ?_
      refine lv_if_eq (tgt := 56) hx hb dX5_isLess_46 (by decide) (fun c_9 => ?_) (fun c_9 => ?_)
      · have c_10 := (lg_cmp_eq _ _).mp c_9
        refine lv_lload hx hb dX5_isLess_56 (lv_at hl 1 rfl) ?_
        refine lv_lconst (v := 0) hx hb dX5_isLess_58 (by decide) ?_
        refine W.lcmp hx hb dX5_isLess_59 ?_
        refine lv_if_ne (tgt := 74) hx hb dX5_isLess_60 (by decide) (fun c_11 => ?_) (fun c_11 => ?_)
        · exact absurd c_10 ((not_congr (lg_cmp_eq _ _)).mp c_11)
        · have c_12 := (lg_cmp_eq _ _).mp c_11
          refine lv_lload hx hb dX5_isLess_63 (lv_at hl 0 rfl) ?_
          refine lv_lconst (v := 0) hx hb dX5_isLess_65 (by decide) ?_
          refine W.lcmp hx hb dX5_isLess_66 ?_
          refine lv_if_le (tgt := 74) hx hb dX5_isLess_67 (by decide) (fun c_13 => ?_) (fun c_13 => ?_)
          · have c_14 := (lg_cmp_le _ _).mp c_13
            have c_15 := i_leL c_14
            refine lv_iconst (v := 0) hx hb dX5_isLess_74 (by decide) ?_
            exact W.zret (v := 0) hx hb hr rfl (fun t9 ht9 hW9 => ⟨0, rfl, (by rw [decide_eq_false (LI_zero hE ((pk_lEQ v1 v2).mp c_8) (lN_le0 w2 c_14))]; rfl), ht9⟩) (fun _ h => by cases h) dX5_isLess_75
          · have c_16 := (not_congr (lg_cmp_le _ _)).mp c_13
            have c_17 := i_nleL c_16
            refine lv_iconst (v := 1) hx hb dX5_isLess_70 (by decide) ?_
            refine lv_goto (tgt := 75) hx hb dX5_isLess_71 (by decide) ?_
            exact W.zret (v := 1) hx hb hr rfl (fun t9 ht9 hW9 => ⟨1, rfl, (by rw [decide_eq_true (LI_pos hE ((pk_lEQ v1 v2).mp c_8) ((lN_0 w1).mp c_10) (lN_nle0 c_16))]; rfl), ht9⟩) (fun _ h => by cases h) dX5_isLess_75
      · have c_18 := (not_congr (lg_cmp_eq _ _)).mp c_9
        refine lv_lload hx hb dX5_isLess_49 (lv_at hl 0 rfl) ?_
        refine lv_lconst (v := 0) hx hb dX5_isLess_51 (by decide) ?_
        refine W.lcmp hx hb dX5_isLess_52 ?_
        refine lv_if_ne (tgt := 76) hx hb dX5_isLess_53 (by decide) (fun c_19 => ?_) (fun c_19 => ?_)
        · have c_20 := (not_congr (lg_cmp_eq _ _)).mp c_19
          refine lv_lload hx hb dX5_isLess_76 (lv_at hl 9 rfl) ?_
          refine lv_lstore (lv' := [(8, .long (lN (sL ua ub uc ud k).2.2.2)), (18, .long (lN ((sL ua ub uc ud k).2.2.1 % (sL ua ub uc ud k).2.2.2))), (16, .long (lN ((sL ua ub uc ud k).1 % (sL ua ub uc ud k).2.1))), (0, .long (lN ua)), (2, .long (lN ub)), (4, .long (lN uc)), (6, .long (lN ud)), (10, .long (lN (sL ua ub uc ud k).2.1)), (12, .long (lN (sL ua ub uc ud k).2.2.1)), (14, .long (lN (sL ua ub uc ud k).2.2.2))]) hx hb dX5_isLess_78 hl (by decide) rfl (fun ls hl => ?_)
          refine lv_lload hx hb dX5_isLess_80 (lv_at hl 2 rfl) ?_
          refine lv_lstore (lv' := [(14, .long (lN ((sL ua ub uc ud k).1 % (sL ua ub uc ud k).2.1))), (8, .long (lN (sL ua ub uc ud k).2.2.2)), (18, .long (lN ((sL ua ub uc ud k).2.2.1 % (sL ua ub uc ud k).2.2.2))), (16, .long (lN ((sL ua ub uc ud k).1 % (sL ua ub uc ud k).2.1))), (0, .long (lN ua)), (2, .long (lN ub)), (4, .long (lN uc)), (6, .long (lN ud)), (10, .long (lN (sL ua ub uc ud k).2.1)), (12, .long (lN (sL ua ub uc ud k).2.2.1))]) hx hb dX5_isLess_82 hl (by decide) rfl (fun ls hl => ?_)
          refine lv_lload hx hb dX5_isLess_84 (lv_at hl 8 rfl) ?_
          refine lv_lstore (lv' := [(20, .long (lN (sL ua ub uc ud k).2.1)), (14, .long (lN ((sL ua ub uc ud k).1 % (sL ua ub uc ud k).2.1))), (8, .long (lN (sL ua ub uc ud k).2.2.2)), (18, .long (lN ((sL ua ub uc ud k).2.2.1 % (sL ua ub uc ud k).2.2.2))), (16, .long (lN ((sL ua ub uc ud k).1 % (sL ua ub uc ud k).2.1))), (0, .long (lN ua)), (2, .long (lN ub)), (4, .long (lN uc)), (6, .long (lN ud)), (10, .long (lN (sL ua ub uc ud k).2.1)), (12, .long (lN (sL ua ub uc ud k).2.2.1))]) hx hb dX5_isLess_86 hl (by decide) rfl (fun ls hl => ?_)
          refine lv_lload hx hb dX5_isLess_88 (lv_at hl 3 rfl) ?_
          refine lv_lstore (lv' := [(10, .long (lN ((sL ua ub uc ud k).2.2.1 % (sL ua ub uc ud k).2.2.2))), (20, .long (lN (sL ua ub uc ud k).2.1)), (14, .long (lN ((sL ua ub uc ud k).1 % (sL ua ub uc ud k).2.1))), (8, .long (lN (sL ua ub uc ud k).2.2.2)), (18, .long (lN ((sL ua ub uc ud k).2.2.1 % (sL ua ub uc ud k).2.2.2))), (16, .long (lN ((sL ua ub uc ud k).1 % (sL ua ub uc ud k).2.1))), (0, .long (lN ua)), (2, .long (lN ub)), (4, .long (lN uc)), (6, .long (lN ud)), (12, .long (lN (sL ua ub uc ud k).2.2.1))]) hx hb dX5_isLess_90 hl (by decide) rfl (fun ls hl => ?_)
          refine lv_lload hx hb dX5_isLess_92 (lv_at hl 1 rfl) ?_
          refine lv_lstore (lv' := [(12, .long (lN (sL ua ub uc ud k).2.1)), (10, .long (lN ((sL ua ub uc ud k).2.2.1 % (sL ua ub uc ud k).2.2.2))), (20, .long (lN (sL ua ub uc ud k).2.1)), (14, .long (lN ((sL ua ub uc ud k).1 % (sL ua ub uc ud k).2.1))), (8, .long (lN (sL ua ub uc ud k).2.2.2)), (18, .long (lN ((sL ua ub uc ud k).2.2.1 % (sL ua ub uc ud k).2.2.2))), (16, .long (lN ((sL ua ub uc ud k).1 % (sL ua ub uc ud k).2.1))), (0, .long (lN ua)), (2, .long (lN ub)), (4, .long (lN uc)), (6, .long (lN ud))]) hx hb dX5_isLess_94 hl (by decide) rfl (fun ls hl => ?_)
          refine lv_goto (tgt := 14) hx hb dX5_isLess_96 (by decide) ?_
          have h_21 : (lN (sL ua ub uc ud k).2.2.2) = (lN (sL ua ub uc ud (k + 1)).1) := rfl
          have h_22 : (lN ((sL ua ub uc ud k).2.2.1 % (sL ua ub uc ud k).2.2.2)) = (lN (sL ua ub uc ud (k + 1)).2.1) := rfl
          have h_23 : (lN (sL ua ub uc ud k).2.1) = (lN (sL ua ub uc ud (k + 1)).2.2.1) := rfl
          have h_24 : (lN ((sL ua ub uc ud k).1 % (sL ua ub uc ud k).2.1)) = (lN (sL ua ub uc ud (k + 1)).2.2.2) := rfl
          exact ih _ ⟨(lv_cast (lv_sub (l' := [(0, .long (lN ua)), (2, .long (lN ub)), (4, .long (lN uc)), (6, .long (lN ud)), (8, .long (lN (sL ua ub uc ud k).2.2.2)), (10, .long (lN ((sL ua ub uc ud k).2.2.1 % (sL ua ub uc ud k).2.2.2))), (12, .long (lN (sL ua ub uc ud k).2.1)), (14, .long (lN ((sL ua ub uc ud k).1 % (sL ua ub uc ud k).2.1)))]) hl [7, 8, 9, 10, 4, 1, 0, 3] rfl) (cg4 (fun z21 z22 z23 z24 => [(0, .long (lN ua)), (2, .long (lN ub)), (4, .long (lN uc)), (6, .long (lN ud)), (8, .long z21), (10, .long z22), (12, .long z23), (14, .long z24)]) h_21 h_22 h_23 h_24)), (LI_s hE ((pk_lEQ v1 v2).mp c_8) (fun h9 => c_18 ((lN_0 w1).mpr h9)) (fun h9 => c_20 ((lN_0 w2).mpr h9)))⟩
        · have c_25 := (lg_cmp_eq _ _).mp c_19
          refine lv_lload hx hb dX5_isLess_56 (lv_at hl 1 rfl) ?_
          refine lv_lconst (v := 0) hx hb dX5_isLess_58 (by decide) ?_
          refine W.lcmp hx hb dX5_isLess_59 ?_
          refine lv_if_ne (tgt := 74) hx hb dX5_isLess_60 (by decide) (fun c_26 => ?_) (fun c_26 => ?_)
          · have c_27 := (not_congr (lg_cmp_eq _ _)).mp c_26
            refine lv_iconst (v := 0) hx hb dX5_isLess_74 (by decide) ?_
            exact W.zret (v := 0) hx hb hr rfl (fun t9 ht9 hW9 => ⟨0, rfl, (by rw [decide_eq_false (LI_zero hE ((pk_lEQ v1 v2).mp c_8) ((lN_0 w2).mp c_25))]; rfl), ht9⟩) (fun _ h => by cases h) dX5_isLess_75
          · exact absurd ((lg_cmp_eq _ _).mp c_26) c_18
end

section
-- ===== PART A: goes FIRST, ahead of the names: the tables' words, and 'selects' of the private methods out of them =====
/-- a private method of a class that the tables say can be made, by its rows of tables_1 -/
def lw_okq (q : MethodName × Nat) : Prop := (q.1.cls ≠ "java/lang/invoke/MethodHandle" ∧ q.1.cls ≠ "java/lang/invoke/VarHandle") ∧ Cond.instantiable q.1.cls q.2 ∈ tables_1 ∧ Cond.privateMethod q.1 ∈ tables_1 ∧ Cond.instanceMethod q.1 ∈ tables_1
theorem lw_p0 : lw_okq (⟨"TreeDesk$Worth", "setDivisor", "(J)V"⟩, 4) := ⟨⟨by decide +kernel, by decide +kernel⟩, List.mem_of_getElem? (i := 33) (by decide +kernel), List.mem_of_getElem? (i := 59) (by decide +kernel), List.mem_of_getElem? (i := 60) (by decide +kernel)⟩
theorem lw_p1 : lw_okq (⟨"TreeDesk$Worth", "divide", "()V"⟩, 4) := ⟨⟨by decide +kernel, by decide +kernel⟩, List.mem_of_getElem? (i := 33) (by decide +kernel), List.mem_of_getElem? (i := 75) (by decide +kernel), List.mem_of_getElem? (i := 76) (by decide +kernel)⟩
theorem lw_p2 : lw_okq (⟨"TreeDesk$Worth", "divisorLength", "()I"⟩, 4) := ⟨⟨by decide +kernel, by decide +kernel⟩, List.mem_of_getElem? (i := 33) (by decide +kernel), List.mem_of_getElem? (i := 82) (by decide +kernel), List.mem_of_getElem? (i := 83) (by decide +kernel)⟩
theorem lw_p3 : lw_okq (⟨"TreeDesk$Worth", "restHoldsDivisor", "()Z"⟩, 4) := ⟨⟨by decide +kernel, by decide +kernel⟩, List.mem_of_getElem? (i := 33) (by decide +kernel), List.mem_of_getElem? (i := 102) (by decide +kernel), List.mem_of_getElem? (i := 103) (by decide +kernel)⟩
theorem lw_p4 : lw_okq (⟨"TreeDesk$Worth", "subtractDivisor", "()V"⟩, 4) := ⟨⟨by decide +kernel, by decide +kernel⟩, List.mem_of_getElem? (i := 33) (by decide +kernel), List.mem_of_getElem? (i := 106) (by decide +kernel), List.mem_of_getElem? (i := 107) (by decide +kernel)⟩
theorem lw_p5 : lw_okq (⟨"TreeDesk", "isBlock", "(I)Z"⟩, 13) := ⟨⟨by decide +kernel, by decide +kernel⟩, List.mem_of_getElem? (i := 12) (by decide +kernel), List.mem_of_getElem? (i := 157) (by decide +kernel), List.mem_of_getElem? (i := 158) (by decide +kernel)⟩
theorem lw_p6 : lw_okq (⟨"TreeDesk", "ancestor", "(II)I"⟩, 13) := ⟨⟨by decide +kernel, by decide +kernel⟩, List.mem_of_getElem? (i := 12) (by decide +kernel), List.mem_of_getElem? (i := 166) (by decide +kernel), List.mem_of_getElem? (i := 167) (by decide +kernel)⟩
theorem lw_p7 : lw_okq (⟨"TreeDesk$Retarget", "multiply", "(JJ)V"⟩, 1) := ⟨⟨by decide +kernel, by decide +kernel⟩, List.mem_of_getElem? (i := 20) (by decide +kernel), List.mem_of_getElem? (i := 182) (by decide +kernel), List.mem_of_getElem? (i := 183) (by decide +kernel)⟩
theorem lw_p8 : lw_okq (⟨"TreeDesk$Retarget", "divide", "()V"⟩, 1) := ⟨⟨by decide +kernel, by decide +kernel⟩, List.mem_of_getElem? (i := 20) (by decide +kernel), List.mem_of_getElem? (i := 188) (by decide +kernel), List.mem_of_getElem? (i := 189) (by decide +kernel)⟩
theorem lw_p9 : lw_okq (⟨"TreeDesk", "rank", "(JI)V"⟩, 13) := ⟨⟨by decide +kernel, by decide +kernel⟩, List.mem_of_getElem? (i := 12) (by decide +kernel), List.mem_of_getElem? (i := 210) (by decide +kernel), List.mem_of_getElem? (i := 211) (by decide +kernel)⟩
theorem lw_p10 : lw_okq (⟨"TreeDesk", "append", "(IJJ)I"⟩, 13) := ⟨⟨by decide +kernel, by decide +kernel⟩, List.mem_of_getElem? (i := 12) (by decide +kernel), List.mem_of_getElem? (i := 214) (by decide +kernel), List.mem_of_getElem? (i := 215) (by decide +kernel)⟩
theorem lw_p11 : lw_okq (⟨"TreeDesk", "sumWork", "(II[J)V"⟩, 13) := ⟨⟨by decide +kernel, by decide +kernel⟩, List.mem_of_getElem? (i := 12) (by decide +kernel), List.mem_of_getElem? (i := 218) (by decide +kernel), List.mem_of_getElem? (i := 219) (by decide +kernel)⟩
theorem lw_p12 : lw_okq (⟨"TreeDesk", "compareWorks", "(II)I"⟩, 13) := ⟨⟨by decide +kernel, by decide +kernel⟩, List.mem_of_getElem? (i := 12) (by decide +kernel), List.mem_of_getElem? (i := 222) (by decide +kernel), List.mem_of_getElem? (i := 223) (by decide +kernel)⟩
theorem lw_p13 : lw_okq (⟨"TreeDesk", "spoilBehind", "(I)I"⟩, 13) := ⟨⟨by decide +kernel, by decide +kernel⟩, List.mem_of_getElem? (i := 12) (by decide +kernel), List.mem_of_getElem? (i := 230) (by decide +kernel), List.mem_of_getElem? (i := 231) (by decide +kernel)⟩
theorem lw_p14 : lw_okq (⟨"TreeDesk", "findBest", "()I"⟩, 13) := ⟨⟨by decide +kernel, by decide +kernel⟩, List.mem_of_getElem? (i := 12) (by decide +kernel), List.mem_of_getElem? (i := 234) (by decide +kernel), List.mem_of_getElem? (i := 235) (by decide +kernel)⟩
theorem lw_p15 : lw_okq (⟨"TreeDeskModel", "join", "(IJJ)V"⟩, 12) := ⟨⟨by decide +kernel, by decide +kernel⟩, List.mem_of_getElem? (i := 296) (by decide +kernel), List.mem_of_getElem? (i := 304) (by decide +kernel), List.mem_of_getElem? (i := 305) (by decide +kernel)⟩
def lw_privs_1 : List (MethodName × Nat) := [(⟨"TreeDesk$Worth", "setDivisor", "(J)V"⟩, 4), (⟨"TreeDesk$Worth", "divide", "()V"⟩, 4), (⟨"TreeDesk$Worth", "divisorLength", "()I"⟩, 4), (⟨"TreeDesk$Worth", "restHoldsDivisor", "()Z"⟩, 4), (⟨"TreeDesk$Worth", "subtractDivisor", "()V"⟩, 4), (⟨"TreeDesk", "isBlock", "(I)Z"⟩, 13), (⟨"TreeDesk", "ancestor", "(II)I"⟩, 13), (⟨"TreeDesk$Retarget", "multiply", "(JJ)V"⟩, 1), (⟨"TreeDesk$Retarget", "divide", "()V"⟩, 1), (⟨"TreeDesk", "rank", "(JI)V"⟩, 13), (⟨"TreeDesk", "append", "(IJJ)I"⟩, 13), (⟨"TreeDesk", "sumWork", "(II[J)V"⟩, 13), (⟨"TreeDesk", "compareWorks", "(II)I"⟩, 13), (⟨"TreeDesk", "spoilBehind", "(I)I"⟩, 13), (⟨"TreeDesk", "findBest", "()I"⟩, 13), (⟨"TreeDeskModel", "join", "(IJJ)V"⟩, 12)]
theorem lw_r1 : ∀ q ∈ lw_privs_1, lw_okq q := List.forall_mem_cons.mpr ⟨lw_p0, List.forall_mem_cons.mpr ⟨lw_p1, List.forall_mem_cons.mpr ⟨lw_p2, List.forall_mem_cons.mpr ⟨lw_p3, List.forall_mem_cons.mpr ⟨lw_p4, List.forall_mem_cons.mpr ⟨lw_p5, List.forall_mem_cons.mpr ⟨lw_p6, List.forall_mem_cons.mpr ⟨lw_p7, List.forall_mem_cons.mpr ⟨lw_p8, List.forall_mem_cons.mpr ⟨lw_p9, List.forall_mem_cons.mpr ⟨lw_p10, List.forall_mem_cons.mpr ⟨lw_p11, List.forall_mem_cons.mpr ⟨lw_p12, List.forall_mem_cons.mpr ⟨lw_p13, List.forall_mem_cons.mpr ⟨lw_p14, List.forall_mem_cons.mpr ⟨lw_p15, fun _ h => absurd h List.not_mem_nil⟩⟩⟩⟩⟩⟩⟩⟩⟩⟩⟩⟩⟩⟩⟩⟩
theorem lw_p16 : lw_okq (⟨"TreeDeskModel", "quotient", "()V"⟩, 12) := ⟨⟨by decide +kernel, by decide +kernel⟩, List.mem_of_getElem? (i := 296) (by decide +kernel), List.mem_of_getElem? (i := 316) (by decide +kernel), List.mem_of_getElem? (i := 317) (by decide +kernel)⟩
theorem lw_p17 : lw_okq (⟨"TreeDeskModel", "isBlock", "(I)Z"⟩, 12) := ⟨⟨by decide +kernel, by decide +kernel⟩, List.mem_of_getElem? (i := 296) (by decide +kernel), List.mem_of_getElem? (i := 392) (by decide +kernel), List.mem_of_getElem? (i := 393) (by decide +kernel)⟩
theorem lw_p18 : lw_okq (⟨"TreeDeskModel", "scale", "(JJ)V"⟩, 12) := ⟨⟨by decide +kernel, by decide +kernel⟩, List.mem_of_getElem? (i := 296) (by decide +kernel), List.mem_of_getElem? (i := 405) (by decide +kernel), List.mem_of_getElem? (i := 406) (by decide +kernel)⟩
def lw_privs_2 : List (MethodName × Nat) := [(⟨"TreeDeskModel", "quotient", "()V"⟩, 12), (⟨"TreeDeskModel", "isBlock", "(I)Z"⟩, 12), (⟨"TreeDeskModel", "scale", "(JJ)V"⟩, 12)]
theorem lw_r2 : ∀ q ∈ lw_privs_2, lw_okq q := List.forall_mem_cons.mpr ⟨lw_p16, List.forall_mem_cons.mpr ⟨lw_p17, List.forall_mem_cons.mpr ⟨lw_p18, fun _ h => absurd h List.not_mem_nil⟩⟩⟩
def lw_privs : List (MethodName × Nat) := lw_privs_1 ++ (lw_privs_2)
def lw_tbl : List Cond := k2_sels lw_privs ++ tables_1
theorem lw_privs_ok : ∀ q ∈ lw_privs, lw_okq q := by
  show ∀ q ∈ lw_privs_1 ++ (lw_privs_2), lw_okq q
  exact List.forall_mem_append.mpr ⟨lw_r1, lw_r2⟩
-- ===== end of PART A; then your names; then what follows =====
/-! THE CLAIM OUT OF ONE WALK OF THE LAW'S BODY. Your part is whole_start (and what it stands on); all else here is the same for every law, but numbers. -/
def R_law : String := "TreeDeskLaw"
def lw_P (b : Addr) (xs : List Int32) (args : Array Value) (s : State) : Prop := args = #[.ref b] ∧ s.IntsAt b xs ∧ xs.length ≤ 4610 ∧ (Jvm.Cond.and given_1 narrow_1).before args s = true
def lw_Q (_ : Array Value) (s : State) (o : Outcome) (t : State) : Prop := o = .returned (some (.int 1)) ∧ Framed s o t [] 600000 7302250
def lw_Z (below : List Frame) (a : Array Value) (s : State) : State → Prop := fun t => ∃ o, t.status = .running ∧ Ended t below o ∧ lw_Q a s o t
/-- the law's own end, with 1 on the stack, nothing written that was there before, its room as the claim has it -/
theorem lw_ret {p : Program} {l : Launch} {e : Env} {s : State} {m : MethodId} {below : List Frame} {meth : Method} {c : Code} {b : Nat} (hx : p.tables.exec = Jvm.exec) (hb : c.code = code) (hr : meth.sig.returnType = ret) (hlocks : meth.locks = false) {pc : Nat} {H : Heap} {ls : Array Slot} (hdg : decode code pc = .ok (.ireturn, 1)) : W p l e room_1 s m #[Value.ref b] below meth c H [] 600000 7302250 (lw_Z below #[Value.ref b] s) (F0 m pc ls [.int 1]) := by
  intro T hT X
  obtain ⟨fs, hret, hrun, hended, hW, hframe⟩ := X.leave (v := some (.int 1)) (hlocks := hlocks) (fun h => by rw [hr] at h; cases h)
  have hmeth' : T.vm.method? m = some meth := X.method'
  refine ⟨T.setFrames fs, ?_, .returned (some (.int 1)), hrun, hended, rfl, ⟨_, rfl⟩, hW, hframe⟩
  jvm_step X.here [X.here.top, hx, hb, hdg, hmeth', hr, ret, narrow_b1]
  (try refine ⟨rfl, ?_⟩); (try refine ⟨rfl, ?_⟩)
  first | (intro acts; rw [hret _ acts rfl rfl rfl]) | rw [hret _ _ rfl rfl rfl]
  exact Steps.refl _
/-- what holds at the law's entry: the machine, the code, the tables' words (any of lw_tbl by 'hts w (by decide +kernel)'), the script of L ints xs at the cell b, what the Statement gives of the start (any of its parts by flat_of_before) -/
def lw_At (p : Program) (s : State) (m : MethodId) (meth : Method) (c : Code) (b L : Nat) (xs : Nat → Int32) : Prop :=
  p.tables.exec = Jvm.exec ∧ c.code = code ∧ meth.sig.returnType = ret ∧ c.maxLocals = 4 ∧ s.vm.findClass R_law = some m.cls ∧ (∀ w ∈ lw_tbl, w.before #[Value.ref b] s = true) ∧ va_X b L xs s s.heap ∧ b < s.heap.size ∧ meth.locks = false ∧ (Jvm.Cond.and given_1 narrow_1).before #[Value.ref b] s = true
end
section
theorem goodIn_q {big : List Cond} (ws : List Cond) (ps : List Nat) (hp : ws = ps.filterMap (fun i => big[i]?)) (h : ws.all goodWord = true) : GoodIn big ws := by
  intro w hw
  have h1 := List.all_eq_true.mp h w hw
  rw [hp] at hw
  obtain ⟨i, -, hi⟩ := List.mem_filterMap.mp hw
  exact ⟨List.mem_of_getElem? hi, good_of_word h1⟩
theorem goodIn_pp {big a b : List Cond} (ha : GoodIn big a) (hb : GoodIn big b) : GoodIn big (a ++ b) := fun w h => (List.mem_append.mp h).elim (ha w) (hb w)
/-! NAMES, by program (wip/whole/names.py) out of the listing: classes, fields, methods -/
def RT : String := "TreeDesk"
def RB : String := "TreeDesk$Bits"
def RR : String := "TreeDesk$Retarget"
def RW : String := "TreeDesk$Worth"
def RM : String := "TreeDeskModel"
abbrev RL : String := R_law
def RJI : String := "java/lang/Integer"
def RJL : String := "java/lang/Long"
def RJA : String := "java/util/Arrays"
def TR : u_T := fun k => match k with
  | _ => ("TreeDesk$Retarget", "product", "[J", true)
def tyR : Nat → FieldType := fun k => match k with
  | _ => .array .long
abbrev uR : List Cond := u_ws RR TR 1
theorem nmR : ∀ a, a < 1 → ∀ b, b < 1 → a ≠ b → (TR a).2.1 ≠ (TR b).2.1 := by decide +kernel
theorem tyR_ok : ∀ k, k < 1 → parseFieldDescriptor (TR k).2.2.1 = some (tyR k) := by decide +kernel
def TW : u_T := fun k => match k with
  | 0 => ("TreeDesk$Worth", "divisor", "[J", true)
  | 1 => ("TreeDesk$Worth", "rest", "[J", true)
  | 2 => ("TreeDesk$Worth", "quotient", "[J", true)
  | _ => ("TreeDesk$Worth", "known", "J", false)
def tyW : Nat → FieldType := fun k => match k with
  | 0 => .array .long
  | 1 => .array .long
  | 2 => .array .long
  | _ => .long
abbrev uW : List Cond := u_ws RW TW 4
theorem nmW : ∀ a, a < 4 → ∀ b, b < 4 → a ≠ b → (TW a).2.1 ≠ (TW b).2.1 := by decide +kernel
theorem tyW_ok : ∀ k, k < 4 → parseFieldDescriptor (TW k).2.2.1 = some (tyW k) := by decide +kernel
def TT : u_T := fun k => match k with
  | 0 => ("TreeDesk", "room", "I", true)
  | 1 => ("TreeDesk", "count", "I", false)
  | 2 => ("TreeDesk", "best", "I", false)
  | 3 => ("TreeDesk", "parents", "[I", true)
  | 4 => ("TreeDesk", "heights", "[I", true)
  | 5 => ("TreeDesk", "children", "[I", true)
  | 6 => ("TreeDesk", "times", "[J", true)
  | 7 => ("TreeDesk", "bitsOf", "[J", true)
  | 8 => ("TreeDesk", "bad", "[Z", true)
  | 9 => ("TreeDesk", "works", "[J", true)
  | 10 => ("TreeDesk", "ranked", "[J", true)
  | 11 => ("TreeDesk", "retarget", "LTreeDesk$Retarget;", true)
  | _ => ("TreeDesk", "worth", "LTreeDesk$Worth;", true)
def tyT : Nat → FieldType := fun k => match k with
  | 0 => .int
  | 1 => .int
  | 2 => .int
  | 3 => .array .int
  | 4 => .array .int
  | 5 => .array .int
  | 6 => .array .long
  | 7 => .array .long
  | 8 => .array .boolean
  | 9 => .array .long
  | 10 => .array .long
  | 11 => .object "TreeDesk$Retarget"
  | _ => .object "TreeDesk$Worth"
abbrev uT : List Cond := u_ws RT TT 13
theorem nmT : ∀ a, a < 13 → ∀ b, b < 13 → a ≠ b → (TT a).2.1 ≠ (TT b).2.1 := by decide +kernel
theorem tyT_ok : ∀ k, k < 13 → parseFieldDescriptor (TT k).2.2.1 = some (tyT k) := by decide +kernel
def TM : u_T := fun k => match k with
  | 0 => ("TreeDeskModel", "most", "I", true)
  | 1 => ("TreeDeskModel", "many", "I", false)
  | 2 => ("TreeDeskModel", "parent", "[I", true)
  | 3 => ("TreeDeskModel", "height", "[I", true)
  | 4 => ("TreeDeskModel", "time", "[J", true)
  | 5 => ("TreeDeskModel", "bits", "[J", true)
  | 6 => ("TreeDeskModel", "bad", "[Z", true)
  | 7 => ("TreeDeskModel", "sums", "[I", true)
  | 8 => ("TreeDeskModel", "a", "[I", true)
  | 9 => ("TreeDeskModel", "b", "[I", true)
  | 10 => ("TreeDeskModel", "c", "[I", true)
  | _ => ("TreeDeskModel", "times", "[J", true)
def tyM : Nat → FieldType := fun k => match k with
  | 0 => .int
  | 1 => .int
  | 2 => .array .int
  | 3 => .array .int
  | 4 => .array .long
  | 5 => .array .long
  | 6 => .array .boolean
  | 7 => .array .int
  | 8 => .array .int
  | 9 => .array .int
  | 10 => .array .int
  | _ => .array .long
abbrev uM : List Cond := u_ws RM TM 12
theorem nmM : ∀ a, a < 12 → ∀ b, b < 12 → a ≠ b → (TM a).2.1 ≠ (TM b).2.1 := by decide +kernel
theorem tyM_ok : ∀ k, k < 12 → parseFieldDescriptor (TM k).2.2.1 = some (tyM k) := by decide +kernel
abbrev vwCl : List vw_C := [(RR, TR, 1), (RW, TW, 4), (RT, TT, 13), (RM, TM, 12)]
abbrev cT_init : ByteArray := prog_1_method_1_code
def yT_init : MethodName := ⟨RT, "<init>", "(II)V"⟩
abbrev cT_add : ByteArray := prog_1_method_2_code
def yT_add : MethodName := ⟨RT, "add", "(IJJ)I"⟩
abbrev cT_spoil : ByteArray := prog_1_method_3_code
def yT_spoil : MethodName := ⟨RT, "spoil", "(I)I"⟩
abbrev cT_must : ByteArray := prog_1_method_4_code
def yT_must : MethodName := ⟨RT, "must", "(I)J"⟩
abbrev cT_median : ByteArray := prog_1_method_5_code
def yT_median : MethodName := ⟨RT, "median", "(I)J"⟩
abbrev cT_look : ByteArray := prog_1_method_6_code
def yT_look : MethodName := ⟨RT, "look", "(II)J"⟩
abbrev cT_work : ByteArray := prog_1_method_7_code
def yT_work : MethodName := ⟨RT, "work", "(II)J"⟩
abbrev cT_compare : ByteArray := prog_1_method_8_code
def yT_compare : MethodName := ⟨RT, "compare", "(II)I"⟩
abbrev cT_tip : ByteArray := prog_1_method_9_code
def yT_tip : MethodName := ⟨RT, "tip", "()I"⟩
abbrev cT_size : ByteArray := prog_1_method_10_code
def yT_size : MethodName := ⟨RT, "size", "()I"⟩
abbrev cT_below : ByteArray := prog_1_method_11_code
def yT_below : MethodName := ⟨RT, "below", "(II)I"⟩
abbrev cT_fork : ByteArray := prog_1_method_12_code
def yT_fork : MethodName := ⟨RT, "fork", "(II)I"⟩
abbrev cT_row : ByteArray := prog_1_method_13_code
def yT_row : MethodName := ⟨RT, "row", "(II)I"⟩
abbrev cT_fault : ByteArray := prog_1_method_14_code
def yT_fault : MethodName := ⟨RT, "fault", "(J)I"⟩
abbrev cT_target : ByteArray := prog_1_method_15_code
def yT_target : MethodName := ⟨RT, "target", "(JI)J"⟩
abbrev cT_compact : ByteArray := prog_1_method_16_code
def yT_compact : MethodName := ⟨RT, "compact", "(JJJJ)J"⟩
abbrev cT_isBlock : ByteArray := prog_1_method_17_code
def yT_isBlock : MethodName := ⟨RT, "isBlock", "(I)Z"⟩
abbrev cT_append : ByteArray := prog_1_method_18_code
def yT_append : MethodName := ⟨RT, "append", "(IJJ)I"⟩
abbrev cT_sumWork : ByteArray := prog_1_method_19_code
def yT_sumWork : MethodName := ⟨RT, "sumWork", "(II[J)V"⟩
abbrev cT_compareWorks : ByteArray := prog_1_method_20_code
def yT_compareWorks : MethodName := ⟨RT, "compareWorks", "(II)I"⟩
abbrev cT_spoilBehind : ByteArray := prog_1_method_21_code
def yT_spoilBehind : MethodName := ⟨RT, "spoilBehind", "(I)I"⟩
abbrev cT_findBest : ByteArray := prog_1_method_22_code
def yT_findBest : MethodName := ⟨RT, "findBest", "()I"⟩
abbrev cT_ancestor : ByteArray := prog_1_method_23_code
def yT_ancestor : MethodName := ⟨RT, "ancestor", "(II)I"⟩
abbrev cT_rank : ByteArray := prog_1_method_24_code
def yT_rank : MethodName := ⟨RT, "rank", "(JI)V"⟩
abbrev cM_init : ByteArray := prog_6_method_1_code
def yM_init : MethodName := ⟨RM, "<init>", "(II)V"⟩
abbrev cM_join : ByteArray := prog_6_method_2_code
def yM_join : MethodName := ⟨RM, "join", "(IJJ)V"⟩
abbrev cM_nothing : ByteArray := prog_6_method_3_code
def yM_nothing : MethodName := ⟨RM, "nothing", "([I)V"⟩
abbrev cM_compareRows : ByteArray := prog_6_method_4_code
def yM_compareRows : MethodName := ⟨RM, "compareRows", "([I[I)I"⟩
abbrev cM_bytes : ByteArray := prog_6_method_5_code
def yM_bytes : MethodName := ⟨RM, "bytes", "([I)I"⟩
abbrev cM_open : ByteArray := prog_6_method_6_code
def yM_open : MethodName := ⟨RM, "open", "(J[I)V"⟩
abbrev cM_quotient : ByteArray := prog_6_method_7_code
def yM_quotient : MethodName := ⟨RM, "quotient", "()V"⟩
abbrev cM_scale : ByteArray := prog_6_method_8_code
def yM_scale : MethodName := ⟨RM, "scale", "(JJ)V"⟩
abbrev cM_compactOf : ByteArray := prog_6_method_9_code
def yM_compactOf : MethodName := ⟨RM, "compactOf", "([I)J"⟩
abbrev cM_isBits : ByteArray := prog_6_method_10_code
def yM_isBits : MethodName := ⟨RM, "isBits", "(J)Z"⟩
abbrev cM_fault : ByteArray := prog_6_method_11_code
def yM_fault : MethodName := ⟨RM, "fault", "(J)I"⟩
abbrev cM_longOf : ByteArray := prog_6_method_12_code
def yM_longOf : MethodName := ⟨RM, "longOf", "([III)J"⟩
abbrev cM_target : ByteArray := prog_6_method_13_code
def yM_target : MethodName := ⟨RM, "target", "(JI)J"⟩
abbrev cM_compact : ByteArray := prog_6_method_14_code
def yM_compact : MethodName := ⟨RM, "compact", "(JJJJ)J"⟩
abbrev cM_isBlock : ByteArray := prog_6_method_15_code
def yM_isBlock : MethodName := ⟨RM, "isBlock", "(I)Z"⟩
abbrev cM_below : ByteArray := prog_6_method_16_code
def yM_below : MethodName := ⟨RM, "below", "(II)I"⟩
abbrev cM_must : ByteArray := prog_6_method_17_code
def yM_must : MethodName := ⟨RM, "must", "(I)J"⟩
abbrev cM_median : ByteArray := prog_6_method_18_code
def yM_median : MethodName := ⟨RM, "median", "(I)J"⟩
abbrev cM_add : ByteArray := prog_6_method_19_code
def yM_add : MethodName := ⟨RM, "add", "(IJJ)I"⟩
abbrev cM_spoil : ByteArray := prog_6_method_20_code
def yM_spoil : MethodName := ⟨RM, "spoil", "(I)I"⟩
abbrev cM_look : ByteArray := prog_6_method_21_code
def yM_look : MethodName := ⟨RM, "look", "(II)J"⟩
abbrev cM_work : ByteArray := prog_6_method_22_code
def yM_work : MethodName := ⟨RM, "work", "(II)J"⟩
abbrev cM_compare : ByteArray := prog_6_method_23_code
def yM_compare : MethodName := ⟨RM, "compare", "(II)I"⟩
abbrev cM_tip : ByteArray := prog_6_method_24_code
def yM_tip : MethodName := ⟨RM, "tip", "()I"⟩
abbrev cM_size : ByteArray := prog_6_method_25_code
def yM_size : MethodName := ⟨RM, "size", "()I"⟩
abbrev cM_fork : ByteArray := prog_6_method_26_code
def yM_fork : MethodName := ⟨RM, "fork", "(II)I"⟩
abbrev cM_row : ByteArray := prog_6_method_27_code
def yM_row : MethodName := ⟨RM, "row", "(II)I"⟩
abbrev cB_faultOf : ByteArray := prog_2_method_2_code
def yB_faultOf : MethodName := ⟨RB, "faultOf", "(J)I"⟩
abbrev cB_targetPart : ByteArray := prog_2_method_3_code
def yB_targetPart : MethodName := ⟨RB, "targetPart", "(JI)J"⟩
abbrev cB_targetHalf : ByteArray := prog_2_method_4_code
def yB_targetHalf : MethodName := ⟨RB, "targetHalf", "(JI)J"⟩
abbrev cB_join : ByteArray := prog_2_method_5_code
def yB_join : MethodName := ⟨RB, "join", "(JJ)J"⟩
abbrev cB_lengthOf : ByteArray := prog_2_method_6_code
def yB_lengthOf : MethodName := ⟨RB, "lengthOf", "(J)I"⟩
abbrev cB_shorten : ByteArray := prog_2_method_7_code
def yB_shorten : MethodName := ⟨RB, "shorten", "(JJJJ)J"⟩
abbrev cB_shiftOf : ByteArray := prog_2_method_8_code
def yB_shiftOf : MethodName := ⟨RB, "shiftOf", "(J)I"⟩
abbrev cB_byteAt : ByteArray := prog_2_method_9_code
def yB_byteAt : MethodName := ⟨RB, "byteAt", "(JJJJI)J"⟩
abbrev cR_init : ByteArray := prog_3_method_1_code
def yR_init : MethodName := ⟨RR, "<init>", "()V"⟩
abbrev cR_next : ByteArray := prog_3_method_2_code
def yR_next : MethodName := ⟨RR, "next", "(JJ)J"⟩
abbrev cR_multiply : ByteArray := prog_3_method_3_code
def yR_multiply : MethodName := ⟨RR, "multiply", "(JJ)V"⟩
abbrev cR_divide : ByteArray := prog_3_method_4_code
def yR_divide : MethodName := ⟨RR, "divide", "()V"⟩
abbrev cW_init : ByteArray := prog_4_method_1_code
def yW_init : MethodName := ⟨RW, "<init>", "()V"⟩
abbrev cW_ofBits : ByteArray := prog_4_method_2_code
def yW_ofBits : MethodName := ⟨RW, "ofBits", "(J)[J"⟩
abbrev cW_setDivisor : ByteArray := prog_4_method_3_code
def yW_setDivisor : MethodName := ⟨RW, "setDivisor", "(J)V"⟩
abbrev cW_divide : ByteArray := prog_4_method_4_code
def yW_divide : MethodName := ⟨RW, "divide", "()V"⟩
abbrev cW_divisorLength : ByteArray := prog_4_method_5_code
def yW_divisorLength : MethodName := ⟨RW, "divisorLength", "()I"⟩
abbrev cW_twice : ByteArray := prog_4_method_6_code
def yW_twice : MethodName := ⟨RW, "twice", "([JJ)V"⟩
abbrev cW_restHoldsDivisor : ByteArray := prog_4_method_7_code
def yW_restHoldsDivisor : MethodName := ⟨RW, "restHoldsDivisor", "()Z"⟩
abbrev cW_subtractDivisor : ByteArray := prog_4_method_8_code
def yW_subtractDivisor : MethodName := ⟨RW, "subtractDivisor", "()V"⟩
abbrev cL_cell : ByteArray := method_2_code
def yL_cell : MethodName := ⟨RL, "cell", "([II)I"⟩
abbrev cL_law : ByteArray := code
def yL_law : MethodName := ⟨RL, "law", "([I)Z"⟩
abbrev cJI_numberOfLeadingZeros : ByteArray := prog_7_method_47_code
def yJI_numberOfLeadingZeros : MethodName := ⟨RJI, "numberOfLeadingZeros", "(I)I"⟩
abbrev cJL_numberOfLeadingZeros : ByteArray := prog_8_method_48_code
def yJL_numberOfLeadingZeros : MethodName := ⟨RJL, "numberOfLeadingZeros", "(J)I"⟩
abbrev cJA_fill : ByteArray := prog_11_method_101_code
def yJA_fill : MethodName := ⟨RJA, "fill", "([JJ)V"⟩
def wR_init : List Cond := .code yR_init cR_init 1 none :: ([.methodLink RR 1 objectInit, .instanceMethod objectInit, .code objectInit ⟨#[0xb1]⟩ 1 none, .arrayClass .long, .fieldLink RR 9 "TreeDesk$Retarget" "product" "[J"] ++ uR)
def wW_init : List Cond := .code yW_init cW_init 1 none :: ([.methodLink RW 1 objectInit, .instanceMethod objectInit, .code objectInit ⟨#[0xb1]⟩ 1 none, .arrayClass .long, .fieldLink RW 9 "TreeDesk$Worth" "divisor" "[J", .fieldLink RW 15 "TreeDesk$Worth" "rest" "[J", .fieldLink RW 18 "TreeDesk$Worth" "quotient" "[J", .constantLong RW 21 (-1), .fieldLink RW 23 "TreeDesk$Worth" "known" "J"] ++ uW)
def wB_shiftOf : List Cond := .code yB_shiftOf cB_shiftOf 2 (some .int) :: ([])
def wB_targetPart : List Cond := .code yB_targetPart cB_targetPart 6 (some .long) :: ([.constantLong RB 11 8388607, .methodLink RB 15 yB_shiftOf, .static yB_shiftOf, .initialized RB, .code yB_shiftOf cB_shiftOf 2 (some .int)])
def wB_targetHalf : List Cond := .code yB_targetHalf cB_targetHalf 5 (some .long) :: ([.methodLink RB 22 yB_targetPart, .static yB_targetPart, .initialized RB, .constantLong RB 9 4294967295, .code yB_targetPart cB_targetPart 6 (some .long), .constantLong RB 11 8388607, .methodLink RB 15 yB_shiftOf, .static yB_shiftOf, .code yB_shiftOf cB_shiftOf 2 (some .int)])
def wW_setDivisor : List Cond := .code yW_setDivisor cW_setDivisor 8 none :: ([.methodLink RW 34 yB_targetHalf, .static yB_targetHalf, .initialized RB, .fieldLink RW 9 "TreeDesk$Worth" "divisor" "[J", .constantLong RW 38 4294967295, .code yB_targetHalf cB_targetHalf 5 (some .long), .methodLink RB 22 yB_targetPart, .static yB_targetPart, .constantLong RB 9 4294967295, .code yB_targetPart cB_targetPart 6 (some .long), .constantLong RB 11 8388607, .methodLink RB 15 yB_shiftOf, .static yB_shiftOf, .code yB_shiftOf cB_shiftOf 2 (some .int)] ++ uW)
def wJA_fill : List Cond := .code yJA_fill cJA_fill 5 none :: ([])
def wJI_numberOfLeadingZeros : List Cond := .code yJI_numberOfLeadingZeros cJI_numberOfLeadingZeros 2 (some .int) :: ([.constant RJI 264 65536])
def wJL_numberOfLeadingZeros : List Cond := .code yJL_numberOfLeadingZeros cJL_numberOfLeadingZeros 3 (some .int) :: ([.methodLink RJL 308 yJI_numberOfLeadingZeros, .static yJI_numberOfLeadingZeros, .initialized RJI, .code yJI_numberOfLeadingZeros cJI_numberOfLeadingZeros 2 (some .int), .constant RJI 264 65536])
def wB_lengthOf : List Cond := .code yB_lengthOf cB_lengthOf 2 (some .int) :: ([.methodLink RB 28 yJL_numberOfLeadingZeros, .static yJL_numberOfLeadingZeros, .initialized RJL, .code yJL_numberOfLeadingZeros cJL_numberOfLeadingZeros 3 (some .int), .methodLink RJL 308 yJI_numberOfLeadingZeros, .static yJI_numberOfLeadingZeros, .initialized RJI, .code yJI_numberOfLeadingZeros cJI_numberOfLeadingZeros 2 (some .int), .constant RJI 264 65536])
def wW_divisorLength : List Cond := .code yW_divisorLength cW_divisorLength 2 (some .int) :: ([.fieldLink RW 9 "TreeDesk$Worth" "divisor" "[J", .methodLink RW 66 yB_lengthOf, .static yB_lengthOf, .initialized RB, .code yB_lengthOf cB_lengthOf 2 (some .int), .methodLink RB 28 yJL_numberOfLeadingZeros, .static yJL_numberOfLeadingZeros, .initialized RJL, .code yJL_numberOfLeadingZeros cJL_numberOfLeadingZeros 3 (some .int), .methodLink RJL 308 yJI_numberOfLeadingZeros, .static yJI_numberOfLeadingZeros, .initialized RJI, .code yJI_numberOfLeadingZeros cJI_numberOfLeadingZeros 2 (some .int), .constant RJI 264 65536] ++ uW)
def wW_twice : List Cond := .code yW_twice cW_twice 8 none :: ([.constantLong RW 38 4294967295])
def wW_restHoldsDivisor : List Cond := .code yW_restHoldsDivisor cW_restHoldsDivisor 2 (some .boolean) :: ([.fieldLink RW 15 "TreeDesk$Worth" "rest" "[J", .fieldLink RW 9 "TreeDesk$Worth" "divisor" "[J"] ++ uW)
def wW_subtractDivisor : List Cond := .code yW_subtractDivisor cW_subtractDivisor 6 none :: ([.fieldLink RW 15 "TreeDesk$Worth" "rest" "[J", .fieldLink RW 9 "TreeDesk$Worth" "divisor" "[J", .constantLong RW 38 4294967295] ++ uW)
def wW_divide_r1 : List Cond := [Cond.fieldLink RW 15 "TreeDesk$Worth" "rest" "[J", Cond.methodLink RW 40 yJA_fill, Cond.static yJA_fill, Cond.initialized RJA, Cond.fieldLink RW 18 "TreeDesk$Worth" "quotient" "[J", Cond.methodLink RW 46 yW_divisorLength, Cond.instanceMethod yW_divisorLength, Cond.selects RW yW_divisorLength yW_divisorLength, Cond.initialized RW, Cond.methodLink RW 50 Lib.Math.max.name, Cond.static Lib.Math.max.name, Cond.initialized "java/lang/Math", Cond.code Lib.Math.max.name Lib.Math.max.code 2 (some .int), Cond.methodLink RW 56 yW_twice, Cond.static yW_twice, Cond.methodLink RW 59 yW_restHoldsDivisor, Cond.instanceMethod yW_restHoldsDivisor, Cond.selects RW yW_restHoldsDivisor yW_restHoldsDivisor, Cond.methodLink RW 63 yW_subtractDivisor, Cond.instanceMethod yW_subtractDivisor, Cond.selects RW yW_subtractDivisor yW_subtractDivisor, Cond.code yJA_fill cJA_fill 5 none, Cond.code yW_divisorLength cW_divisorLength 2 (some .int), Cond.fieldLink RW 9 "TreeDesk$Worth" "divisor" "[J"]
def wW_divide_r2 : List Cond := [Cond.methodLink RW 66 yB_lengthOf, Cond.static yB_lengthOf, Cond.initialized RB, Cond.code yB_lengthOf cB_lengthOf 2 (some .int), Cond.methodLink RB 28 yJL_numberOfLeadingZeros, Cond.static yJL_numberOfLeadingZeros, Cond.initialized RJL, Cond.code yJL_numberOfLeadingZeros cJL_numberOfLeadingZeros 3 (some .int), Cond.methodLink RJL 308 yJI_numberOfLeadingZeros, Cond.static yJI_numberOfLeadingZeros, Cond.initialized RJI, Cond.code yJI_numberOfLeadingZeros cJI_numberOfLeadingZeros 2 (some .int), Cond.constant RJI 264 65536, Cond.code yW_twice cW_twice 8 none, Cond.constantLong RW 38 4294967295, Cond.code yW_restHoldsDivisor cW_restHoldsDivisor 2 (some .boolean), Cond.code yW_subtractDivisor cW_subtractDivisor 6 none]
def wW_divide : List Cond := .code yW_divide cW_divide 4 none :: ((wW_divide_r1 ++ wW_divide_r2) ++ uW)
def wW_ofBits_r1 : List Cond := [Cond.fieldLink RW 23 "TreeDesk$Worth" "known" "J", Cond.methodLink RW 27 yW_setDivisor, Cond.instanceMethod yW_setDivisor, Cond.selects RW yW_setDivisor yW_setDivisor, Cond.initialized RW, Cond.methodLink RW 31 yW_divide, Cond.instanceMethod yW_divide, Cond.selects RW yW_divide yW_divide, Cond.fieldLink RW 18 "TreeDesk$Worth" "quotient" "[J", Cond.code yW_setDivisor cW_setDivisor 8 none, Cond.methodLink RW 34 yB_targetHalf, Cond.static yB_targetHalf, Cond.initialized RB, Cond.fieldLink RW 9 "TreeDesk$Worth" "divisor" "[J", Cond.constantLong RW 38 4294967295, Cond.code yB_targetHalf cB_targetHalf 5 (some .long), Cond.methodLink RB 22 yB_targetPart, Cond.static yB_targetPart, Cond.constantLong RB 9 4294967295, Cond.code yB_targetPart cB_targetPart 6 (some .long), Cond.constantLong RB 11 8388607, Cond.methodLink RB 15 yB_shiftOf, Cond.static yB_shiftOf, Cond.code yB_shiftOf cB_shiftOf 2 (some .int)]
def wW_ofBits_r2 : List Cond := [Cond.code yW_divide cW_divide 4 none, Cond.fieldLink RW 15 "TreeDesk$Worth" "rest" "[J", Cond.methodLink RW 40 yJA_fill, Cond.static yJA_fill, Cond.initialized RJA, Cond.methodLink RW 46 yW_divisorLength, Cond.instanceMethod yW_divisorLength, Cond.selects RW yW_divisorLength yW_divisorLength, Cond.methodLink RW 50 Lib.Math.max.name, Cond.static Lib.Math.max.name, Cond.initialized "java/lang/Math", Cond.code Lib.Math.max.name Lib.Math.max.code 2 (some .int), Cond.methodLink RW 56 yW_twice, Cond.static yW_twice, Cond.methodLink RW 59 yW_restHoldsDivisor, Cond.instanceMethod yW_restHoldsDivisor, Cond.selects RW yW_restHoldsDivisor yW_restHoldsDivisor, Cond.methodLink RW 63 yW_subtractDivisor, Cond.instanceMethod yW_subtractDivisor, Cond.selects RW yW_subtractDivisor yW_subtractDivisor, Cond.code yJA_fill cJA_fill 5 none, Cond.code yW_divisorLength cW_divisorLength 2 (some .int), Cond.methodLink RW 66 yB_lengthOf, Cond.static yB_lengthOf]
def wW_ofBits_r3 : List Cond := [Cond.code yB_lengthOf cB_lengthOf 2 (some .int), Cond.methodLink RB 28 yJL_numberOfLeadingZeros, Cond.static yJL_numberOfLeadingZeros, Cond.initialized RJL, Cond.code yJL_numberOfLeadingZeros cJL_numberOfLeadingZeros 3 (some .int), Cond.methodLink RJL 308 yJI_numberOfLeadingZeros, Cond.static yJI_numberOfLeadingZeros, Cond.initialized RJI, Cond.code yJI_numberOfLeadingZeros cJI_numberOfLeadingZeros 2 (some .int), Cond.constant RJI 264 65536, Cond.code yW_twice cW_twice 8 none, Cond.code yW_restHoldsDivisor cW_restHoldsDivisor 2 (some .boolean), Cond.code yW_subtractDivisor cW_subtractDivisor 6 none]
def wW_ofBits : List Cond := .code yW_ofBits cW_ofBits 3 (some (.array .long)) :: ((wW_ofBits_r1 ++ (wW_ofBits_r2 ++ wW_ofBits_r3)) ++ uW)
def wT_init_r1 : List Cond := [Cond.methodLink RT 1 objectInit, Cond.instanceMethod objectInit, Cond.code objectInit ⟨#[0xb1]⟩ 1 none, Cond.fieldLink RT 9 "TreeDesk" "room" "I", Cond.arrayClass .int, Cond.fieldLink RT 13 "TreeDesk" "parents" "[I", Cond.fieldLink RT 17 "TreeDesk" "heights" "[I", Cond.fieldLink RT 20 "TreeDesk" "children" "[I", Cond.arrayClass .long, Cond.fieldLink RT 23 "TreeDesk" "times" "[J", Cond.fieldLink RT 27 "TreeDesk" "bitsOf" "[J", Cond.arrayClass .boolean, Cond.fieldLink RT 30 "TreeDesk" "bad" "[Z", Cond.fieldLink RT 36 "TreeDesk" "works" "[J", Cond.fieldLink RT 39 "TreeDesk" "ranked" "[J", Cond.classLink RT 42 RR, Cond.instantiable RR 1, Cond.initialized RR, Cond.instanceMethod yR_init, Cond.fieldLink RT 45 "TreeDesk" "retarget" "LTreeDesk$Retarget;", Cond.classLink RT 49 RW, Cond.instantiable RW 4, Cond.initialized RW, Cond.instanceMethod yW_init]
def wT_init_r2 : List Cond := [Cond.fieldLink RT 52 "TreeDesk" "worth" "LTreeDesk$Worth;", Cond.constantLong RT 56 4294967295, Cond.constantLong RT 58 545259519, Cond.methodLink RT 60 yW_ofBits, Cond.instanceMethod yW_ofBits, Cond.selects RW yW_ofBits yW_ofBits, Cond.methodLink RT 64 arraycopyName, Cond.native arraycopyName, Cond.static arraycopyName, Cond.initialized "java/lang/System", Cond.fieldLink RT 70 "TreeDesk" "count" "I", Cond.fieldLink RT 73 "TreeDesk" "best" "I", Cond.code yR_init cR_init 1 none, Cond.methodLink RR 1 objectInit, Cond.fieldLink RR 9 "TreeDesk$Retarget" "product" "[J", Cond.code yW_init cW_init 1 none, Cond.methodLink RW 1 objectInit, Cond.fieldLink RW 9 "TreeDesk$Worth" "divisor" "[J", Cond.fieldLink RW 15 "TreeDesk$Worth" "rest" "[J", Cond.fieldLink RW 18 "TreeDesk$Worth" "quotient" "[J", Cond.constantLong RW 21 (-1), Cond.fieldLink RW 23 "TreeDesk$Worth" "known" "J", Cond.code yW_ofBits cW_ofBits 3 (some (.array .long)), Cond.methodLink RW 27 yW_setDivisor]
def wT_init_r3 : List Cond := [Cond.instanceMethod yW_setDivisor, Cond.selects RW yW_setDivisor yW_setDivisor, Cond.methodLink RW 31 yW_divide, Cond.instanceMethod yW_divide, Cond.selects RW yW_divide yW_divide, Cond.code yW_setDivisor cW_setDivisor 8 none, Cond.methodLink RW 34 yB_targetHalf, Cond.static yB_targetHalf, Cond.initialized RB, Cond.constantLong RW 38 4294967295, Cond.code yB_targetHalf cB_targetHalf 5 (some .long), Cond.methodLink RB 22 yB_targetPart, Cond.static yB_targetPart, Cond.constantLong RB 9 4294967295, Cond.code yB_targetPart cB_targetPart 6 (some .long), Cond.constantLong RB 11 8388607, Cond.methodLink RB 15 yB_shiftOf, Cond.static yB_shiftOf, Cond.code yB_shiftOf cB_shiftOf 2 (some .int), Cond.code yW_divide cW_divide 4 none, Cond.methodLink RW 40 yJA_fill, Cond.static yJA_fill, Cond.initialized RJA, Cond.methodLink RW 46 yW_divisorLength]
def wT_init_r4 : List Cond := [Cond.instanceMethod yW_divisorLength, Cond.selects RW yW_divisorLength yW_divisorLength, Cond.methodLink RW 50 Lib.Math.max.name, Cond.static Lib.Math.max.name, Cond.initialized "java/lang/Math", Cond.code Lib.Math.max.name Lib.Math.max.code 2 (some .int), Cond.methodLink RW 56 yW_twice, Cond.static yW_twice, Cond.methodLink RW 59 yW_restHoldsDivisor, Cond.instanceMethod yW_restHoldsDivisor, Cond.selects RW yW_restHoldsDivisor yW_restHoldsDivisor, Cond.methodLink RW 63 yW_subtractDivisor, Cond.instanceMethod yW_subtractDivisor, Cond.selects RW yW_subtractDivisor yW_subtractDivisor, Cond.code yJA_fill cJA_fill 5 none, Cond.code yW_divisorLength cW_divisorLength 2 (some .int), Cond.methodLink RW 66 yB_lengthOf, Cond.static yB_lengthOf, Cond.code yB_lengthOf cB_lengthOf 2 (some .int), Cond.methodLink RB 28 yJL_numberOfLeadingZeros, Cond.static yJL_numberOfLeadingZeros, Cond.initialized RJL, Cond.code yJL_numberOfLeadingZeros cJL_numberOfLeadingZeros 3 (some .int), Cond.methodLink RJL 308 yJI_numberOfLeadingZeros]
def wT_init_r5 : List Cond := [Cond.static yJI_numberOfLeadingZeros, Cond.initialized RJI, Cond.code yJI_numberOfLeadingZeros cJI_numberOfLeadingZeros 2 (some .int), Cond.constant RJI 264 65536, Cond.code yW_twice cW_twice 8 none, Cond.code yW_restHoldsDivisor cW_restHoldsDivisor 2 (some .boolean), Cond.code yW_subtractDivisor cW_subtractDivisor 6 none]
def wT_init : List Cond := .code yT_init cT_init 3 none :: ((wT_init_r1 ++ (wT_init_r2 ++ (wT_init_r3 ++ (wT_init_r4 ++ wT_init_r5)))) ++ uR ++ uW ++ uT)
def wT_isBlock : List Cond := .code yT_isBlock cT_isBlock 2 (some .boolean) :: ([.fieldLink RT 70 "TreeDesk" "count" "I"] ++ uT)
def wT_ancestor : List Cond := .code yT_ancestor cT_ancestor 5 (some .int) :: ([.fieldLink RT 17 "TreeDesk" "heights" "[I", .fieldLink RT 13 "TreeDesk" "parents" "[I"] ++ uT)
def wR_multiply : List Cond := .code yR_multiply cR_multiply 10 none :: ([.methodLink RR 46 yB_targetHalf, .static yB_targetHalf, .initialized RB, .fieldLink RR 9 "TreeDesk$Retarget" "product" "[J", .constantLong RR 50 4294967295, .code yB_targetHalf cB_targetHalf 5 (some .long), .methodLink RB 22 yB_targetPart, .static yB_targetPart, .constantLong RB 9 4294967295, .code yB_targetPart cB_targetPart 6 (some .long), .constantLong RB 11 8388607, .methodLink RB 15 yB_shiftOf, .static yB_shiftOf, .code yB_shiftOf cB_shiftOf 2 (some .int)] ++ uR)
def wB_join : List Cond := .code yB_join cB_join 4 (some .long) :: ([])
def wR_divide : List Cond := .code yR_divide cR_divide 6 none :: ([.fieldLink RR 9 "TreeDesk$Retarget" "product" "[J", .methodLink RR 35 yB_join, .static yB_join, .initialized RB, .constantLong RR 52 4800, .code yB_join cB_join 4 (some .long)] ++ uR)
def wB_byteAt : List Cond := .code yB_byteAt cB_byteAt 11 (some .long) :: ([.constantLong RB 37 255])
def wB_shorten : List Cond := .code yB_shorten cB_shorten 12 (some .long) :: ([.methodLink RB 33 yB_byteAt, .static yB_byteAt, .initialized RB, .constantLong RB 13 8388608, .code yB_byteAt cB_byteAt 11 (some .long), .constantLong RB 37 255])
def wR_next_r1 : List Cond := [Cond.constantLong RR 15 1200, Cond.constantLong RR 17 19200, Cond.methodLink RR 19 Lib.MathLoose.min_long.x, Cond.static Lib.MathLoose.min_long.x, Cond.initialized "java/lang/Math", Cond.code Lib.MathLoose.min_long.x Lib.MathLoose.min_long.code 4 (some .long), Cond.methodLink RR 25 Lib.MathLoose.max_long.x, Cond.static Lib.MathLoose.max_long.x, Cond.code Lib.MathLoose.max_long.x Lib.MathLoose.max_long.code 4 (some .long), Cond.methodLink RR 28 yR_multiply, Cond.instanceMethod yR_multiply, Cond.selects RR yR_multiply yR_multiply, Cond.initialized RR, Cond.methodLink RR 32 yR_divide, Cond.instanceMethod yR_divide, Cond.selects RR yR_divide yR_divide, Cond.fieldLink RR 9 "TreeDesk$Retarget" "product" "[J", Cond.methodLink RR 35 yB_join, Cond.static yB_join, Cond.initialized RB, Cond.constantLong RR 38 9223370937343148032, Cond.constantLong RR 40 545259519, Cond.methodLink RR 42 yB_shorten, Cond.static yB_shorten]
def wR_next_r2 : List Cond := [Cond.code yR_multiply cR_multiply 10 none, Cond.methodLink RR 46 yB_targetHalf, Cond.static yB_targetHalf, Cond.constantLong RR 50 4294967295, Cond.code yB_targetHalf cB_targetHalf 5 (some .long), Cond.methodLink RB 22 yB_targetPart, Cond.static yB_targetPart, Cond.constantLong RB 9 4294967295, Cond.code yB_targetPart cB_targetPart 6 (some .long), Cond.constantLong RB 11 8388607, Cond.methodLink RB 15 yB_shiftOf, Cond.static yB_shiftOf, Cond.code yB_shiftOf cB_shiftOf 2 (some .int), Cond.code yR_divide cR_divide 6 none, Cond.constantLong RR 52 4800, Cond.code yB_join cB_join 4 (some .long), Cond.code yB_shorten cB_shorten 12 (some .long), Cond.methodLink RB 33 yB_byteAt, Cond.static yB_byteAt, Cond.constantLong RB 13 8388608, Cond.code yB_byteAt cB_byteAt 11 (some .long), Cond.constantLong RB 37 255]
def wR_next : List Cond := .code yR_next cR_next 13 (some .long) :: ((wR_next_r1 ++ wR_next_r2) ++ uR)
def wT_must_r1 : List Cond := [Cond.methodLink RT 76 yT_isBlock, Cond.instanceMethod yT_isBlock, Cond.selects RT yT_isBlock yT_isBlock, Cond.initialized RT, Cond.constantLong RT 99 (-1), Cond.fieldLink RT 17 "TreeDesk" "heights" "[I", Cond.fieldLink RT 27 "TreeDesk" "bitsOf" "[J", Cond.methodLink RT 101 yT_ancestor, Cond.instanceMethod yT_ancestor, Cond.selects RT yT_ancestor yT_ancestor, Cond.fieldLink RT 45 "TreeDesk" "retarget" "LTreeDesk$Retarget;", Cond.fieldLink RT 23 "TreeDesk" "times" "[J", Cond.methodLink RT 105 yR_next, Cond.instanceMethod yR_next, Cond.selects RR yR_next yR_next, Cond.initialized RR, Cond.code yT_isBlock cT_isBlock 2 (some .boolean), Cond.fieldLink RT 70 "TreeDesk" "count" "I", Cond.code yT_ancestor cT_ancestor 5 (some .int), Cond.fieldLink RT 13 "TreeDesk" "parents" "[I", Cond.code yR_next cR_next 13 (some .long), Cond.constantLong RR 15 1200, Cond.constantLong RR 17 19200, Cond.methodLink RR 19 Lib.MathLoose.min_long.x]
def wT_must_r2 : List Cond := [Cond.static Lib.MathLoose.min_long.x, Cond.initialized "java/lang/Math", Cond.code Lib.MathLoose.min_long.x Lib.MathLoose.min_long.code 4 (some .long), Cond.methodLink RR 25 Lib.MathLoose.max_long.x, Cond.static Lib.MathLoose.max_long.x, Cond.code Lib.MathLoose.max_long.x Lib.MathLoose.max_long.code 4 (some .long), Cond.methodLink RR 28 yR_multiply, Cond.instanceMethod yR_multiply, Cond.selects RR yR_multiply yR_multiply, Cond.methodLink RR 32 yR_divide, Cond.instanceMethod yR_divide, Cond.selects RR yR_divide yR_divide, Cond.fieldLink RR 9 "TreeDesk$Retarget" "product" "[J", Cond.methodLink RR 35 yB_join, Cond.static yB_join, Cond.initialized RB, Cond.constantLong RR 38 9223370937343148032, Cond.constantLong RR 40 545259519, Cond.methodLink RR 42 yB_shorten, Cond.static yB_shorten, Cond.code yR_multiply cR_multiply 10 none, Cond.methodLink RR 46 yB_targetHalf, Cond.static yB_targetHalf, Cond.constantLong RR 50 4294967295]
def wT_must_r3 : List Cond := [Cond.code yB_targetHalf cB_targetHalf 5 (some .long), Cond.methodLink RB 22 yB_targetPart, Cond.static yB_targetPart, Cond.constantLong RB 9 4294967295, Cond.code yB_targetPart cB_targetPart 6 (some .long), Cond.constantLong RB 11 8388607, Cond.methodLink RB 15 yB_shiftOf, Cond.static yB_shiftOf, Cond.code yB_shiftOf cB_shiftOf 2 (some .int), Cond.code yR_divide cR_divide 6 none, Cond.constantLong RR 52 4800, Cond.code yB_join cB_join 4 (some .long), Cond.code yB_shorten cB_shorten 12 (some .long), Cond.methodLink RB 33 yB_byteAt, Cond.static yB_byteAt, Cond.constantLong RB 13 8388608, Cond.code yB_byteAt cB_byteAt 11 (some .long), Cond.constantLong RB 37 255]
def wT_must : List Cond := .code yT_must cT_must 4 (some .long) :: ((wT_must_r1 ++ (wT_must_r2 ++ wT_must_r3)) ++ uR ++ uT)
def wT_rank : List Cond := .code yT_rank cT_rank 5 none :: ([.fieldLink RT 39 "TreeDesk" "ranked" "[J"] ++ uT)
def wT_median : List Cond := .code yT_median cT_median 4 (some .long) :: ([.methodLink RT 76 yT_isBlock, .instanceMethod yT_isBlock, .selects RT yT_isBlock yT_isBlock, .initialized RT, .constantLong RT 99 (-1), .fieldLink RT 23 "TreeDesk" "times" "[J", .methodLink RT 109 yT_rank, .instanceMethod yT_rank, .selects RT yT_rank yT_rank, .fieldLink RT 13 "TreeDesk" "parents" "[I", .fieldLink RT 39 "TreeDesk" "ranked" "[J", .code yT_isBlock cT_isBlock 2 (some .boolean), .fieldLink RT 70 "TreeDesk" "count" "I", .code yT_rank cT_rank 5 none] ++ uT)
def wT_sumWork : List Cond := .code yT_sumWork cT_sumWork 9 none :: ([.fieldLink RT 36 "TreeDesk" "works" "[J", .constantLong RT 56 4294967295] ++ uT)
def wT_compareWorks : List Cond := .code yT_compareWorks cT_compareWorks 8 (some .int) :: ([.fieldLink RT 36 "TreeDesk" "works" "[J"] ++ uT)
def wT_append_r1 : List Cond := [Cond.fieldLink RT 70 "TreeDesk" "count" "I", Cond.fieldLink RT 13 "TreeDesk" "parents" "[I", Cond.fieldLink RT 17 "TreeDesk" "heights" "[I", Cond.fieldLink RT 23 "TreeDesk" "times" "[J", Cond.fieldLink RT 27 "TreeDesk" "bitsOf" "[J", Cond.fieldLink RT 20 "TreeDesk" "children" "[I", Cond.fieldLink RT 52 "TreeDesk" "worth" "LTreeDesk$Worth;", Cond.methodLink RT 60 yW_ofBits, Cond.instanceMethod yW_ofBits, Cond.selects RW yW_ofBits yW_ofBits, Cond.initialized RW, Cond.methodLink RT 136 yT_sumWork, Cond.instanceMethod yT_sumWork, Cond.selects RT yT_sumWork yT_sumWork, Cond.initialized RT, Cond.fieldLink RT 73 "TreeDesk" "best" "I", Cond.methodLink RT 116 yT_compareWorks, Cond.instanceMethod yT_compareWorks, Cond.selects RT yT_compareWorks yT_compareWorks, Cond.code yW_ofBits cW_ofBits 3 (some (.array .long)), Cond.fieldLink RW 23 "TreeDesk$Worth" "known" "J", Cond.methodLink RW 27 yW_setDivisor, Cond.instanceMethod yW_setDivisor, Cond.selects RW yW_setDivisor yW_setDivisor]
def wT_append_r2 : List Cond := [Cond.methodLink RW 31 yW_divide, Cond.instanceMethod yW_divide, Cond.selects RW yW_divide yW_divide, Cond.fieldLink RW 18 "TreeDesk$Worth" "quotient" "[J", Cond.code yW_setDivisor cW_setDivisor 8 none, Cond.methodLink RW 34 yB_targetHalf, Cond.static yB_targetHalf, Cond.initialized RB, Cond.fieldLink RW 9 "TreeDesk$Worth" "divisor" "[J", Cond.constantLong RW 38 4294967295, Cond.code yB_targetHalf cB_targetHalf 5 (some .long), Cond.methodLink RB 22 yB_targetPart, Cond.static yB_targetPart, Cond.constantLong RB 9 4294967295, Cond.code yB_targetPart cB_targetPart 6 (some .long), Cond.constantLong RB 11 8388607, Cond.methodLink RB 15 yB_shiftOf, Cond.static yB_shiftOf, Cond.code yB_shiftOf cB_shiftOf 2 (some .int), Cond.code yW_divide cW_divide 4 none, Cond.fieldLink RW 15 "TreeDesk$Worth" "rest" "[J", Cond.methodLink RW 40 yJA_fill, Cond.static yJA_fill, Cond.initialized RJA]
def wT_append_r3 : List Cond := [Cond.methodLink RW 46 yW_divisorLength, Cond.instanceMethod yW_divisorLength, Cond.selects RW yW_divisorLength yW_divisorLength, Cond.methodLink RW 50 Lib.Math.max.name, Cond.static Lib.Math.max.name, Cond.initialized "java/lang/Math", Cond.code Lib.Math.max.name Lib.Math.max.code 2 (some .int), Cond.methodLink RW 56 yW_twice, Cond.static yW_twice, Cond.methodLink RW 59 yW_restHoldsDivisor, Cond.instanceMethod yW_restHoldsDivisor, Cond.selects RW yW_restHoldsDivisor yW_restHoldsDivisor, Cond.methodLink RW 63 yW_subtractDivisor, Cond.instanceMethod yW_subtractDivisor, Cond.selects RW yW_subtractDivisor yW_subtractDivisor, Cond.code yJA_fill cJA_fill 5 none, Cond.code yW_divisorLength cW_divisorLength 2 (some .int), Cond.methodLink RW 66 yB_lengthOf, Cond.static yB_lengthOf, Cond.code yB_lengthOf cB_lengthOf 2 (some .int), Cond.methodLink RB 28 yJL_numberOfLeadingZeros, Cond.static yJL_numberOfLeadingZeros, Cond.initialized RJL, Cond.code yJL_numberOfLeadingZeros cJL_numberOfLeadingZeros 3 (some .int)]
def wT_append_r4 : List Cond := [Cond.methodLink RJL 308 yJI_numberOfLeadingZeros, Cond.static yJI_numberOfLeadingZeros, Cond.initialized RJI, Cond.code yJI_numberOfLeadingZeros cJI_numberOfLeadingZeros 2 (some .int), Cond.constant RJI 264 65536, Cond.code yW_twice cW_twice 8 none, Cond.code yW_restHoldsDivisor cW_restHoldsDivisor 2 (some .boolean), Cond.code yW_subtractDivisor cW_subtractDivisor 6 none, Cond.code yT_sumWork cT_sumWork 9 none, Cond.fieldLink RT 36 "TreeDesk" "works" "[J", Cond.constantLong RT 56 4294967295, Cond.code yT_compareWorks cT_compareWorks 8 (some .int)]
def wT_append : List Cond := .code yT_append cT_append 7 (some .int) :: ((wT_append_r1 ++ (wT_append_r2 ++ (wT_append_r3 ++ wT_append_r4))) ++ uW ++ uT)
def wT_add_r1 : List Cond := [Cond.methodLink RT 76 yT_isBlock, Cond.instanceMethod yT_isBlock, Cond.selects RT yT_isBlock yT_isBlock, Cond.initialized RT, Cond.fieldLink RT 30 "TreeDesk" "bad" "[Z", Cond.methodLink RT 80 yT_must, Cond.instanceMethod yT_must, Cond.selects RT yT_must yT_must, Cond.methodLink RT 84 yT_median, Cond.instanceMethod yT_median, Cond.selects RT yT_median yT_median, Cond.constantLong RT 56 4294967295, Cond.fieldLink RT 70 "TreeDesk" "count" "I", Cond.fieldLink RT 9 "TreeDesk" "room" "I", Cond.methodLink RT 87 yT_append, Cond.instanceMethod yT_append, Cond.selects RT yT_append yT_append, Cond.code yT_isBlock cT_isBlock 2 (some .boolean), Cond.code yT_must cT_must 4 (some .long), Cond.constantLong RT 99 (-1), Cond.fieldLink RT 17 "TreeDesk" "heights" "[I", Cond.fieldLink RT 27 "TreeDesk" "bitsOf" "[J", Cond.methodLink RT 101 yT_ancestor, Cond.instanceMethod yT_ancestor]
def wT_add_r2 : List Cond := [Cond.selects RT yT_ancestor yT_ancestor, Cond.fieldLink RT 45 "TreeDesk" "retarget" "LTreeDesk$Retarget;", Cond.fieldLink RT 23 "TreeDesk" "times" "[J", Cond.methodLink RT 105 yR_next, Cond.instanceMethod yR_next, Cond.selects RR yR_next yR_next, Cond.initialized RR, Cond.code yT_ancestor cT_ancestor 5 (some .int), Cond.fieldLink RT 13 "TreeDesk" "parents" "[I", Cond.code yR_next cR_next 13 (some .long), Cond.constantLong RR 15 1200, Cond.constantLong RR 17 19200, Cond.methodLink RR 19 Lib.MathLoose.min_long.x, Cond.static Lib.MathLoose.min_long.x, Cond.initialized "java/lang/Math", Cond.code Lib.MathLoose.min_long.x Lib.MathLoose.min_long.code 4 (some .long), Cond.methodLink RR 25 Lib.MathLoose.max_long.x, Cond.static Lib.MathLoose.max_long.x, Cond.code Lib.MathLoose.max_long.x Lib.MathLoose.max_long.code 4 (some .long), Cond.methodLink RR 28 yR_multiply, Cond.instanceMethod yR_multiply, Cond.selects RR yR_multiply yR_multiply, Cond.methodLink RR 32 yR_divide, Cond.instanceMethod yR_divide]
def wT_add_r3 : List Cond := [Cond.selects RR yR_divide yR_divide, Cond.fieldLink RR 9 "TreeDesk$Retarget" "product" "[J", Cond.methodLink RR 35 yB_join, Cond.static yB_join, Cond.initialized RB, Cond.constantLong RR 38 9223370937343148032, Cond.constantLong RR 40 545259519, Cond.methodLink RR 42 yB_shorten, Cond.static yB_shorten, Cond.code yR_multiply cR_multiply 10 none, Cond.methodLink RR 46 yB_targetHalf, Cond.static yB_targetHalf, Cond.constantLong RR 50 4294967295, Cond.code yB_targetHalf cB_targetHalf 5 (some .long), Cond.methodLink RB 22 yB_targetPart, Cond.static yB_targetPart, Cond.constantLong RB 9 4294967295, Cond.code yB_targetPart cB_targetPart 6 (some .long), Cond.constantLong RB 11 8388607, Cond.methodLink RB 15 yB_shiftOf, Cond.static yB_shiftOf, Cond.code yB_shiftOf cB_shiftOf 2 (some .int), Cond.code yR_divide cR_divide 6 none, Cond.constantLong RR 52 4800]
def wT_add_r4 : List Cond := [Cond.code yB_join cB_join 4 (some .long), Cond.code yB_shorten cB_shorten 12 (some .long), Cond.methodLink RB 33 yB_byteAt, Cond.static yB_byteAt, Cond.constantLong RB 13 8388608, Cond.code yB_byteAt cB_byteAt 11 (some .long), Cond.constantLong RB 37 255, Cond.code yT_median cT_median 4 (some .long), Cond.methodLink RT 109 yT_rank, Cond.instanceMethod yT_rank, Cond.selects RT yT_rank yT_rank, Cond.fieldLink RT 39 "TreeDesk" "ranked" "[J", Cond.code yT_rank cT_rank 5 none, Cond.code yT_append cT_append 7 (some .int), Cond.fieldLink RT 20 "TreeDesk" "children" "[I", Cond.fieldLink RT 52 "TreeDesk" "worth" "LTreeDesk$Worth;", Cond.methodLink RT 60 yW_ofBits, Cond.instanceMethod yW_ofBits, Cond.selects RW yW_ofBits yW_ofBits, Cond.initialized RW, Cond.methodLink RT 136 yT_sumWork, Cond.instanceMethod yT_sumWork, Cond.selects RT yT_sumWork yT_sumWork, Cond.fieldLink RT 73 "TreeDesk" "best" "I"]
def wT_add_r5 : List Cond := [Cond.methodLink RT 116 yT_compareWorks, Cond.instanceMethod yT_compareWorks, Cond.selects RT yT_compareWorks yT_compareWorks, Cond.code yW_ofBits cW_ofBits 3 (some (.array .long)), Cond.fieldLink RW 23 "TreeDesk$Worth" "known" "J", Cond.methodLink RW 27 yW_setDivisor, Cond.instanceMethod yW_setDivisor, Cond.selects RW yW_setDivisor yW_setDivisor, Cond.methodLink RW 31 yW_divide, Cond.instanceMethod yW_divide, Cond.selects RW yW_divide yW_divide, Cond.fieldLink RW 18 "TreeDesk$Worth" "quotient" "[J", Cond.code yW_setDivisor cW_setDivisor 8 none, Cond.methodLink RW 34 yB_targetHalf, Cond.fieldLink RW 9 "TreeDesk$Worth" "divisor" "[J", Cond.constantLong RW 38 4294967295, Cond.code yW_divide cW_divide 4 none, Cond.fieldLink RW 15 "TreeDesk$Worth" "rest" "[J", Cond.methodLink RW 40 yJA_fill, Cond.static yJA_fill, Cond.initialized RJA, Cond.methodLink RW 46 yW_divisorLength, Cond.instanceMethod yW_divisorLength, Cond.selects RW yW_divisorLength yW_divisorLength]
def wT_add_r6 : List Cond := [Cond.methodLink RW 50 Lib.Math.max.name, Cond.static Lib.Math.max.name, Cond.code Lib.Math.max.name Lib.Math.max.code 2 (some .int), Cond.methodLink RW 56 yW_twice, Cond.static yW_twice, Cond.methodLink RW 59 yW_restHoldsDivisor, Cond.instanceMethod yW_restHoldsDivisor, Cond.selects RW yW_restHoldsDivisor yW_restHoldsDivisor, Cond.methodLink RW 63 yW_subtractDivisor, Cond.instanceMethod yW_subtractDivisor, Cond.selects RW yW_subtractDivisor yW_subtractDivisor, Cond.code yJA_fill cJA_fill 5 none, Cond.code yW_divisorLength cW_divisorLength 2 (some .int), Cond.methodLink RW 66 yB_lengthOf, Cond.static yB_lengthOf, Cond.code yB_lengthOf cB_lengthOf 2 (some .int), Cond.methodLink RB 28 yJL_numberOfLeadingZeros, Cond.static yJL_numberOfLeadingZeros, Cond.initialized RJL, Cond.code yJL_numberOfLeadingZeros cJL_numberOfLeadingZeros 3 (some .int), Cond.methodLink RJL 308 yJI_numberOfLeadingZeros, Cond.static yJI_numberOfLeadingZeros, Cond.initialized RJI, Cond.code yJI_numberOfLeadingZeros cJI_numberOfLeadingZeros 2 (some .int)]
def wT_add_r7 : List Cond := [Cond.constant RJI 264 65536, Cond.code yW_twice cW_twice 8 none, Cond.code yW_restHoldsDivisor cW_restHoldsDivisor 2 (some .boolean), Cond.code yW_subtractDivisor cW_subtractDivisor 6 none, Cond.code yT_sumWork cT_sumWork 9 none, Cond.fieldLink RT 36 "TreeDesk" "works" "[J", Cond.code yT_compareWorks cT_compareWorks 8 (some .int)]
def wT_add : List Cond := .code yT_add cT_add 6 (some .int) :: ((wT_add_r1 ++ (wT_add_r2 ++ (wT_add_r3 ++ (wT_add_r4 ++ (wT_add_r5 ++ (wT_add_r6 ++ wT_add_r7)))))) ++ uR ++ uW ++ uT)
def wT_spoilBehind : List Cond := .code yT_spoilBehind cT_spoilBehind 4 (some .int) :: ([.fieldLink RT 70 "TreeDesk" "count" "I", .fieldLink RT 30 "TreeDesk" "bad" "[Z", .fieldLink RT 13 "TreeDesk" "parents" "[I"] ++ uT)
def wT_findBest : List Cond := .code yT_findBest cT_findBest 3 (some .int) :: ([.fieldLink RT 70 "TreeDesk" "count" "I", .fieldLink RT 30 "TreeDesk" "bad" "[Z", .methodLink RT 116 yT_compareWorks, .instanceMethod yT_compareWorks, .selects RT yT_compareWorks yT_compareWorks, .initialized RT, .code yT_compareWorks cT_compareWorks 8 (some .int), .fieldLink RT 36 "TreeDesk" "works" "[J"] ++ uT)
def wT_spoil : List Cond := .code yT_spoil cT_spoil 3 (some .int) :: ([.methodLink RT 76 yT_isBlock, .instanceMethod yT_isBlock, .selects RT yT_isBlock yT_isBlock, .initialized RT, .fieldLink RT 30 "TreeDesk" "bad" "[Z", .methodLink RT 91 yT_spoilBehind, .instanceMethod yT_spoilBehind, .selects RT yT_spoilBehind yT_spoilBehind, .fieldLink RT 73 "TreeDesk" "best" "I", .methodLink RT 95 yT_findBest, .instanceMethod yT_findBest, .selects RT yT_findBest yT_findBest, .code yT_isBlock cT_isBlock 2 (some .boolean), .fieldLink RT 70 "TreeDesk" "count" "I", .code yT_spoilBehind cT_spoilBehind 4 (some .int), .fieldLink RT 13 "TreeDesk" "parents" "[I", .code yT_findBest cT_findBest 3 (some .int), .methodLink RT 116 yT_compareWorks, .instanceMethod yT_compareWorks, .selects RT yT_compareWorks yT_compareWorks, .code yT_compareWorks cT_compareWorks 8 (some .int), .fieldLink RT 36 "TreeDesk" "works" "[J"] ++ uT)
def wT_look : List Cond := .code yT_look cT_look 3 (some .long) :: ([.methodLink RT 76 yT_isBlock, .instanceMethod yT_isBlock, .selects RT yT_isBlock yT_isBlock, .initialized RT, .constantLong RT 99 (-1), .fieldLink RT 13 "TreeDesk" "parents" "[I", .fieldLink RT 17 "TreeDesk" "heights" "[I", .fieldLink RT 23 "TreeDesk" "times" "[J", .fieldLink RT 27 "TreeDesk" "bitsOf" "[J", .fieldLink RT 30 "TreeDesk" "bad" "[Z", .fieldLink RT 20 "TreeDesk" "children" "[I", .code yT_isBlock cT_isBlock 2 (some .boolean), .fieldLink RT 70 "TreeDesk" "count" "I"] ++ uT)
def wT_work : List Cond := .code yT_work cT_work 4 (some .long) :: ([.methodLink RT 76 yT_isBlock, .instanceMethod yT_isBlock, .selects RT yT_isBlock yT_isBlock, .initialized RT, .fieldLink RT 36 "TreeDesk" "works" "[J", .methodLink RT 113 yB_join, .static yB_join, .initialized RB, .code yT_isBlock cT_isBlock 2 (some .boolean), .fieldLink RT 70 "TreeDesk" "count" "I", .code yB_join cB_join 4 (some .long)] ++ uT)
def wT_compare : List Cond := .code yT_compare cT_compare 3 (some .int) :: ([.methodLink RT 76 yT_isBlock, .instanceMethod yT_isBlock, .selects RT yT_isBlock yT_isBlock, .initialized RT, .methodLink RT 116 yT_compareWorks, .instanceMethod yT_compareWorks, .selects RT yT_compareWorks yT_compareWorks, .code yT_isBlock cT_isBlock 2 (some .boolean), .fieldLink RT 70 "TreeDesk" "count" "I", .code yT_compareWorks cT_compareWorks 8 (some .int), .fieldLink RT 36 "TreeDesk" "works" "[J"] ++ uT)
def wT_tip : List Cond := .code yT_tip cT_tip 1 (some .int) :: ([.fieldLink RT 73 "TreeDesk" "best" "I"] ++ uT)
def wT_size : List Cond := .code yT_size cT_size 1 (some .int) :: ([.fieldLink RT 70 "TreeDesk" "count" "I"] ++ uT)
def wT_below : List Cond := .code yT_below cT_below 3 (some .int) :: ([.methodLink RT 76 yT_isBlock, .instanceMethod yT_isBlock, .selects RT yT_isBlock yT_isBlock, .initialized RT, .fieldLink RT 17 "TreeDesk" "heights" "[I", .methodLink RT 101 yT_ancestor, .instanceMethod yT_ancestor, .selects RT yT_ancestor yT_ancestor, .code yT_isBlock cT_isBlock 2 (some .boolean), .fieldLink RT 70 "TreeDesk" "count" "I", .code yT_ancestor cT_ancestor 5 (some .int), .fieldLink RT 13 "TreeDesk" "parents" "[I"] ++ uT)
def wT_fork : List Cond := .code yT_fork cT_fork 6 (some .int) :: ([.methodLink RT 76 yT_isBlock, .instanceMethod yT_isBlock, .selects RT yT_isBlock yT_isBlock, .initialized RT, .fieldLink RT 70 "TreeDesk" "count" "I", .fieldLink RT 13 "TreeDesk" "parents" "[I", .code yT_isBlock cT_isBlock 2 (some .boolean)] ++ uT)
def wT_row : List Cond := .code yT_row cT_row 6 (some .int) :: ([.methodLink RT 76 yT_isBlock, .instanceMethod yT_isBlock, .selects RT yT_isBlock yT_isBlock, .initialized RT, .fieldLink RT 17 "TreeDesk" "heights" "[I", .methodLink RT 119 Lib.Math.max.name, .static Lib.Math.max.name, .initialized "java/lang/Math", .code Lib.Math.max.name Lib.Math.max.code 2 (some .int), .methodLink RT 101 yT_ancestor, .instanceMethod yT_ancestor, .selects RT yT_ancestor yT_ancestor, .code yT_isBlock cT_isBlock 2 (some .boolean), .fieldLink RT 70 "TreeDesk" "count" "I", .code yT_ancestor cT_ancestor 5 (some .int), .fieldLink RT 13 "TreeDesk" "parents" "[I"] ++ uT)
def wB_faultOf : List Cond := .code yB_faultOf cB_faultOf 7 (some .int) :: ([.constantLong RB 9 4294967295, .constantLong RB 11 8388607, .constantLong RB 13 8388608, .methodLink RB 15 yB_shiftOf, .static yB_shiftOf, .initialized RB, .methodLink RB 19 yB_lengthOf, .static yB_lengthOf, .methodLink RB 22 yB_targetPart, .static yB_targetPart, .constantLong RB 26 9223370937343148032, .code yB_shiftOf cB_shiftOf 2 (some .int), .code yB_lengthOf cB_lengthOf 2 (some .int), .methodLink RB 28 yJL_numberOfLeadingZeros, .static yJL_numberOfLeadingZeros, .initialized RJL, .code yJL_numberOfLeadingZeros cJL_numberOfLeadingZeros 3 (some .int), .methodLink RJL 308 yJI_numberOfLeadingZeros, .static yJI_numberOfLeadingZeros, .initialized RJI, .code yJI_numberOfLeadingZeros cJI_numberOfLeadingZeros 2 (some .int), .constant RJI 264 65536, .code yB_targetPart cB_targetPart 6 (some .long)])
def wT_fault_r1 : List Cond := [Cond.methodLink RT 124 yB_faultOf, Cond.static yB_faultOf, Cond.initialized RB, Cond.code yB_faultOf cB_faultOf 7 (some .int), Cond.constantLong RB 9 4294967295, Cond.constantLong RB 11 8388607, Cond.constantLong RB 13 8388608, Cond.methodLink RB 15 yB_shiftOf, Cond.static yB_shiftOf, Cond.methodLink RB 19 yB_lengthOf, Cond.static yB_lengthOf, Cond.methodLink RB 22 yB_targetPart, Cond.static yB_targetPart, Cond.constantLong RB 26 9223370937343148032, Cond.code yB_shiftOf cB_shiftOf 2 (some .int), Cond.code yB_lengthOf cB_lengthOf 2 (some .int), Cond.methodLink RB 28 yJL_numberOfLeadingZeros, Cond.static yJL_numberOfLeadingZeros, Cond.initialized RJL, Cond.code yJL_numberOfLeadingZeros cJL_numberOfLeadingZeros 3 (some .int), Cond.methodLink RJL 308 yJI_numberOfLeadingZeros, Cond.static yJI_numberOfLeadingZeros, Cond.initialized RJI, Cond.code yJI_numberOfLeadingZeros cJI_numberOfLeadingZeros 2 (some .int)]
def wT_fault_r2 : List Cond := [Cond.constant RJI 264 65536, Cond.code yB_targetPart cB_targetPart 6 (some .long)]
def wT_fault : List Cond := .code yT_fault cT_fault 3 (some .int) :: ((wT_fault_r1 ++ wT_fault_r2))
def wT_target_r1 : List Cond := [Cond.methodLink RT 124 yB_faultOf, Cond.static yB_faultOf, Cond.initialized RB, Cond.methodLink RT 128 yB_targetPart, Cond.static yB_targetPart, Cond.code yB_faultOf cB_faultOf 7 (some .int), Cond.constantLong RB 9 4294967295, Cond.constantLong RB 11 8388607, Cond.constantLong RB 13 8388608, Cond.methodLink RB 15 yB_shiftOf, Cond.static yB_shiftOf, Cond.methodLink RB 19 yB_lengthOf, Cond.static yB_lengthOf, Cond.methodLink RB 22 yB_targetPart, Cond.constantLong RB 26 9223370937343148032, Cond.code yB_shiftOf cB_shiftOf 2 (some .int), Cond.code yB_lengthOf cB_lengthOf 2 (some .int), Cond.methodLink RB 28 yJL_numberOfLeadingZeros, Cond.static yJL_numberOfLeadingZeros, Cond.initialized RJL, Cond.code yJL_numberOfLeadingZeros cJL_numberOfLeadingZeros 3 (some .int), Cond.methodLink RJL 308 yJI_numberOfLeadingZeros, Cond.static yJI_numberOfLeadingZeros, Cond.initialized RJI]
def wT_target_r2 : List Cond := [Cond.code yJI_numberOfLeadingZeros cJI_numberOfLeadingZeros 2 (some .int), Cond.constant RJI 264 65536, Cond.code yB_targetPart cB_targetPart 6 (some .long)]
def wT_target : List Cond := .code yT_target cT_target 6 (some .long) :: ((wT_target_r1 ++ wT_target_r2))
def wT_compact : List Cond := .code yT_compact cT_compact 9 (some .long) :: ([.methodLink RT 132 yB_shorten, .static yB_shorten, .initialized RB, .code yB_shorten cB_shorten 12 (some .long), .methodLink RB 33 yB_byteAt, .static yB_byteAt, .constantLong RB 13 8388608, .code yB_byteAt cB_byteAt 11 (some .long), .constantLong RB 37 255])
def wM_nothing : List Cond := .code yM_nothing cM_nothing 2 none :: ([])
def wM_open : List Cond := .code yM_open cM_open 8 none :: ([.methodLink RM 64 yM_nothing, .static yM_nothing, .initialized RM, .constantLong RM 68 8388607, .constantLong RM 70 255, .code yM_nothing cM_nothing 2 none])
def wM_compareRows : List Cond := .code yM_compareRows cM_compareRows 4 (some .int) :: ([])
def wM_quotient : List Cond := .code yM_quotient cM_quotient 7 none :: ([.fieldLink RM 30 "TreeDeskModel" "a" "[I", .fieldLink RM 33 "TreeDeskModel" "b" "[I", .methodLink RM 64 yM_nothing, .static yM_nothing, .initialized RM, .fieldLink RM 36 "TreeDeskModel" "c" "[I", .methodLink RM 72 yM_compareRows, .static yM_compareRows, .code yM_nothing cM_nothing 2 none, .code yM_compareRows cM_compareRows 4 (some .int)] ++ uM)
def wM_join_r1 : List Cond := [Cond.fieldLink RM 54 "TreeDeskModel" "many" "I", Cond.fieldLink RM 7 "TreeDeskModel" "parent" "[I", Cond.fieldLink RM 13 "TreeDeskModel" "height" "[I", Cond.fieldLink RM 16 "TreeDeskModel" "time" "[J", Cond.fieldLink RM 20 "TreeDeskModel" "bits" "[J", Cond.fieldLink RM 23 "TreeDeskModel" "bad" "[Z", Cond.fieldLink RM 30 "TreeDeskModel" "a" "[I", Cond.methodLink RM 57 yM_open, Cond.static yM_open, Cond.initialized RM, Cond.methodLink RM 61 yM_quotient, Cond.instanceMethod yM_quotient, Cond.selects RM yM_quotient yM_quotient, Cond.fieldLink RM 27 "TreeDeskModel" "sums" "[I", Cond.code yM_open cM_open 8 none, Cond.methodLink RM 64 yM_nothing, Cond.static yM_nothing, Cond.constantLong RM 68 8388607, Cond.constantLong RM 70 255, Cond.code yM_nothing cM_nothing 2 none, Cond.code yM_quotient cM_quotient 7 none, Cond.fieldLink RM 33 "TreeDeskModel" "b" "[I", Cond.fieldLink RM 36 "TreeDeskModel" "c" "[I", Cond.methodLink RM 72 yM_compareRows]
def wM_join_r2 : List Cond := [Cond.static yM_compareRows, Cond.code yM_compareRows cM_compareRows 4 (some .int)]
def wM_join : List Cond := .code yM_join cM_join 10 none :: ((wM_join_r1 ++ wM_join_r2) ++ uM)
def wM_init_r1 : List Cond := [Cond.methodLink RM 1 objectInit, Cond.instanceMethod objectInit, Cond.code objectInit ⟨#[0xb1]⟩ 1 none, Cond.arrayClass .int, Cond.fieldLink RM 7 "TreeDeskModel" "parent" "[I", Cond.fieldLink RM 13 "TreeDeskModel" "height" "[I", Cond.arrayClass .long, Cond.fieldLink RM 16 "TreeDeskModel" "time" "[J", Cond.fieldLink RM 20 "TreeDeskModel" "bits" "[J", Cond.arrayClass .boolean, Cond.fieldLink RM 23 "TreeDeskModel" "bad" "[Z", Cond.fieldLink RM 27 "TreeDeskModel" "sums" "[I", Cond.fieldLink RM 30 "TreeDeskModel" "a" "[I", Cond.fieldLink RM 33 "TreeDeskModel" "b" "[I", Cond.fieldLink RM 36 "TreeDeskModel" "c" "[I", Cond.fieldLink RM 39 "TreeDeskModel" "times" "[J", Cond.fieldLink RM 42 "TreeDeskModel" "most" "I", Cond.constantLong RM 46 4294967295, Cond.constantLong RM 48 545259519, Cond.methodLink RM 50 yM_join, Cond.instanceMethod yM_join, Cond.selects RM yM_join yM_join, Cond.initialized RM, Cond.code yM_join cM_join 10 none]
def wM_init_r2 : List Cond := [Cond.fieldLink RM 54 "TreeDeskModel" "many" "I", Cond.methodLink RM 57 yM_open, Cond.static yM_open, Cond.methodLink RM 61 yM_quotient, Cond.instanceMethod yM_quotient, Cond.selects RM yM_quotient yM_quotient, Cond.code yM_open cM_open 8 none, Cond.methodLink RM 64 yM_nothing, Cond.static yM_nothing, Cond.constantLong RM 68 8388607, Cond.constantLong RM 70 255, Cond.code yM_nothing cM_nothing 2 none, Cond.code yM_quotient cM_quotient 7 none, Cond.methodLink RM 72 yM_compareRows, Cond.static yM_compareRows, Cond.code yM_compareRows cM_compareRows 4 (some .int)]
def wM_init : List Cond := .code yM_init cM_init 3 none :: ((wM_init_r1 ++ wM_init_r2) ++ uM)
def wM_bytes : List Cond := .code yM_bytes cM_bytes 3 (some .int) :: ([])
def wM_scale : List Cond := .code yM_scale cM_scale 12 none :: ([.fieldLink RM 30 "TreeDeskModel" "a" "[I", .constantLong RM 76 256] ++ uM)
def wM_compactOf : List Cond := .code yM_compactOf cM_compactOf 5 (some .long) :: ([.methodLink RM 78 yM_bytes, .static yM_bytes, .initialized RM, .constantLong RM 76 256, .constantLong RM 82 8388608, .code yM_bytes cM_bytes 3 (some .int)])
def wM_isBits : List Cond := .code yM_isBits cM_isBits 2 (some .boolean) :: ([.constantLong RM 46 4294967295])
def wM_fault : List Cond := .code yM_fault cM_fault 7 (some .int) :: ([.methodLink RM 84 yM_isBits, .static yM_isBits, .initialized RM, .constantLong RM 68 8388607, .constantLong RM 76 256, .constantLong RM 88 65536, .fieldLink RM 30 "TreeDeskModel" "a" "[I", .methodLink RM 57 yM_open, .static yM_open, .constantLong RM 48 545259519, .fieldLink RM 33 "TreeDeskModel" "b" "[I", .methodLink RM 72 yM_compareRows, .static yM_compareRows, .code yM_isBits cM_isBits 2 (some .boolean), .constantLong RM 46 4294967295, .code yM_open cM_open 8 none, .methodLink RM 64 yM_nothing, .static yM_nothing, .constantLong RM 70 255, .code yM_nothing cM_nothing 2 none, .code yM_compareRows cM_compareRows 4 (some .int)] ++ uM)
def wM_longOf : List Cond := .code yM_longOf cM_longOf 6 (some .long) :: ([])
def wM_target_r1 : List Cond := [Cond.methodLink RM 90 yM_fault, Cond.instanceMethod yM_fault, Cond.selects RM yM_fault yM_fault, Cond.initialized RM, Cond.fieldLink RM 30 "TreeDeskModel" "a" "[I", Cond.methodLink RM 57 yM_open, Cond.static yM_open, Cond.methodLink RM 94 yM_longOf, Cond.static yM_longOf, Cond.code yM_fault cM_fault 7 (some .int), Cond.methodLink RM 84 yM_isBits, Cond.static yM_isBits, Cond.constantLong RM 68 8388607, Cond.constantLong RM 76 256, Cond.constantLong RM 88 65536, Cond.constantLong RM 48 545259519, Cond.fieldLink RM 33 "TreeDeskModel" "b" "[I", Cond.methodLink RM 72 yM_compareRows, Cond.static yM_compareRows, Cond.code yM_isBits cM_isBits 2 (some .boolean), Cond.constantLong RM 46 4294967295, Cond.code yM_open cM_open 8 none, Cond.methodLink RM 64 yM_nothing, Cond.static yM_nothing]
def wM_target_r2 : List Cond := [Cond.constantLong RM 70 255, Cond.code yM_nothing cM_nothing 2 none, Cond.code yM_compareRows cM_compareRows 4 (some .int), Cond.code yM_longOf cM_longOf 6 (some .long)]
def wM_target : List Cond := .code yM_target cM_target 5 (some .long) :: ((wM_target_r1 ++ wM_target_r2) ++ uM)
def wM_compact : List Cond := .code yM_compact cM_compact 12 (some .long) :: ([.fieldLink RM 30 "TreeDeskModel" "a" "[I", .methodLink RM 64 yM_nothing, .static yM_nothing, .initialized RM, .constantLong RM 70 255, .methodLink RM 98 yM_compactOf, .static yM_compactOf, .code yM_nothing cM_nothing 2 none, .code yM_compactOf cM_compactOf 5 (some .long), .methodLink RM 78 yM_bytes, .static yM_bytes, .constantLong RM 76 256, .constantLong RM 82 8388608, .code yM_bytes cM_bytes 3 (some .int)] ++ uM)
def wM_isBlock : List Cond := .code yM_isBlock cM_isBlock 2 (some .boolean) :: ([.fieldLink RM 54 "TreeDeskModel" "many" "I"] ++ uM)
def wM_below : List Cond := .code yM_below cM_below 4 (some .int) :: ([.methodLink RM 102 yM_isBlock, .instanceMethod yM_isBlock, .selects RM yM_isBlock yM_isBlock, .initialized RM, .fieldLink RM 13 "TreeDeskModel" "height" "[I", .fieldLink RM 7 "TreeDeskModel" "parent" "[I", .code yM_isBlock cM_isBlock 2 (some .boolean), .fieldLink RM 54 "TreeDeskModel" "many" "I"] ++ uM)
def wM_must_r1 : List Cond := [Cond.methodLink RM 102 yM_isBlock, Cond.instanceMethod yM_isBlock, Cond.selects RM yM_isBlock yM_isBlock, Cond.initialized RM, Cond.constantLong RM 106 (-1), Cond.fieldLink RM 13 "TreeDeskModel" "height" "[I", Cond.fieldLink RM 20 "TreeDeskModel" "bits" "[J", Cond.fieldLink RM 16 "TreeDeskModel" "time" "[J", Cond.methodLink RM 108 yM_below, Cond.instanceMethod yM_below, Cond.selects RM yM_below yM_below, Cond.constantLong RM 112 1200, Cond.constantLong RM 114 19200, Cond.fieldLink RM 30 "TreeDeskModel" "a" "[I", Cond.methodLink RM 57 yM_open, Cond.static yM_open, Cond.constantLong RM 116 4800, Cond.methodLink RM 118 yM_scale, Cond.instanceMethod yM_scale, Cond.selects RM yM_scale yM_scale, Cond.constantLong RM 48 545259519, Cond.fieldLink RM 33 "TreeDeskModel" "b" "[I", Cond.methodLink RM 72 yM_compareRows, Cond.static yM_compareRows]
def wM_must_r2 : List Cond := [Cond.methodLink RM 98 yM_compactOf, Cond.static yM_compactOf, Cond.code yM_isBlock cM_isBlock 2 (some .boolean), Cond.fieldLink RM 54 "TreeDeskModel" "many" "I", Cond.code yM_below cM_below 4 (some .int), Cond.fieldLink RM 7 "TreeDeskModel" "parent" "[I", Cond.code yM_open cM_open 8 none, Cond.methodLink RM 64 yM_nothing, Cond.static yM_nothing, Cond.constantLong RM 68 8388607, Cond.constantLong RM 70 255, Cond.code yM_nothing cM_nothing 2 none, Cond.code yM_scale cM_scale 12 none, Cond.constantLong RM 76 256, Cond.code yM_compareRows cM_compareRows 4 (some .int), Cond.code yM_compactOf cM_compactOf 5 (some .long), Cond.methodLink RM 78 yM_bytes, Cond.static yM_bytes, Cond.constantLong RM 82 8388608, Cond.code yM_bytes cM_bytes 3 (some .int)]
def wM_must : List Cond := .code yM_must cM_must 4 (some .long) :: ((wM_must_r1 ++ wM_must_r2) ++ uM)
def wM_median : List Cond := .code yM_median cM_median 5 (some .long) :: ([.methodLink RM 102 yM_isBlock, .instanceMethod yM_isBlock, .selects RM yM_isBlock yM_isBlock, .initialized RM, .constantLong RM 106 (-1), .fieldLink RM 39 "TreeDeskModel" "times" "[J", .fieldLink RM 16 "TreeDeskModel" "time" "[J", .fieldLink RM 7 "TreeDeskModel" "parent" "[I", .code yM_isBlock cM_isBlock 2 (some .boolean), .fieldLink RM 54 "TreeDeskModel" "many" "I"] ++ uM)
def wM_add_r1 : List Cond := [Cond.methodLink RM 102 yM_isBlock, Cond.instanceMethod yM_isBlock, Cond.selects RM yM_isBlock yM_isBlock, Cond.initialized RM, Cond.fieldLink RM 23 "TreeDeskModel" "bad" "[Z", Cond.methodLink RM 122 yM_must, Cond.instanceMethod yM_must, Cond.selects RM yM_must yM_must, Cond.constantLong RM 46 4294967295, Cond.methodLink RM 126 yM_median, Cond.instanceMethod yM_median, Cond.selects RM yM_median yM_median, Cond.fieldLink RM 54 "TreeDeskModel" "many" "I", Cond.fieldLink RM 42 "TreeDeskModel" "most" "I", Cond.methodLink RM 50 yM_join, Cond.instanceMethod yM_join, Cond.selects RM yM_join yM_join, Cond.code yM_isBlock cM_isBlock 2 (some .boolean), Cond.code yM_must cM_must 4 (some .long), Cond.constantLong RM 106 (-1), Cond.fieldLink RM 13 "TreeDeskModel" "height" "[I", Cond.fieldLink RM 20 "TreeDeskModel" "bits" "[J", Cond.fieldLink RM 16 "TreeDeskModel" "time" "[J", Cond.methodLink RM 108 yM_below]
def wM_add_r2 : List Cond := [Cond.instanceMethod yM_below, Cond.selects RM yM_below yM_below, Cond.constantLong RM 112 1200, Cond.constantLong RM 114 19200, Cond.fieldLink RM 30 "TreeDeskModel" "a" "[I", Cond.methodLink RM 57 yM_open, Cond.static yM_open, Cond.constantLong RM 116 4800, Cond.methodLink RM 118 yM_scale, Cond.instanceMethod yM_scale, Cond.selects RM yM_scale yM_scale, Cond.constantLong RM 48 545259519, Cond.fieldLink RM 33 "TreeDeskModel" "b" "[I", Cond.methodLink RM 72 yM_compareRows, Cond.static yM_compareRows, Cond.methodLink RM 98 yM_compactOf, Cond.static yM_compactOf, Cond.code yM_below cM_below 4 (some .int), Cond.fieldLink RM 7 "TreeDeskModel" "parent" "[I", Cond.code yM_open cM_open 8 none, Cond.methodLink RM 64 yM_nothing, Cond.static yM_nothing, Cond.constantLong RM 68 8388607, Cond.constantLong RM 70 255]
def wM_add_r3 : List Cond := [Cond.code yM_nothing cM_nothing 2 none, Cond.code yM_scale cM_scale 12 none, Cond.constantLong RM 76 256, Cond.code yM_compareRows cM_compareRows 4 (some .int), Cond.code yM_compactOf cM_compactOf 5 (some .long), Cond.methodLink RM 78 yM_bytes, Cond.static yM_bytes, Cond.constantLong RM 82 8388608, Cond.code yM_bytes cM_bytes 3 (some .int), Cond.code yM_median cM_median 5 (some .long), Cond.fieldLink RM 39 "TreeDeskModel" "times" "[J", Cond.code yM_join cM_join 10 none, Cond.methodLink RM 61 yM_quotient, Cond.instanceMethod yM_quotient, Cond.selects RM yM_quotient yM_quotient, Cond.fieldLink RM 27 "TreeDeskModel" "sums" "[I", Cond.code yM_quotient cM_quotient 7 none, Cond.fieldLink RM 36 "TreeDeskModel" "c" "[I"]
def wM_add : List Cond := .code yM_add cM_add 6 (some .int) :: ((wM_add_r1 ++ (wM_add_r2 ++ wM_add_r3)) ++ uM)
def wM_spoil : List Cond := .code yM_spoil cM_spoil 4 (some .int) :: ([.methodLink RM 102 yM_isBlock, .instanceMethod yM_isBlock, .selects RM yM_isBlock yM_isBlock, .initialized RM, .fieldLink RM 23 "TreeDeskModel" "bad" "[Z", .fieldLink RM 54 "TreeDeskModel" "many" "I", .fieldLink RM 13 "TreeDeskModel" "height" "[I", .methodLink RM 108 yM_below, .instanceMethod yM_below, .selects RM yM_below yM_below, .code yM_isBlock cM_isBlock 2 (some .boolean), .code yM_below cM_below 4 (some .int), .fieldLink RM 7 "TreeDeskModel" "parent" "[I"] ++ uM)
def wM_look : List Cond := .code yM_look cM_look 5 (some .long) :: ([.methodLink RM 102 yM_isBlock, .instanceMethod yM_isBlock, .selects RM yM_isBlock yM_isBlock, .initialized RM, .constantLong RM 106 (-1), .fieldLink RM 54 "TreeDeskModel" "many" "I", .fieldLink RM 7 "TreeDeskModel" "parent" "[I", .fieldLink RM 13 "TreeDeskModel" "height" "[I", .fieldLink RM 16 "TreeDeskModel" "time" "[J", .fieldLink RM 20 "TreeDeskModel" "bits" "[J", .fieldLink RM 23 "TreeDeskModel" "bad" "[Z", .code yM_isBlock cM_isBlock 2 (some .boolean)] ++ uM)
def wM_work : List Cond := .code yM_work cM_work 3 (some .long) :: ([.methodLink RM 102 yM_isBlock, .instanceMethod yM_isBlock, .selects RM yM_isBlock yM_isBlock, .initialized RM, .fieldLink RM 27 "TreeDeskModel" "sums" "[I", .methodLink RM 94 yM_longOf, .static yM_longOf, .code yM_isBlock cM_isBlock 2 (some .boolean), .fieldLink RM 54 "TreeDeskModel" "many" "I", .code yM_longOf cM_longOf 6 (some .long)] ++ uM)
def wM_compare : List Cond := .code yM_compare cM_compare 7 (some .int) :: ([.methodLink RM 102 yM_isBlock, .instanceMethod yM_isBlock, .selects RM yM_isBlock yM_isBlock, .initialized RM, .fieldLink RM 27 "TreeDeskModel" "sums" "[I", .code yM_isBlock cM_isBlock 2 (some .boolean), .fieldLink RM 54 "TreeDeskModel" "many" "I"] ++ uM)
def wM_tip : List Cond := .code yM_tip cM_tip 3 (some .int) :: ([.fieldLink RM 54 "TreeDeskModel" "many" "I", .fieldLink RM 23 "TreeDeskModel" "bad" "[Z", .methodLink RM 129 yM_compare, .instanceMethod yM_compare, .selects RM yM_compare yM_compare, .initialized RM, .code yM_compare cM_compare 7 (some .int), .methodLink RM 102 yM_isBlock, .instanceMethod yM_isBlock, .selects RM yM_isBlock yM_isBlock, .fieldLink RM 27 "TreeDeskModel" "sums" "[I", .code yM_isBlock cM_isBlock 2 (some .boolean)] ++ uM)
def wM_size : List Cond := .code yM_size cM_size 1 (some .int) :: ([.fieldLink RM 54 "TreeDeskModel" "many" "I"] ++ uM)
def wM_fork : List Cond := .code yM_fork cM_fork 4 (some .int) :: ([.methodLink RM 102 yM_isBlock, .instanceMethod yM_isBlock, .selects RM yM_isBlock yM_isBlock, .initialized RM, .fieldLink RM 13 "TreeDeskModel" "height" "[I", .methodLink RM 108 yM_below, .instanceMethod yM_below, .selects RM yM_below yM_below, .fieldLink RM 7 "TreeDeskModel" "parent" "[I", .code yM_isBlock cM_isBlock 2 (some .boolean), .fieldLink RM 54 "TreeDeskModel" "many" "I", .code yM_below cM_below 4 (some .int)] ++ uM)
def wM_row : List Cond := .code yM_row cM_row 6 (some .int) :: ([.methodLink RM 102 yM_isBlock, .instanceMethod yM_isBlock, .selects RM yM_isBlock yM_isBlock, .initialized RM, .fieldLink RM 13 "TreeDeskModel" "height" "[I", .methodLink RM 108 yM_below, .instanceMethod yM_below, .selects RM yM_below yM_below, .code yM_isBlock cM_isBlock 2 (some .boolean), .fieldLink RM 54 "TreeDeskModel" "many" "I", .code yM_below cM_below 4 (some .int), .fieldLink RM 7 "TreeDeskModel" "parent" "[I"] ++ uM)
def wL_cell : List Cond := .code yL_cell cL_cell 2 (some .int) :: ([])
def wL_law_r1 : List Cond := [Cond.classLink RL 7 RT, Cond.instantiable RT 13, Cond.initialized RT, Cond.methodLink RL 9 yL_cell, Cond.static yL_cell, Cond.initialized RL, Cond.methodLink RL 15 yT_init, Cond.instanceMethod yT_init, Cond.classLink RL 18 RM, Cond.instantiable RM 12, Cond.initialized RM, Cond.methodLink RL 20 yM_init, Cond.instanceMethod yM_init, Cond.constantLong RL 21 4294967295, Cond.methodLink RL 23 yT_add, Cond.instanceMethod yT_add, Cond.selects RT yT_add yT_add, Cond.methodLink RL 27 yM_add, Cond.instanceMethod yM_add, Cond.selects RM yM_add yM_add, Cond.methodLink RL 28 yT_spoil, Cond.instanceMethod yT_spoil, Cond.selects RT yT_spoil yT_spoil, Cond.methodLink RL 32 yM_spoil]
def wL_law_r2 : List Cond := [Cond.instanceMethod yM_spoil, Cond.selects RM yM_spoil yM_spoil, Cond.methodLink RL 33 yT_must, Cond.instanceMethod yT_must, Cond.selects RT yT_must yT_must, Cond.methodLink RL 37 yM_must, Cond.instanceMethod yM_must, Cond.selects RM yM_must yM_must, Cond.methodLink RL 38 yT_median, Cond.instanceMethod yT_median, Cond.selects RT yT_median yT_median, Cond.methodLink RL 41 yM_median, Cond.instanceMethod yM_median, Cond.selects RM yM_median yM_median, Cond.methodLink RL 42 yT_look, Cond.instanceMethod yT_look, Cond.selects RT yT_look yT_look, Cond.methodLink RL 46 yM_look, Cond.instanceMethod yM_look, Cond.selects RM yM_look yM_look, Cond.methodLink RL 47 yT_work, Cond.instanceMethod yT_work, Cond.selects RT yT_work yT_work, Cond.methodLink RL 50 yM_work]
def wL_law_r3 : List Cond := [Cond.instanceMethod yM_work, Cond.selects RM yM_work yM_work, Cond.methodLink RL 51 yT_compare, Cond.instanceMethod yT_compare, Cond.selects RT yT_compare yT_compare, Cond.methodLink RL 55 yM_compare, Cond.instanceMethod yM_compare, Cond.selects RM yM_compare yM_compare, Cond.methodLink RL 56 yT_tip, Cond.instanceMethod yT_tip, Cond.selects RT yT_tip yT_tip, Cond.methodLink RL 60 yM_tip, Cond.instanceMethod yM_tip, Cond.selects RM yM_tip yM_tip, Cond.methodLink RL 61 yT_size, Cond.instanceMethod yT_size, Cond.selects RT yT_size yT_size, Cond.methodLink RL 64 yM_size, Cond.instanceMethod yM_size, Cond.selects RM yM_size yM_size, Cond.methodLink RL 65 yT_below, Cond.instanceMethod yT_below, Cond.selects RT yT_below yT_below, Cond.methodLink RL 68 yM_below]
def wL_law_r4 : List Cond := [Cond.instanceMethod yM_below, Cond.selects RM yM_below yM_below, Cond.methodLink RL 69 yT_fork, Cond.instanceMethod yT_fork, Cond.selects RT yT_fork yT_fork, Cond.methodLink RL 72 yM_fork, Cond.instanceMethod yM_fork, Cond.selects RM yM_fork yM_fork, Cond.methodLink RL 73 yT_row, Cond.instanceMethod yT_row, Cond.selects RT yT_row yT_row, Cond.methodLink RL 76 yM_row, Cond.instanceMethod yM_row, Cond.selects RM yM_row yM_row, Cond.methodLink RL 77 yT_fault, Cond.instanceMethod yT_fault, Cond.selects RT yT_fault yT_fault, Cond.methodLink RL 81 yM_fault, Cond.instanceMethod yM_fault, Cond.selects RM yM_fault yM_fault, Cond.methodLink RL 82 yT_target, Cond.instanceMethod yT_target, Cond.selects RT yT_target yT_target, Cond.methodLink RL 86 yM_target]
def wL_law_r5 : List Cond := [Cond.instanceMethod yM_target, Cond.selects RM yM_target yM_target, Cond.methodLink RL 87 yT_compact, Cond.instanceMethod yT_compact, Cond.selects RT yT_compact yT_compact, Cond.methodLink RL 91 yM_compact, Cond.instanceMethod yM_compact, Cond.selects RM yM_compact yM_compact, Cond.code yL_cell cL_cell 2 (some .int), Cond.code yT_init cT_init 3 none, Cond.methodLink RT 1 objectInit, Cond.instanceMethod objectInit, Cond.code objectInit ⟨#[0xb1]⟩ 1 none, Cond.fieldLink RT 9 "TreeDesk" "room" "I", Cond.arrayClass .int, Cond.fieldLink RT 13 "TreeDesk" "parents" "[I", Cond.fieldLink RT 17 "TreeDesk" "heights" "[I", Cond.fieldLink RT 20 "TreeDesk" "children" "[I", Cond.arrayClass .long, Cond.fieldLink RT 23 "TreeDesk" "times" "[J", Cond.fieldLink RT 27 "TreeDesk" "bitsOf" "[J", Cond.arrayClass .boolean, Cond.fieldLink RT 30 "TreeDesk" "bad" "[Z", Cond.fieldLink RT 36 "TreeDesk" "works" "[J"]
def wL_law_r6 : List Cond := [Cond.fieldLink RT 39 "TreeDesk" "ranked" "[J", Cond.classLink RT 42 RR, Cond.instantiable RR 1, Cond.initialized RR, Cond.instanceMethod yR_init, Cond.fieldLink RT 45 "TreeDesk" "retarget" "LTreeDesk$Retarget;", Cond.classLink RT 49 RW, Cond.instantiable RW 4, Cond.initialized RW, Cond.instanceMethod yW_init, Cond.fieldLink RT 52 "TreeDesk" "worth" "LTreeDesk$Worth;", Cond.constantLong RT 56 4294967295, Cond.constantLong RT 58 545259519, Cond.methodLink RT 60 yW_ofBits, Cond.instanceMethod yW_ofBits, Cond.selects RW yW_ofBits yW_ofBits, Cond.methodLink RT 64 arraycopyName, Cond.native arraycopyName, Cond.static arraycopyName, Cond.initialized "java/lang/System", Cond.fieldLink RT 70 "TreeDesk" "count" "I", Cond.fieldLink RT 73 "TreeDesk" "best" "I", Cond.code yR_init cR_init 1 none, Cond.methodLink RR 1 objectInit]
def wL_law_r7 : List Cond := [Cond.fieldLink RR 9 "TreeDesk$Retarget" "product" "[J", Cond.code yW_init cW_init 1 none, Cond.methodLink RW 1 objectInit, Cond.fieldLink RW 9 "TreeDesk$Worth" "divisor" "[J", Cond.fieldLink RW 15 "TreeDesk$Worth" "rest" "[J", Cond.fieldLink RW 18 "TreeDesk$Worth" "quotient" "[J", Cond.constantLong RW 21 (-1), Cond.fieldLink RW 23 "TreeDesk$Worth" "known" "J", Cond.code yW_ofBits cW_ofBits 3 (some (.array .long)), Cond.methodLink RW 27 yW_setDivisor, Cond.instanceMethod yW_setDivisor, Cond.selects RW yW_setDivisor yW_setDivisor, Cond.methodLink RW 31 yW_divide, Cond.instanceMethod yW_divide, Cond.selects RW yW_divide yW_divide, Cond.code yW_setDivisor cW_setDivisor 8 none, Cond.methodLink RW 34 yB_targetHalf, Cond.static yB_targetHalf, Cond.initialized RB, Cond.constantLong RW 38 4294967295, Cond.code yB_targetHalf cB_targetHalf 5 (some .long), Cond.methodLink RB 22 yB_targetPart, Cond.static yB_targetPart, Cond.constantLong RB 9 4294967295]
def wL_law_r8 : List Cond := [Cond.code yB_targetPart cB_targetPart 6 (some .long), Cond.constantLong RB 11 8388607, Cond.methodLink RB 15 yB_shiftOf, Cond.static yB_shiftOf, Cond.code yB_shiftOf cB_shiftOf 2 (some .int), Cond.code yW_divide cW_divide 4 none, Cond.methodLink RW 40 yJA_fill, Cond.static yJA_fill, Cond.initialized RJA, Cond.methodLink RW 46 yW_divisorLength, Cond.instanceMethod yW_divisorLength, Cond.selects RW yW_divisorLength yW_divisorLength, Cond.methodLink RW 50 Lib.Math.max.name, Cond.static Lib.Math.max.name, Cond.initialized "java/lang/Math", Cond.code Lib.Math.max.name Lib.Math.max.code 2 (some .int), Cond.methodLink RW 56 yW_twice, Cond.static yW_twice, Cond.methodLink RW 59 yW_restHoldsDivisor, Cond.instanceMethod yW_restHoldsDivisor, Cond.selects RW yW_restHoldsDivisor yW_restHoldsDivisor, Cond.methodLink RW 63 yW_subtractDivisor, Cond.instanceMethod yW_subtractDivisor, Cond.selects RW yW_subtractDivisor yW_subtractDivisor]
def wL_law_r9 : List Cond := [Cond.code yJA_fill cJA_fill 5 none, Cond.code yW_divisorLength cW_divisorLength 2 (some .int), Cond.methodLink RW 66 yB_lengthOf, Cond.static yB_lengthOf, Cond.code yB_lengthOf cB_lengthOf 2 (some .int), Cond.methodLink RB 28 yJL_numberOfLeadingZeros, Cond.static yJL_numberOfLeadingZeros, Cond.initialized RJL, Cond.code yJL_numberOfLeadingZeros cJL_numberOfLeadingZeros 3 (some .int), Cond.methodLink RJL 308 yJI_numberOfLeadingZeros, Cond.static yJI_numberOfLeadingZeros, Cond.initialized RJI, Cond.code yJI_numberOfLeadingZeros cJI_numberOfLeadingZeros 2 (some .int), Cond.constant RJI 264 65536, Cond.code yW_twice cW_twice 8 none, Cond.code yW_restHoldsDivisor cW_restHoldsDivisor 2 (some .boolean), Cond.code yW_subtractDivisor cW_subtractDivisor 6 none, Cond.code yM_init cM_init 3 none, Cond.methodLink RM 1 objectInit, Cond.fieldLink RM 7 "TreeDeskModel" "parent" "[I", Cond.fieldLink RM 13 "TreeDeskModel" "height" "[I", Cond.fieldLink RM 16 "TreeDeskModel" "time" "[J", Cond.fieldLink RM 20 "TreeDeskModel" "bits" "[J", Cond.fieldLink RM 23 "TreeDeskModel" "bad" "[Z"]
def wL_law_r10 : List Cond := [Cond.fieldLink RM 27 "TreeDeskModel" "sums" "[I", Cond.fieldLink RM 30 "TreeDeskModel" "a" "[I", Cond.fieldLink RM 33 "TreeDeskModel" "b" "[I", Cond.fieldLink RM 36 "TreeDeskModel" "c" "[I", Cond.fieldLink RM 39 "TreeDeskModel" "times" "[J", Cond.fieldLink RM 42 "TreeDeskModel" "most" "I", Cond.constantLong RM 46 4294967295, Cond.constantLong RM 48 545259519, Cond.methodLink RM 50 yM_join, Cond.instanceMethod yM_join, Cond.selects RM yM_join yM_join, Cond.code yM_join cM_join 10 none, Cond.fieldLink RM 54 "TreeDeskModel" "many" "I", Cond.methodLink RM 57 yM_open, Cond.static yM_open, Cond.methodLink RM 61 yM_quotient, Cond.instanceMethod yM_quotient, Cond.selects RM yM_quotient yM_quotient, Cond.code yM_open cM_open 8 none, Cond.methodLink RM 64 yM_nothing, Cond.static yM_nothing, Cond.constantLong RM 68 8388607, Cond.constantLong RM 70 255, Cond.code yM_nothing cM_nothing 2 none]
def wL_law_r11 : List Cond := [Cond.code yM_quotient cM_quotient 7 none, Cond.methodLink RM 72 yM_compareRows, Cond.static yM_compareRows, Cond.code yM_compareRows cM_compareRows 4 (some .int), Cond.code yT_add cT_add 6 (some .int), Cond.methodLink RT 76 yT_isBlock, Cond.instanceMethod yT_isBlock, Cond.selects RT yT_isBlock yT_isBlock, Cond.methodLink RT 80 yT_must, Cond.methodLink RT 84 yT_median, Cond.methodLink RT 87 yT_append, Cond.instanceMethod yT_append, Cond.selects RT yT_append yT_append, Cond.code yT_isBlock cT_isBlock 2 (some .boolean), Cond.code yT_must cT_must 4 (some .long), Cond.constantLong RT 99 (-1), Cond.methodLink RT 101 yT_ancestor, Cond.instanceMethod yT_ancestor, Cond.selects RT yT_ancestor yT_ancestor, Cond.methodLink RT 105 yR_next, Cond.instanceMethod yR_next, Cond.selects RR yR_next yR_next, Cond.code yT_ancestor cT_ancestor 5 (some .int), Cond.code yR_next cR_next 13 (some .long)]
def wL_law_r12 : List Cond := [Cond.constantLong RR 15 1200, Cond.constantLong RR 17 19200, Cond.methodLink RR 19 Lib.MathLoose.min_long.x, Cond.static Lib.MathLoose.min_long.x, Cond.code Lib.MathLoose.min_long.x Lib.MathLoose.min_long.code 4 (some .long), Cond.methodLink RR 25 Lib.MathLoose.max_long.x, Cond.static Lib.MathLoose.max_long.x, Cond.code Lib.MathLoose.max_long.x Lib.MathLoose.max_long.code 4 (some .long), Cond.methodLink RR 28 yR_multiply, Cond.instanceMethod yR_multiply, Cond.selects RR yR_multiply yR_multiply, Cond.methodLink RR 32 yR_divide, Cond.instanceMethod yR_divide, Cond.selects RR yR_divide yR_divide, Cond.methodLink RR 35 yB_join, Cond.static yB_join, Cond.constantLong RR 38 9223370937343148032, Cond.constantLong RR 40 545259519, Cond.methodLink RR 42 yB_shorten, Cond.static yB_shorten, Cond.code yR_multiply cR_multiply 10 none, Cond.methodLink RR 46 yB_targetHalf, Cond.constantLong RR 50 4294967295, Cond.code yR_divide cR_divide 6 none]
def wL_law_r13 : List Cond := [Cond.constantLong RR 52 4800, Cond.code yB_join cB_join 4 (some .long), Cond.code yB_shorten cB_shorten 12 (some .long), Cond.methodLink RB 33 yB_byteAt, Cond.static yB_byteAt, Cond.constantLong RB 13 8388608, Cond.code yB_byteAt cB_byteAt 11 (some .long), Cond.constantLong RB 37 255, Cond.code yT_median cT_median 4 (some .long), Cond.methodLink RT 109 yT_rank, Cond.instanceMethod yT_rank, Cond.selects RT yT_rank yT_rank, Cond.code yT_rank cT_rank 5 none, Cond.code yT_append cT_append 7 (some .int), Cond.methodLink RT 136 yT_sumWork, Cond.instanceMethod yT_sumWork, Cond.selects RT yT_sumWork yT_sumWork, Cond.methodLink RT 116 yT_compareWorks, Cond.instanceMethod yT_compareWorks, Cond.selects RT yT_compareWorks yT_compareWorks, Cond.code yT_sumWork cT_sumWork 9 none, Cond.code yT_compareWorks cT_compareWorks 8 (some .int), Cond.code yM_add cM_add 6 (some .int), Cond.methodLink RM 102 yM_isBlock]
def wL_law_r14 : List Cond := [Cond.instanceMethod yM_isBlock, Cond.selects RM yM_isBlock yM_isBlock, Cond.methodLink RM 122 yM_must, Cond.methodLink RM 126 yM_median, Cond.code yM_isBlock cM_isBlock 2 (some .boolean), Cond.code yM_must cM_must 4 (some .long), Cond.constantLong RM 106 (-1), Cond.methodLink RM 108 yM_below, Cond.constantLong RM 112 1200, Cond.constantLong RM 114 19200, Cond.constantLong RM 116 4800, Cond.methodLink RM 118 yM_scale, Cond.instanceMethod yM_scale, Cond.selects RM yM_scale yM_scale, Cond.methodLink RM 98 yM_compactOf, Cond.static yM_compactOf, Cond.code yM_below cM_below 4 (some .int), Cond.code yM_scale cM_scale 12 none, Cond.constantLong RM 76 256, Cond.code yM_compactOf cM_compactOf 5 (some .long), Cond.methodLink RM 78 yM_bytes, Cond.static yM_bytes, Cond.constantLong RM 82 8388608, Cond.code yM_bytes cM_bytes 3 (some .int)]
def wL_law_r15 : List Cond := [Cond.code yM_median cM_median 5 (some .long), Cond.code yT_spoil cT_spoil 3 (some .int), Cond.methodLink RT 91 yT_spoilBehind, Cond.instanceMethod yT_spoilBehind, Cond.selects RT yT_spoilBehind yT_spoilBehind, Cond.methodLink RT 95 yT_findBest, Cond.instanceMethod yT_findBest, Cond.selects RT yT_findBest yT_findBest, Cond.code yT_spoilBehind cT_spoilBehind 4 (some .int), Cond.code yT_findBest cT_findBest 3 (some .int), Cond.code yM_spoil cM_spoil 4 (some .int), Cond.code yT_look cT_look 3 (some .long), Cond.code yM_look cM_look 5 (some .long), Cond.code yT_work cT_work 4 (some .long), Cond.methodLink RT 113 yB_join, Cond.code yM_work cM_work 3 (some .long), Cond.methodLink RM 94 yM_longOf, Cond.static yM_longOf, Cond.code yM_longOf cM_longOf 6 (some .long), Cond.code yT_compare cT_compare 3 (some .int), Cond.code yM_compare cM_compare 7 (some .int), Cond.code yT_tip cT_tip 1 (some .int), Cond.code yM_tip cM_tip 3 (some .int), Cond.methodLink RM 129 yM_compare]
def wL_law_r16 : List Cond := [Cond.code yT_size cT_size 1 (some .int), Cond.code yM_size cM_size 1 (some .int), Cond.code yT_below cT_below 3 (some .int), Cond.code yT_fork cT_fork 6 (some .int), Cond.code yM_fork cM_fork 4 (some .int), Cond.code yT_row cT_row 6 (some .int), Cond.methodLink RT 119 Lib.Math.max.name, Cond.code yM_row cM_row 6 (some .int), Cond.code yT_fault cT_fault 3 (some .int), Cond.methodLink RT 124 yB_faultOf, Cond.static yB_faultOf, Cond.code yB_faultOf cB_faultOf 7 (some .int), Cond.methodLink RB 19 yB_lengthOf, Cond.constantLong RB 26 9223370937343148032, Cond.code yM_fault cM_fault 7 (some .int), Cond.methodLink RM 84 yM_isBits, Cond.static yM_isBits, Cond.constantLong RM 88 65536, Cond.code yM_isBits cM_isBits 2 (some .boolean), Cond.code yT_target cT_target 6 (some .long), Cond.methodLink RT 128 yB_targetPart, Cond.code yM_target cM_target 5 (some .long), Cond.methodLink RM 90 yM_fault, Cond.code yT_compact cT_compact 9 (some .long)]
def wL_law_r17 : List Cond := [Cond.methodLink RT 132 yB_shorten, Cond.code yM_compact cM_compact 12 (some .long)]
def wL_law : List Cond := .code yL_law cL_law 4 (some .boolean) :: ((wL_law_r1 ++ (wL_law_r2 ++ (wL_law_r3 ++ (wL_law_r4 ++ (wL_law_r5 ++ (wL_law_r6 ++ (wL_law_r7 ++ (wL_law_r8 ++ (wL_law_r9 ++ (wL_law_r10 ++ (wL_law_r11 ++ (wL_law_r12 ++ (wL_law_r13 ++ (wL_law_r14 ++ (wL_law_r15 ++ (wL_law_r16 ++ wL_law_r17)))))))))))))))) ++ uR ++ uW ++ uT ++ uM)
end
section
theorem iR_init_R : ∀ w ∈ uR, w ∈ wR_init := by decide +kernel
theorem iW_init_W : ∀ w ∈ uW, w ∈ wW_init := by decide +kernel
set_option maxRecDepth 20000 in
theorem ggB_targetPart_B_shiftOf : GoodIn wB_targetPart wB_shiftOf := goodIn_q _ [5] (by decide +kernel) (by decide +kernel)
set_option maxRecDepth 20000 in
theorem gB_targetPart_B_shiftOf_15 : GoodIn wB_targetPart (va_wsS RB 15 yB_shiftOf wB_shiftOf) := goodIn_pp (goodIn_of _ (by decide +kernel)) ggB_targetPart_B_shiftOf
set_option maxRecDepth 20000 in
theorem ggB_targetHalf_B_targetPart : GoodIn wB_targetHalf wB_targetPart := goodIn_q _ [5, 6, 7, 8, 3, 9] (by decide +kernel) (by decide +kernel)
set_option maxRecDepth 20000 in
theorem gB_targetHalf_B_targetPart_22 : GoodIn wB_targetHalf (va_wsS RB 22 yB_targetPart wB_targetPart) := goodIn_pp (goodIn_of _ (by decide +kernel)) ggB_targetHalf_B_targetPart
theorem iW_setDivisor_W : ∀ w ∈ uW, w ∈ wW_setDivisor := by decide +kernel
set_option maxRecDepth 20000 in
theorem ggW_setDivisor_B_targetHalf : GoodIn wW_setDivisor wB_targetHalf := goodIn_q _ [6, 7, 8, 3, 9, 10, 11, 12, 13, 14] (by decide +kernel) (by decide +kernel)
set_option maxRecDepth 20000 in
theorem gW_setDivisor_B_targetHalf_34 : GoodIn wW_setDivisor (va_wsS RW 34 yB_targetHalf wB_targetHalf) := goodIn_pp (goodIn_of _ (by decide +kernel)) ggW_setDivisor_B_targetHalf
set_option maxRecDepth 20000 in
theorem ggJL_numberOfLeadingZeros_JI_numberOfLeadingZeros : GoodIn wJL_numberOfLeadingZeros wJI_numberOfLeadingZeros := goodIn_q _ [4, 5] (by decide +kernel) (by decide +kernel)
set_option maxRecDepth 20000 in
theorem gJL_numberOfLeadingZeros_JI_numberOfLeadingZeros_308 : GoodIn wJL_numberOfLeadingZeros (va_wsS RJL 308 yJI_numberOfLeadingZeros wJI_numberOfLeadingZeros) := goodIn_pp (goodIn_of _ (by decide +kernel)) ggJL_numberOfLeadingZeros_JI_numberOfLeadingZeros
set_option maxRecDepth 20000 in
theorem ggB_lengthOf_JL_numberOfLeadingZeros : GoodIn wB_lengthOf wJL_numberOfLeadingZeros := goodIn_q _ [4, 5, 6, 7, 8, 9] (by decide +kernel) (by decide +kernel)
set_option maxRecDepth 20000 in
theorem gB_lengthOf_JL_numberOfLeadingZeros_28 : GoodIn wB_lengthOf (va_wsS RB 28 yJL_numberOfLeadingZeros wJL_numberOfLeadingZeros) := goodIn_pp (goodIn_of _ (by decide +kernel)) ggB_lengthOf_JL_numberOfLeadingZeros
theorem iW_divisorLength_W : ∀ w ∈ uW, w ∈ wW_divisorLength := by decide +kernel
set_option maxRecDepth 20000 in
theorem ggW_divisorLength_B_lengthOf : GoodIn wW_divisorLength wB_lengthOf := goodIn_q _ [5, 6, 7, 8, 9, 10, 11, 12, 13, 14] (by decide +kernel) (by decide +kernel)
set_option maxRecDepth 20000 in
theorem gW_divisorLength_B_lengthOf_66 : GoodIn wW_divisorLength (va_wsS RW 66 yB_lengthOf wB_lengthOf) := goodIn_pp (goodIn_of _ (by decide +kernel)) ggW_divisorLength_B_lengthOf
theorem iW_restHoldsDivisor_W : ∀ w ∈ uW, w ∈ wW_restHoldsDivisor := by decide +kernel
theorem iW_subtractDivisor_W : ∀ w ∈ uW, w ∈ wW_subtractDivisor := by decide +kernel
theorem iW_divide_W : ∀ w ∈ uW, w ∈ wW_divide := by decide +kernel
set_option maxRecDepth 20000 in
theorem ggW_divide_JA_fill : GoodIn wW_divide wJA_fill := goodIn_q _ [22] (by decide +kernel) (by decide +kernel)
set_option maxRecDepth 20000 in
theorem gW_divide_JA_fill_40 : GoodIn wW_divide (va_wsS RW 40 yJA_fill wJA_fill) := goodIn_pp (goodIn_of _ (by decide +kernel)) ggW_divide_JA_fill
set_option maxRecDepth 20000 in
theorem ggW_divide_W_divisorLength : GoodIn wW_divide wW_divisorLength := goodIn_q _ [23, 24, 25, 26, 27, 28, 29, 30, 31, 32, 33, 34, 35, 36, 37, 42, 43, 44, 45] (by decide +kernel) (by decide +kernel)
set_option maxRecDepth 20000 in
theorem gW_divide_W_divisorLength_46 : GoodIn wW_divide (wsV RW 46 RW yW_divisorLength wW_divisorLength) := goodIn_pp (goodIn_of _ (by decide +kernel)) ggW_divide_W_divisorLength
set_option maxRecDepth 20000 in
theorem ggW_divide_W_twice : GoodIn wW_divide wW_twice := goodIn_q _ [38, 39] (by decide +kernel) (by decide +kernel)
set_option maxRecDepth 20000 in
theorem gW_divide_W_twice_56 : GoodIn wW_divide (va_wsS RW 56 yW_twice wW_twice) := goodIn_pp (goodIn_of _ (by decide +kernel)) ggW_divide_W_twice
set_option maxRecDepth 20000 in
theorem ggW_divide_W_restHoldsDivisor : GoodIn wW_divide wW_restHoldsDivisor := goodIn_q _ [40, 1, 24, 42, 43, 44, 45] (by decide +kernel) (by decide +kernel)
set_option maxRecDepth 20000 in
theorem gW_divide_W_restHoldsDivisor_59 : GoodIn wW_divide (wsV RW 59 RW yW_restHoldsDivisor wW_restHoldsDivisor) := goodIn_pp (goodIn_of _ (by decide +kernel)) ggW_divide_W_restHoldsDivisor
set_option maxRecDepth 20000 in
theorem ggW_divide_W_subtractDivisor : GoodIn wW_divide wW_subtractDivisor := goodIn_q _ [41, 1, 24, 39, 42, 43, 44, 45] (by decide +kernel) (by decide +kernel)
set_option maxRecDepth 20000 in
theorem gW_divide_W_subtractDivisor_63 : GoodIn wW_divide (wsV RW 63 RW yW_subtractDivisor wW_subtractDivisor) := goodIn_pp (goodIn_of _ (by decide +kernel)) ggW_divide_W_subtractDivisor
theorem iW_ofBits_W : ∀ w ∈ uW, w ∈ wW_ofBits := by decide +kernel
set_option maxRecDepth 20000 in
theorem ggW_ofBits_W_setDivisor : GoodIn wW_ofBits wW_setDivisor := goodIn_q _ [10, 11, 12, 13, 14, 15, 16, 17, 18, 19, 20, 21, 22, 23, 24, 62, 63, 64, 65] (by decide +kernel) (by decide +kernel)
set_option maxRecDepth 20000 in
theorem gW_ofBits_W_setDivisor_27 : GoodIn wW_ofBits (wsV RW 27 RW yW_setDivisor wW_setDivisor) := goodIn_pp (goodIn_of _ (by decide +kernel)) ggW_ofBits_W_setDivisor
set_option maxRecDepth 20000 in
theorem ggW_ofBits_W_divide : GoodIn wW_ofBits wW_divide := goodIn_q _ [25, 26, 27, 28, 29, 9, 30, 31, 32, 5, 33, 34, 35, 36, 37, 38, 39, 40, 41, 42, 43, 44, 45, 46, 14, 47, 48, 13, 49, 50, 51, 52, 53, 54, 55, 56, 57, 58, 59, 15, 60, 61, 62, 63, 64, 65] (by decide +kernel) (by decide +kernel)
set_option maxRecDepth 20000 in
theorem gW_ofBits_W_divide_31 : GoodIn wW_ofBits (wsV RW 31 RW yW_divide wW_divide) := goodIn_pp (goodIn_of _ (by decide +kernel)) ggW_ofBits_W_divide
theorem iR_multiply_R : ∀ w ∈ uR, w ∈ wR_multiply := by decide +kernel
set_option maxRecDepth 20000 in
theorem ggR_multiply_B_targetHalf : GoodIn wR_multiply wB_targetHalf := goodIn_q _ [6, 7, 8, 3, 9, 10, 11, 12, 13, 14] (by decide +kernel) (by decide +kernel)
set_option maxRecDepth 20000 in
theorem gR_multiply_B_targetHalf_46 : GoodIn wR_multiply (va_wsS RR 46 yB_targetHalf wB_targetHalf) := goodIn_pp (goodIn_of _ (by decide +kernel)) ggR_multiply_B_targetHalf
theorem iR_divide_R : ∀ w ∈ uR, w ∈ wR_divide := by decide +kernel
set_option maxRecDepth 20000 in
theorem ggR_divide_B_join : GoodIn wR_divide wB_join := goodIn_q _ [6] (by decide +kernel) (by decide +kernel)
set_option maxRecDepth 20000 in
theorem gR_divide_B_join_35 : GoodIn wR_divide (va_wsS RR 35 yB_join wB_join) := goodIn_pp (goodIn_of _ (by decide +kernel)) ggR_divide_B_join
set_option maxRecDepth 20000 in
theorem ggB_shorten_B_byteAt : GoodIn wB_shorten wB_byteAt := goodIn_q _ [5, 6] (by decide +kernel) (by decide +kernel)
set_option maxRecDepth 20000 in
theorem gB_shorten_B_byteAt_33 : GoodIn wB_shorten (va_wsS RB 33 yB_byteAt wB_byteAt) := goodIn_pp (goodIn_of _ (by decide +kernel)) ggB_shorten_B_byteAt
theorem iR_next_R : ∀ w ∈ uR, w ∈ wR_next := by decide +kernel
set_option maxRecDepth 20000 in
theorem ggR_next_R_multiply : GoodIn wR_next wR_multiply := goodIn_q _ [25, 26, 27, 20, 17, 28, 29, 30, 31, 32, 33, 34, 35, 36, 37, 47] (by decide +kernel) (by decide +kernel)
set_option maxRecDepth 20000 in
theorem gR_next_R_multiply_28 : GoodIn wR_next (wsV RR 28 RR yR_multiply wR_multiply) := goodIn_pp (goodIn_of _ (by decide +kernel)) ggR_next_R_multiply
set_option maxRecDepth 20000 in
theorem ggR_next_R_divide : GoodIn wR_next wR_divide := goodIn_q _ [38, 17, 18, 19, 20, 39, 40, 47] (by decide +kernel) (by decide +kernel)
set_option maxRecDepth 20000 in
theorem gR_next_R_divide_32 : GoodIn wR_next (wsV RR 32 RR yR_divide wR_divide) := goodIn_pp (goodIn_of _ (by decide +kernel)) ggR_next_R_divide
set_option maxRecDepth 20000 in
theorem ggR_next_B_join : GoodIn wR_next wB_join := goodIn_q _ [40] (by decide +kernel) (by decide +kernel)
set_option maxRecDepth 20000 in
theorem gR_next_B_join_35 : GoodIn wR_next (va_wsS RR 35 yB_join wB_join) := goodIn_pp (goodIn_of _ (by decide +kernel)) ggR_next_B_join
set_option maxRecDepth 20000 in
theorem ggR_next_B_shorten : GoodIn wR_next wB_shorten := goodIn_q _ [41, 42, 43, 20, 44, 45, 46] (by decide +kernel) (by decide +kernel)
set_option maxRecDepth 20000 in
theorem gR_next_B_shorten_42 : GoodIn wR_next (va_wsS RR 42 yB_shorten wB_shorten) := goodIn_pp (goodIn_of _ (by decide +kernel)) ggR_next_B_shorten
set_option maxRecDepth 20000 in
theorem ggB_faultOf_B_shiftOf : GoodIn wB_faultOf wB_shiftOf := goodIn_q _ [12] (by decide +kernel) (by decide +kernel)
set_option maxRecDepth 20000 in
theorem gB_faultOf_B_shiftOf_15 : GoodIn wB_faultOf (va_wsS RB 15 yB_shiftOf wB_shiftOf) := goodIn_pp (goodIn_of _ (by decide +kernel)) ggB_faultOf_B_shiftOf
set_option maxRecDepth 20000 in
theorem ggB_faultOf_B_lengthOf : GoodIn wB_faultOf wB_lengthOf := goodIn_q _ [13, 14, 15, 16, 17, 18, 19, 20, 21, 22] (by decide +kernel) (by decide +kernel)
set_option maxRecDepth 20000 in
theorem gB_faultOf_B_lengthOf_19 : GoodIn wB_faultOf (va_wsS RB 19 yB_lengthOf wB_lengthOf) := goodIn_pp (goodIn_of _ (by decide +kernel)) ggB_faultOf_B_lengthOf
set_option maxRecDepth 20000 in
theorem ggB_faultOf_B_targetPart : GoodIn wB_faultOf wB_targetPart := goodIn_q _ [23, 2, 4, 5, 6, 12] (by decide +kernel) (by decide +kernel)
set_option maxRecDepth 20000 in
theorem gB_faultOf_B_targetPart_22 : GoodIn wB_faultOf (va_wsS RB 22 yB_targetPart wB_targetPart) := goodIn_pp (goodIn_of _ (by decide +kernel)) ggB_faultOf_B_targetPart
theorem dR_init_0 : decode cR_init 0 = .ok (.aload_n 0, 1) := by decide +kernel
theorem dR_init_1 : decode cR_init 1 = .ok (.invokespecial 1, 3) := by decide +kernel
theorem dR_init_4 : decode cR_init 4 = .ok (.aload_n 0, 1) := by decide +kernel
theorem dR_init_5 : decode cR_init 5 = .ok (.bipush 9, 2) := by decide +kernel
theorem dR_init_7 : decode cR_init 7 = .ok (.newarray .long, 2) := by decide +kernel
theorem dR_init_9 : decode cR_init 9 = .ok (.putfield 9, 3) := by decide +kernel
theorem dR_init_12 : decode cR_init 12 = .ok (.return_, 1) := by decide +kernel
theorem dW_init_0 : decode cW_init 0 = .ok (.aload_n 0, 1) := by decide +kernel
theorem dW_init_1 : decode cW_init 1 = .ok (.invokespecial 1, 3) := by decide +kernel
theorem dW_init_4 : decode cW_init 4 = .ok (.aload_n 0, 1) := by decide +kernel
theorem dW_init_5 : decode cW_init 5 = .ok (.bipush 8, 2) := by decide +kernel
theorem dW_init_7 : decode cW_init 7 = .ok (.newarray .long, 2) := by decide +kernel
theorem dW_init_9 : decode cW_init 9 = .ok (.putfield 9, 3) := by decide +kernel
theorem dW_init_12 : decode cW_init 12 = .ok (.aload_n 0, 1) := by decide +kernel
theorem dW_init_13 : decode cW_init 13 = .ok (.bipush 8, 2) := by decide +kernel
theorem dW_init_15 : decode cW_init 15 = .ok (.newarray .long, 2) := by decide +kernel
theorem dW_init_17 : decode cW_init 17 = .ok (.putfield 15, 3) := by decide +kernel
theorem dW_init_20 : decode cW_init 20 = .ok (.aload_n 0, 1) := by decide +kernel
theorem dW_init_21 : decode cW_init 21 = .ok (.bipush 8, 2) := by decide +kernel
theorem dW_init_23 : decode cW_init 23 = .ok (.newarray .long, 2) := by decide +kernel
theorem dW_init_25 : decode cW_init 25 = .ok (.putfield 18, 3) := by decide +kernel
theorem dW_init_28 : decode cW_init 28 = .ok (.aload_n 0, 1) := by decide +kernel
theorem dW_init_29 : decode cW_init 29 = .ok (.ldc2_w 21, 3) := by decide +kernel
theorem dW_init_32 : decode cW_init 32 = .ok (.putfield 23, 3) := by decide +kernel
theorem dW_init_35 : decode cW_init 35 = .ok (.return_, 1) := by decide +kernel
theorem dB_shiftOf_0 : decode cB_shiftOf 0 = .ok (.bipush 8, 2) := by decide +kernel
theorem dB_shiftOf_2 : decode cB_shiftOf 2 = .ok (.lload_n 0, 1) := by decide +kernel
theorem dB_shiftOf_3 : decode cB_shiftOf 3 = .ok (.bipush 24, 2) := by decide +kernel
theorem dB_shiftOf_5 : decode cB_shiftOf 5 = .ok (.lushr, 1) := by decide +kernel
theorem dB_shiftOf_6 : decode cB_shiftOf 6 = .ok (.l2i, 1) := by decide +kernel
theorem dB_shiftOf_7 : decode cB_shiftOf 7 = .ok (.iconst 3, 1) := by decide +kernel
theorem dB_shiftOf_8 : decode cB_shiftOf 8 = .ok (.isub, 1) := by decide +kernel
theorem dB_shiftOf_9 : decode cB_shiftOf 9 = .ok (.imul, 1) := by decide +kernel
theorem dB_shiftOf_10 : decode cB_shiftOf 10 = .ok (.ireturn, 1) := by decide +kernel
theorem dB_targetPart_0 : decode cB_targetPart 0 = .ok (.lload_n 0, 1) := by decide +kernel
theorem dB_targetPart_1 : decode cB_targetPart 1 = .ok (.ldc2_w 11, 3) := by decide +kernel
theorem dB_targetPart_4 : decode cB_targetPart 4 = .ok (.land, 1) := by decide +kernel
theorem dB_targetPart_5 : decode cB_targetPart 5 = .ok (.lstore_n 3, 1) := by decide +kernel
theorem dB_targetPart_6 : decode cB_targetPart 6 = .ok (.lload_n 0, 1) := by decide +kernel
theorem dB_targetPart_7 : decode cB_targetPart 7 = .ok (.invokestatic 15, 3) := by decide +kernel
theorem dB_targetPart_10 : decode cB_targetPart 10 = .ok (.bipush 64, 2) := by decide +kernel
theorem dB_targetPart_12 : decode cB_targetPart 12 = .ok (.iconst 3, 1) := by decide +kernel
theorem dB_targetPart_13 : decode cB_targetPart 13 = .ok (.iload_n 2, 1) := by decide +kernel
theorem dB_targetPart_14 : decode cB_targetPart 14 = .ok (.isub, 1) := by decide +kernel
theorem dB_targetPart_15 : decode cB_targetPart 15 = .ok (.imul, 1) := by decide +kernel
theorem dB_targetPart_16 : decode cB_targetPart 16 = .ok (.isub, 1) := by decide +kernel
theorem dB_targetPart_17 : decode cB_targetPart 17 = .ok (.istore 5, 2) := by decide +kernel
theorem dB_targetPart_19 : decode cB_targetPart 19 = .ok (.iload 5, 2) := by decide +kernel
theorem dB_targetPart_21 : decode cB_targetPart 21 = .ok (.bipush 64, 2) := by decide +kernel
theorem dB_targetPart_23 : decode cB_targetPart 23 = .ok (.if_icmp .ge 10, 3) := by decide +kernel
theorem dB_targetPart_26 : decode cB_targetPart 26 = .ok (.iload 5, 2) := by decide +kernel
theorem dB_targetPart_28 : decode cB_targetPart 28 = .ok (.bipush (-64), 2) := by decide +kernel
theorem dB_targetPart_30 : decode cB_targetPart 30 = .ok (.if_icmp .gt 5, 3) := by decide +kernel
theorem dB_targetPart_33 : decode cB_targetPart 33 = .ok (.lconst 0, 1) := by decide +kernel
theorem dB_targetPart_34 : decode cB_targetPart 34 = .ok (.lreturn, 1) := by decide +kernel
theorem dB_targetPart_35 : decode cB_targetPart 35 = .ok (.iload 5, 2) := by decide +kernel
theorem dB_targetPart_37 : decode cB_targetPart 37 = .ok (.ifCond .lt 10, 3) := by decide +kernel
theorem dB_targetPart_40 : decode cB_targetPart 40 = .ok (.lload_n 3, 1) := by decide +kernel
theorem dB_targetPart_41 : decode cB_targetPart 41 = .ok (.iload 5, 2) := by decide +kernel
theorem dB_targetPart_43 : decode cB_targetPart 43 = .ok (.lshl, 1) := by decide +kernel
theorem dB_targetPart_44 : decode cB_targetPart 44 = .ok (.goto 8, 3) := by decide +kernel
theorem dB_targetPart_47 : decode cB_targetPart 47 = .ok (.lload_n 3, 1) := by decide +kernel
theorem dB_targetPart_48 : decode cB_targetPart 48 = .ok (.iload 5, 2) := by decide +kernel
theorem dB_targetPart_50 : decode cB_targetPart 50 = .ok (.ineg, 1) := by decide +kernel
theorem dB_targetPart_51 : decode cB_targetPart 51 = .ok (.lushr, 1) := by decide +kernel
theorem dB_targetPart_52 : decode cB_targetPart 52 = .ok (.lreturn, 1) := by decide +kernel
theorem dB_targetHalf_0 : decode cB_targetHalf 0 = .ok (.lload_n 0, 1) := by decide +kernel
theorem dB_targetHalf_1 : decode cB_targetHalf 1 = .ok (.iload_n 2, 1) := by decide +kernel
theorem dB_targetHalf_2 : decode cB_targetHalf 2 = .ok (.iconst 2, 1) := by decide +kernel
theorem dB_targetHalf_3 : decode cB_targetHalf 3 = .ok (.idiv, 1) := by decide +kernel
theorem dB_targetHalf_4 : decode cB_targetHalf 4 = .ok (.invokestatic 22, 3) := by decide +kernel
theorem dB_targetHalf_7 : decode cB_targetHalf 7 = .ok (.lstore_n 3, 1) := by decide +kernel
theorem dB_targetHalf_8 : decode cB_targetHalf 8 = .ok (.iload_n 2, 1) := by decide +kernel
theorem dB_targetHalf_9 : decode cB_targetHalf 9 = .ok (.iconst 2, 1) := by decide +kernel
theorem dB_targetHalf_10 : decode cB_targetHalf 10 = .ok (.irem, 1) := by decide +kernel
theorem dB_targetHalf_11 : decode cB_targetHalf 11 = .ok (.ifCond .ne 10, 3) := by decide +kernel
theorem dB_targetHalf_14 : decode cB_targetHalf 14 = .ok (.lload_n 3, 1) := by decide +kernel
theorem dB_targetHalf_15 : decode cB_targetHalf 15 = .ok (.bipush 32, 2) := by decide +kernel
theorem dB_targetHalf_17 : decode cB_targetHalf 17 = .ok (.lushr, 1) := by decide +kernel
theorem dB_targetHalf_18 : decode cB_targetHalf 18 = .ok (.goto 8, 3) := by decide +kernel
theorem dB_targetHalf_21 : decode cB_targetHalf 21 = .ok (.lload_n 3, 1) := by decide +kernel
theorem dB_targetHalf_22 : decode cB_targetHalf 22 = .ok (.ldc2_w 9, 3) := by decide +kernel
theorem dB_targetHalf_25 : decode cB_targetHalf 25 = .ok (.land, 1) := by decide +kernel
theorem dB_targetHalf_26 : decode cB_targetHalf 26 = .ok (.lreturn, 1) := by decide +kernel
theorem dW_setDivisor_0 : decode cW_setDivisor 0 = .ok (.lconst 1, 1) := by decide +kernel
theorem dW_setDivisor_1 : decode cW_setDivisor 1 = .ok (.lstore_n 3, 1) := by decide +kernel
theorem dW_setDivisor_2 : decode cW_setDivisor 2 = .ok (.bipush 7, 2) := by decide +kernel
theorem dW_setDivisor_4 : decode cW_setDivisor 4 = .ok (.istore 5, 2) := by decide +kernel
theorem dW_setDivisor_6 : decode cW_setDivisor 6 = .ok (.iload 5, 2) := by decide +kernel
theorem dW_setDivisor_8 : decode cW_setDivisor 8 = .ok (.ifCond .lt 38, 3) := by decide +kernel
theorem dW_setDivisor_11 : decode cW_setDivisor 11 = .ok (.lload_n 1, 1) := by decide +kernel
theorem dW_setDivisor_12 : decode cW_setDivisor 12 = .ok (.iload 5, 2) := by decide +kernel
theorem dW_setDivisor_14 : decode cW_setDivisor 14 = .ok (.invokestatic 34, 3) := by decide +kernel
theorem dW_setDivisor_17 : decode cW_setDivisor 17 = .ok (.lload_n 3, 1) := by decide +kernel
theorem dW_setDivisor_18 : decode cW_setDivisor 18 = .ok (.ladd, 1) := by decide +kernel
theorem dW_setDivisor_19 : decode cW_setDivisor 19 = .ok (.lstore 6, 2) := by decide +kernel
theorem dW_setDivisor_21 : decode cW_setDivisor 21 = .ok (.aload_n 0, 1) := by decide +kernel
theorem dW_setDivisor_22 : decode cW_setDivisor 22 = .ok (.getfield 9, 3) := by decide +kernel
theorem dW_setDivisor_25 : decode cW_setDivisor 25 = .ok (.iload 5, 2) := by decide +kernel
theorem dW_setDivisor_27 : decode cW_setDivisor 27 = .ok (.lload 6, 2) := by decide +kernel
theorem dW_setDivisor_29 : decode cW_setDivisor 29 = .ok (.ldc2_w 38, 3) := by decide +kernel
theorem dW_setDivisor_32 : decode cW_setDivisor 32 = .ok (.land, 1) := by decide +kernel
theorem dW_setDivisor_33 : decode cW_setDivisor 33 = .ok (.lastore, 1) := by decide +kernel
theorem dW_setDivisor_34 : decode cW_setDivisor 34 = .ok (.lload 6, 2) := by decide +kernel
theorem dW_setDivisor_36 : decode cW_setDivisor 36 = .ok (.bipush 32, 2) := by decide +kernel
theorem dW_setDivisor_38 : decode cW_setDivisor 38 = .ok (.lushr, 1) := by decide +kernel
theorem dW_setDivisor_39 : decode cW_setDivisor 39 = .ok (.lstore_n 3, 1) := by decide +kernel
theorem dW_setDivisor_40 : decode cW_setDivisor 40 = .ok (.iinc 5 (-1), 3) := by decide +kernel
theorem dW_setDivisor_43 : decode cW_setDivisor 43 = .ok (.goto (-37), 3) := by decide +kernel
theorem dW_setDivisor_46 : decode cW_setDivisor 46 = .ok (.return_, 1) := by decide +kernel
theorem dJA_fill_0 : decode cJA_fill 0 = .ok (.iconst 0, 1) := by decide +kernel
theorem dJA_fill_1 : decode cJA_fill 1 = .ok (.istore_n 3, 1) := by decide +kernel
theorem dJA_fill_2 : decode cJA_fill 2 = .ok (.aload_n 0, 1) := by decide +kernel
theorem dJA_fill_3 : decode cJA_fill 3 = .ok (.arraylength, 1) := by decide +kernel
theorem dJA_fill_4 : decode cJA_fill 4 = .ok (.istore 4, 2) := by decide +kernel
theorem dJA_fill_6 : decode cJA_fill 6 = .ok (.iload_n 3, 1) := by decide +kernel
theorem dJA_fill_7 : decode cJA_fill 7 = .ok (.iload 4, 2) := by decide +kernel
theorem dJA_fill_9 : decode cJA_fill 9 = .ok (.if_icmp .ge 13, 3) := by decide +kernel
theorem dJA_fill_12 : decode cJA_fill 12 = .ok (.aload_n 0, 1) := by decide +kernel
theorem dJA_fill_13 : decode cJA_fill 13 = .ok (.iload_n 3, 1) := by decide +kernel
theorem dJA_fill_14 : decode cJA_fill 14 = .ok (.lload_n 1, 1) := by decide +kernel
theorem dJA_fill_15 : decode cJA_fill 15 = .ok (.lastore, 1) := by decide +kernel
theorem dJA_fill_16 : decode cJA_fill 16 = .ok (.iinc 3 1, 3) := by decide +kernel
theorem dJA_fill_19 : decode cJA_fill 19 = .ok (.goto (-13), 3) := by decide +kernel
theorem dJA_fill_22 : decode cJA_fill 22 = .ok (.return_, 1) := by decide +kernel
theorem dJI_numberOfLeadingZeros_0 : decode cJI_numberOfLeadingZeros 0 = .ok (.iload_n 0, 1) := by decide +kernel
theorem dJI_numberOfLeadingZeros_1 : decode cJI_numberOfLeadingZeros 1 = .ok (.ifCond .gt 14, 3) := by decide +kernel
theorem dJI_numberOfLeadingZeros_4 : decode cJI_numberOfLeadingZeros 4 = .ok (.iload_n 0, 1) := by decide +kernel
theorem dJI_numberOfLeadingZeros_5 : decode cJI_numberOfLeadingZeros 5 = .ok (.ifCond .ne 8, 3) := by decide +kernel
theorem dJI_numberOfLeadingZeros_8 : decode cJI_numberOfLeadingZeros 8 = .ok (.bipush 32, 2) := by decide +kernel
theorem dJI_numberOfLeadingZeros_10 : decode cJI_numberOfLeadingZeros 10 = .ok (.goto 4, 3) := by decide +kernel
theorem dJI_numberOfLeadingZeros_13 : decode cJI_numberOfLeadingZeros 13 = .ok (.iconst 0, 1) := by decide +kernel
theorem dJI_numberOfLeadingZeros_14 : decode cJI_numberOfLeadingZeros 14 = .ok (.ireturn, 1) := by decide +kernel
theorem dJI_numberOfLeadingZeros_15 : decode cJI_numberOfLeadingZeros 15 = .ok (.bipush 31, 2) := by decide +kernel
theorem dJI_numberOfLeadingZeros_17 : decode cJI_numberOfLeadingZeros 17 = .ok (.istore_n 1, 1) := by decide +kernel
theorem dJI_numberOfLeadingZeros_18 : decode cJI_numberOfLeadingZeros 18 = .ok (.iload_n 0, 1) := by decide +kernel
theorem dJI_numberOfLeadingZeros_19 : decode cJI_numberOfLeadingZeros 19 = .ok (.ldc_w 264, 3) := by decide +kernel
theorem dJI_numberOfLeadingZeros_22 : decode cJI_numberOfLeadingZeros 22 = .ok (.if_icmp .lt 11, 3) := by decide +kernel
theorem dJI_numberOfLeadingZeros_25 : decode cJI_numberOfLeadingZeros 25 = .ok (.iinc 1 (-16), 3) := by decide +kernel
theorem dJI_numberOfLeadingZeros_28 : decode cJI_numberOfLeadingZeros 28 = .ok (.iload_n 0, 1) := by decide +kernel
theorem dJI_numberOfLeadingZeros_29 : decode cJI_numberOfLeadingZeros 29 = .ok (.bipush 16, 2) := by decide +kernel
theorem dJI_numberOfLeadingZeros_31 : decode cJI_numberOfLeadingZeros 31 = .ok (.iushr, 1) := by decide +kernel
theorem dJI_numberOfLeadingZeros_32 : decode cJI_numberOfLeadingZeros 32 = .ok (.istore_n 0, 1) := by decide +kernel
theorem dJI_numberOfLeadingZeros_33 : decode cJI_numberOfLeadingZeros 33 = .ok (.iload_n 0, 1) := by decide +kernel
theorem dJI_numberOfLeadingZeros_34 : decode cJI_numberOfLeadingZeros 34 = .ok (.sipush 256, 3) := by decide +kernel
theorem dJI_numberOfLeadingZeros_37 : decode cJI_numberOfLeadingZeros 37 = .ok (.if_icmp .lt 11, 3) := by decide +kernel
theorem dJI_numberOfLeadingZeros_40 : decode cJI_numberOfLeadingZeros 40 = .ok (.iinc 1 (-8), 3) := by decide +kernel
theorem dJI_numberOfLeadingZeros_43 : decode cJI_numberOfLeadingZeros 43 = .ok (.iload_n 0, 1) := by decide +kernel
theorem dJI_numberOfLeadingZeros_44 : decode cJI_numberOfLeadingZeros 44 = .ok (.bipush 8, 2) := by decide +kernel
theorem dJI_numberOfLeadingZeros_46 : decode cJI_numberOfLeadingZeros 46 = .ok (.iushr, 1) := by decide +kernel
theorem dJI_numberOfLeadingZeros_47 : decode cJI_numberOfLeadingZeros 47 = .ok (.istore_n 0, 1) := by decide +kernel
theorem dJI_numberOfLeadingZeros_48 : decode cJI_numberOfLeadingZeros 48 = .ok (.iload_n 0, 1) := by decide +kernel
theorem dJI_numberOfLeadingZeros_49 : decode cJI_numberOfLeadingZeros 49 = .ok (.bipush 16, 2) := by decide +kernel
theorem dJI_numberOfLeadingZeros_51 : decode cJI_numberOfLeadingZeros 51 = .ok (.if_icmp .lt 10, 3) := by decide +kernel
theorem dJI_numberOfLeadingZeros_54 : decode cJI_numberOfLeadingZeros 54 = .ok (.iinc 1 (-4), 3) := by decide +kernel
theorem dJI_numberOfLeadingZeros_57 : decode cJI_numberOfLeadingZeros 57 = .ok (.iload_n 0, 1) := by decide +kernel
theorem dJI_numberOfLeadingZeros_58 : decode cJI_numberOfLeadingZeros 58 = .ok (.iconst 4, 1) := by decide +kernel
theorem dJI_numberOfLeadingZeros_59 : decode cJI_numberOfLeadingZeros 59 = .ok (.iushr, 1) := by decide +kernel
theorem dJI_numberOfLeadingZeros_60 : decode cJI_numberOfLeadingZeros 60 = .ok (.istore_n 0, 1) := by decide +kernel
theorem dJI_numberOfLeadingZeros_61 : decode cJI_numberOfLeadingZeros 61 = .ok (.iload_n 0, 1) := by decide +kernel
theorem dJI_numberOfLeadingZeros_62 : decode cJI_numberOfLeadingZeros 62 = .ok (.iconst 4, 1) := by decide +kernel
theorem dJI_numberOfLeadingZeros_63 : decode cJI_numberOfLeadingZeros 63 = .ok (.if_icmp .lt 10, 3) := by decide +kernel
theorem dJI_numberOfLeadingZeros_66 : decode cJI_numberOfLeadingZeros 66 = .ok (.iinc 1 (-2), 3) := by decide +kernel
theorem dJI_numberOfLeadingZeros_69 : decode cJI_numberOfLeadingZeros 69 = .ok (.iload_n 0, 1) := by decide +kernel
theorem dJI_numberOfLeadingZeros_70 : decode cJI_numberOfLeadingZeros 70 = .ok (.iconst 2, 1) := by decide +kernel
theorem dJI_numberOfLeadingZeros_71 : decode cJI_numberOfLeadingZeros 71 = .ok (.iushr, 1) := by decide +kernel
theorem dJI_numberOfLeadingZeros_72 : decode cJI_numberOfLeadingZeros 72 = .ok (.istore_n 0, 1) := by decide +kernel
theorem dJI_numberOfLeadingZeros_73 : decode cJI_numberOfLeadingZeros 73 = .ok (.iload_n 1, 1) := by decide +kernel
theorem dJI_numberOfLeadingZeros_74 : decode cJI_numberOfLeadingZeros 74 = .ok (.iload_n 0, 1) := by decide +kernel
theorem dJI_numberOfLeadingZeros_75 : decode cJI_numberOfLeadingZeros 75 = .ok (.iconst 1, 1) := by decide +kernel
theorem dJI_numberOfLeadingZeros_76 : decode cJI_numberOfLeadingZeros 76 = .ok (.iushr, 1) := by decide +kernel
theorem dJI_numberOfLeadingZeros_77 : decode cJI_numberOfLeadingZeros 77 = .ok (.isub, 1) := by decide +kernel
theorem dJI_numberOfLeadingZeros_78 : decode cJI_numberOfLeadingZeros 78 = .ok (.ireturn, 1) := by decide +kernel
theorem dJL_numberOfLeadingZeros_0 : decode cJL_numberOfLeadingZeros 0 = .ok (.lload_n 0, 1) := by decide +kernel
theorem dJL_numberOfLeadingZeros_1 : decode cJL_numberOfLeadingZeros 1 = .ok (.bipush 32, 2) := by decide +kernel
theorem dJL_numberOfLeadingZeros_3 : decode cJL_numberOfLeadingZeros 3 = .ok (.lushr, 1) := by decide +kernel
theorem dJL_numberOfLeadingZeros_4 : decode cJL_numberOfLeadingZeros 4 = .ok (.l2i, 1) := by decide +kernel
theorem dJL_numberOfLeadingZeros_5 : decode cJL_numberOfLeadingZeros 5 = .ok (.istore_n 2, 1) := by decide +kernel
theorem dJL_numberOfLeadingZeros_6 : decode cJL_numberOfLeadingZeros 6 = .ok (.iload_n 2, 1) := by decide +kernel
theorem dJL_numberOfLeadingZeros_7 : decode cJL_numberOfLeadingZeros 7 = .ok (.ifCond .ne 14, 3) := by decide +kernel
theorem dJL_numberOfLeadingZeros_10 : decode cJL_numberOfLeadingZeros 10 = .ok (.bipush 32, 2) := by decide +kernel
theorem dJL_numberOfLeadingZeros_12 : decode cJL_numberOfLeadingZeros 12 = .ok (.lload_n 0, 1) := by decide +kernel
theorem dJL_numberOfLeadingZeros_13 : decode cJL_numberOfLeadingZeros 13 = .ok (.l2i, 1) := by decide +kernel
theorem dJL_numberOfLeadingZeros_14 : decode cJL_numberOfLeadingZeros 14 = .ok (.invokestatic 308, 3) := by decide +kernel
theorem dJL_numberOfLeadingZeros_17 : decode cJL_numberOfLeadingZeros 17 = .ok (.iadd, 1) := by decide +kernel
theorem dJL_numberOfLeadingZeros_18 : decode cJL_numberOfLeadingZeros 18 = .ok (.goto 7, 3) := by decide +kernel
theorem dJL_numberOfLeadingZeros_21 : decode cJL_numberOfLeadingZeros 21 = .ok (.iload_n 2, 1) := by decide +kernel
theorem dJL_numberOfLeadingZeros_22 : decode cJL_numberOfLeadingZeros 22 = .ok (.invokestatic 308, 3) := by decide +kernel
theorem dJL_numberOfLeadingZeros_25 : decode cJL_numberOfLeadingZeros 25 = .ok (.ireturn, 1) := by decide +kernel
theorem dB_lengthOf_0 : decode cB_lengthOf 0 = .ok (.bipush 64, 2) := by decide +kernel
theorem dB_lengthOf_2 : decode cB_lengthOf 2 = .ok (.lload_n 0, 1) := by decide +kernel
theorem dB_lengthOf_3 : decode cB_lengthOf 3 = .ok (.invokestatic 28, 3) := by decide +kernel
theorem dB_lengthOf_6 : decode cB_lengthOf 6 = .ok (.isub, 1) := by decide +kernel
theorem dB_lengthOf_7 : decode cB_lengthOf 7 = .ok (.ireturn, 1) := by decide +kernel
theorem dW_divisorLength_0 : decode cW_divisorLength 0 = .ok (.iconst 0, 1) := by decide +kernel
theorem dW_divisorLength_1 : decode cW_divisorLength 1 = .ok (.istore_n 1, 1) := by decide +kernel
theorem dW_divisorLength_2 : decode cW_divisorLength 2 = .ok (.iload_n 1, 1) := by decide +kernel
theorem dW_divisorLength_3 : decode cW_divisorLength 3 = .ok (.bipush 8, 2) := by decide +kernel
theorem dW_divisorLength_5 : decode cW_divisorLength 5 = .ok (.if_icmp .ge 38, 3) := by decide +kernel
theorem dW_divisorLength_8 : decode cW_divisorLength 8 = .ok (.aload_n 0, 1) := by decide +kernel
theorem dW_divisorLength_9 : decode cW_divisorLength 9 = .ok (.getfield 9, 3) := by decide +kernel
theorem dW_divisorLength_12 : decode cW_divisorLength 12 = .ok (.iload_n 1, 1) := by decide +kernel
theorem dW_divisorLength_13 : decode cW_divisorLength 13 = .ok (.laload, 1) := by decide +kernel
theorem dW_divisorLength_14 : decode cW_divisorLength 14 = .ok (.lconst 0, 1) := by decide +kernel
theorem dW_divisorLength_15 : decode cW_divisorLength 15 = .ok (.lcmp, 1) := by decide +kernel
theorem dW_divisorLength_16 : decode cW_divisorLength 16 = .ok (.ifCond .eq 21, 3) := by decide +kernel
theorem dW_divisorLength_19 : decode cW_divisorLength 19 = .ok (.bipush 32, 2) := by decide +kernel
theorem dW_divisorLength_21 : decode cW_divisorLength 21 = .ok (.bipush 7, 2) := by decide +kernel
theorem dW_divisorLength_23 : decode cW_divisorLength 23 = .ok (.iload_n 1, 1) := by decide +kernel
theorem dW_divisorLength_24 : decode cW_divisorLength 24 = .ok (.isub, 1) := by decide +kernel
theorem dW_divisorLength_25 : decode cW_divisorLength 25 = .ok (.imul, 1) := by decide +kernel
theorem dW_divisorLength_26 : decode cW_divisorLength 26 = .ok (.aload_n 0, 1) := by decide +kernel
theorem dW_divisorLength_27 : decode cW_divisorLength 27 = .ok (.getfield 9, 3) := by decide +kernel
theorem dW_divisorLength_30 : decode cW_divisorLength 30 = .ok (.iload_n 1, 1) := by decide +kernel
theorem dW_divisorLength_31 : decode cW_divisorLength 31 = .ok (.laload, 1) := by decide +kernel
theorem dW_divisorLength_32 : decode cW_divisorLength 32 = .ok (.invokestatic 66, 3) := by decide +kernel
theorem dW_divisorLength_35 : decode cW_divisorLength 35 = .ok (.iadd, 1) := by decide +kernel
theorem dW_divisorLength_36 : decode cW_divisorLength 36 = .ok (.ireturn, 1) := by decide +kernel
theorem dW_divisorLength_37 : decode cW_divisorLength 37 = .ok (.iinc 1 1, 3) := by decide +kernel
theorem dW_divisorLength_40 : decode cW_divisorLength 40 = .ok (.goto (-38), 3) := by decide +kernel
theorem dW_divisorLength_43 : decode cW_divisorLength 43 = .ok (.iconst 0, 1) := by decide +kernel
theorem dW_divisorLength_44 : decode cW_divisorLength 44 = .ok (.ireturn, 1) := by decide +kernel
theorem dW_twice_0 : decode cW_twice 0 = .ok (.lload_n 1, 1) := by decide +kernel
theorem dW_twice_1 : decode cW_twice 1 = .ok (.lstore_n 3, 1) := by decide +kernel
theorem dW_twice_2 : decode cW_twice 2 = .ok (.bipush 7, 2) := by decide +kernel
theorem dW_twice_4 : decode cW_twice 4 = .ok (.istore 5, 2) := by decide +kernel
theorem dW_twice_6 : decode cW_twice 6 = .ok (.iload 5, 2) := by decide +kernel
theorem dW_twice_8 : decode cW_twice 8 = .ok (.ifCond .lt 35, 3) := by decide +kernel
theorem dW_twice_11 : decode cW_twice 11 = .ok (.aload_n 0, 1) := by decide +kernel
theorem dW_twice_12 : decode cW_twice 12 = .ok (.iload 5, 2) := by decide +kernel
theorem dW_twice_14 : decode cW_twice 14 = .ok (.laload, 1) := by decide +kernel
theorem dW_twice_15 : decode cW_twice 15 = .ok (.iconst 1, 1) := by decide +kernel
theorem dW_twice_16 : decode cW_twice 16 = .ok (.lshl, 1) := by decide +kernel
theorem dW_twice_17 : decode cW_twice 17 = .ok (.lload_n 3, 1) := by decide +kernel
theorem dW_twice_18 : decode cW_twice 18 = .ok (.lor, 1) := by decide +kernel
theorem dW_twice_19 : decode cW_twice 19 = .ok (.lstore 6, 2) := by decide +kernel
theorem dW_twice_21 : decode cW_twice 21 = .ok (.aload_n 0, 1) := by decide +kernel
theorem dW_twice_22 : decode cW_twice 22 = .ok (.iload 5, 2) := by decide +kernel
theorem dW_twice_24 : decode cW_twice 24 = .ok (.lload 6, 2) := by decide +kernel
theorem dW_twice_26 : decode cW_twice 26 = .ok (.ldc2_w 38, 3) := by decide +kernel
theorem dW_twice_29 : decode cW_twice 29 = .ok (.land, 1) := by decide +kernel
theorem dW_twice_30 : decode cW_twice 30 = .ok (.lastore, 1) := by decide +kernel
theorem dW_twice_31 : decode cW_twice 31 = .ok (.lload 6, 2) := by decide +kernel
theorem dW_twice_33 : decode cW_twice 33 = .ok (.bipush 32, 2) := by decide +kernel
theorem dW_twice_35 : decode cW_twice 35 = .ok (.lushr, 1) := by decide +kernel
theorem dW_twice_36 : decode cW_twice 36 = .ok (.lstore_n 3, 1) := by decide +kernel
theorem dW_twice_37 : decode cW_twice 37 = .ok (.iinc 5 (-1), 3) := by decide +kernel
theorem dW_twice_40 : decode cW_twice 40 = .ok (.goto (-34), 3) := by decide +kernel
theorem dW_twice_43 : decode cW_twice 43 = .ok (.return_, 1) := by decide +kernel
theorem dW_restHoldsDivisor_0 : decode cW_restHoldsDivisor 0 = .ok (.iconst 0, 1) := by decide +kernel
theorem dW_restHoldsDivisor_1 : decode cW_restHoldsDivisor 1 = .ok (.istore_n 1, 1) := by decide +kernel
theorem dW_restHoldsDivisor_2 : decode cW_restHoldsDivisor 2 = .ok (.iload_n 1, 1) := by decide +kernel
theorem dW_restHoldsDivisor_3 : decode cW_restHoldsDivisor 3 = .ok (.bipush 8, 2) := by decide +kernel
theorem dW_restHoldsDivisor_5 : decode cW_restHoldsDivisor 5 = .ok (.if_icmp .ge 47, 3) := by decide +kernel
theorem dW_restHoldsDivisor_8 : decode cW_restHoldsDivisor 8 = .ok (.aload_n 0, 1) := by decide +kernel
theorem dW_restHoldsDivisor_9 : decode cW_restHoldsDivisor 9 = .ok (.getfield 15, 3) := by decide +kernel
theorem dW_restHoldsDivisor_12 : decode cW_restHoldsDivisor 12 = .ok (.iload_n 1, 1) := by decide +kernel
theorem dW_restHoldsDivisor_13 : decode cW_restHoldsDivisor 13 = .ok (.laload, 1) := by decide +kernel
theorem dW_restHoldsDivisor_14 : decode cW_restHoldsDivisor 14 = .ok (.aload_n 0, 1) := by decide +kernel
theorem dW_restHoldsDivisor_15 : decode cW_restHoldsDivisor 15 = .ok (.getfield 9, 3) := by decide +kernel
theorem dW_restHoldsDivisor_18 : decode cW_restHoldsDivisor 18 = .ok (.iload_n 1, 1) := by decide +kernel
theorem dW_restHoldsDivisor_19 : decode cW_restHoldsDivisor 19 = .ok (.laload, 1) := by decide +kernel
theorem dW_restHoldsDivisor_20 : decode cW_restHoldsDivisor 20 = .ok (.lcmp, 1) := by decide +kernel
theorem dW_restHoldsDivisor_21 : decode cW_restHoldsDivisor 21 = .ok (.ifCond .eq 25, 3) := by decide +kernel
theorem dW_restHoldsDivisor_24 : decode cW_restHoldsDivisor 24 = .ok (.aload_n 0, 1) := by decide +kernel
theorem dW_restHoldsDivisor_25 : decode cW_restHoldsDivisor 25 = .ok (.getfield 15, 3) := by decide +kernel
theorem dW_restHoldsDivisor_28 : decode cW_restHoldsDivisor 28 = .ok (.iload_n 1, 1) := by decide +kernel
theorem dW_restHoldsDivisor_29 : decode cW_restHoldsDivisor 29 = .ok (.laload, 1) := by decide +kernel
theorem dW_restHoldsDivisor_30 : decode cW_restHoldsDivisor 30 = .ok (.aload_n 0, 1) := by decide +kernel
theorem dW_restHoldsDivisor_31 : decode cW_restHoldsDivisor 31 = .ok (.getfield 9, 3) := by decide +kernel
theorem dW_restHoldsDivisor_34 : decode cW_restHoldsDivisor 34 = .ok (.iload_n 1, 1) := by decide +kernel
theorem dW_restHoldsDivisor_35 : decode cW_restHoldsDivisor 35 = .ok (.laload, 1) := by decide +kernel
theorem dW_restHoldsDivisor_36 : decode cW_restHoldsDivisor 36 = .ok (.lcmp, 1) := by decide +kernel
theorem dW_restHoldsDivisor_37 : decode cW_restHoldsDivisor 37 = .ok (.ifCond .le 7, 3) := by decide +kernel
theorem dW_restHoldsDivisor_40 : decode cW_restHoldsDivisor 40 = .ok (.iconst 1, 1) := by decide +kernel
theorem dW_restHoldsDivisor_41 : decode cW_restHoldsDivisor 41 = .ok (.goto 4, 3) := by decide +kernel
theorem dW_restHoldsDivisor_44 : decode cW_restHoldsDivisor 44 = .ok (.iconst 0, 1) := by decide +kernel
theorem dW_restHoldsDivisor_45 : decode cW_restHoldsDivisor 45 = .ok (.ireturn, 1) := by decide +kernel
theorem dW_restHoldsDivisor_46 : decode cW_restHoldsDivisor 46 = .ok (.iinc 1 1, 3) := by decide +kernel
theorem dW_restHoldsDivisor_49 : decode cW_restHoldsDivisor 49 = .ok (.goto (-47), 3) := by decide +kernel
theorem dW_restHoldsDivisor_52 : decode cW_restHoldsDivisor 52 = .ok (.iconst 1, 1) := by decide +kernel
theorem dW_restHoldsDivisor_53 : decode cW_restHoldsDivisor 53 = .ok (.ireturn, 1) := by decide +kernel
theorem dW_subtractDivisor_0 : decode cW_subtractDivisor 0 = .ok (.lconst 0, 1) := by decide +kernel
theorem dW_subtractDivisor_1 : decode cW_subtractDivisor 1 = .ok (.lstore_n 1, 1) := by decide +kernel
theorem dW_subtractDivisor_2 : decode cW_subtractDivisor 2 = .ok (.bipush 7, 2) := by decide +kernel
theorem dW_subtractDivisor_4 : decode cW_subtractDivisor 4 = .ok (.istore_n 3, 1) := by decide +kernel
theorem dW_subtractDivisor_5 : decode cW_subtractDivisor 5 = .ok (.iload_n 3, 1) := by decide +kernel
theorem dW_subtractDivisor_6 : decode cW_subtractDivisor 6 = .ok (.ifCond .lt 51, 3) := by decide +kernel
theorem dW_subtractDivisor_9 : decode cW_subtractDivisor 9 = .ok (.aload_n 0, 1) := by decide +kernel
theorem dW_subtractDivisor_10 : decode cW_subtractDivisor 10 = .ok (.getfield 15, 3) := by decide +kernel
theorem dW_subtractDivisor_13 : decode cW_subtractDivisor 13 = .ok (.iload_n 3, 1) := by decide +kernel
theorem dW_subtractDivisor_14 : decode cW_subtractDivisor 14 = .ok (.laload, 1) := by decide +kernel
theorem dW_subtractDivisor_15 : decode cW_subtractDivisor 15 = .ok (.aload_n 0, 1) := by decide +kernel
theorem dW_subtractDivisor_16 : decode cW_subtractDivisor 16 = .ok (.getfield 9, 3) := by decide +kernel
theorem dW_subtractDivisor_19 : decode cW_subtractDivisor 19 = .ok (.iload_n 3, 1) := by decide +kernel
theorem dW_subtractDivisor_20 : decode cW_subtractDivisor 20 = .ok (.laload, 1) := by decide +kernel
theorem dW_subtractDivisor_21 : decode cW_subtractDivisor 21 = .ok (.lsub, 1) := by decide +kernel
theorem dW_subtractDivisor_22 : decode cW_subtractDivisor 22 = .ok (.lload_n 1, 1) := by decide +kernel
theorem dW_subtractDivisor_23 : decode cW_subtractDivisor 23 = .ok (.lsub, 1) := by decide +kernel
theorem dW_subtractDivisor_24 : decode cW_subtractDivisor 24 = .ok (.lstore 4, 2) := by decide +kernel
theorem dW_subtractDivisor_26 : decode cW_subtractDivisor 26 = .ok (.aload_n 0, 1) := by decide +kernel
theorem dW_subtractDivisor_27 : decode cW_subtractDivisor 27 = .ok (.getfield 15, 3) := by decide +kernel
theorem dW_subtractDivisor_30 : decode cW_subtractDivisor 30 = .ok (.iload_n 3, 1) := by decide +kernel
theorem dW_subtractDivisor_31 : decode cW_subtractDivisor 31 = .ok (.lload 4, 2) := by decide +kernel
theorem dW_subtractDivisor_33 : decode cW_subtractDivisor 33 = .ok (.ldc2_w 38, 3) := by decide +kernel
theorem dW_subtractDivisor_36 : decode cW_subtractDivisor 36 = .ok (.land, 1) := by decide +kernel
theorem dW_subtractDivisor_37 : decode cW_subtractDivisor 37 = .ok (.lastore, 1) := by decide +kernel
theorem dW_subtractDivisor_38 : decode cW_subtractDivisor 38 = .ok (.lload 4, 2) := by decide +kernel
theorem dW_subtractDivisor_40 : decode cW_subtractDivisor 40 = .ok (.lconst 0, 1) := by decide +kernel
theorem dW_subtractDivisor_41 : decode cW_subtractDivisor 41 = .ok (.lcmp, 1) := by decide +kernel
theorem dW_subtractDivisor_42 : decode cW_subtractDivisor 42 = .ok (.ifCond .ge 7, 3) := by decide +kernel
theorem dW_subtractDivisor_45 : decode cW_subtractDivisor 45 = .ok (.lconst 1, 1) := by decide +kernel
theorem dW_subtractDivisor_46 : decode cW_subtractDivisor 46 = .ok (.goto 4, 3) := by decide +kernel
theorem dW_subtractDivisor_49 : decode cW_subtractDivisor 49 = .ok (.lconst 0, 1) := by decide +kernel
theorem dW_subtractDivisor_50 : decode cW_subtractDivisor 50 = .ok (.lstore_n 1, 1) := by decide +kernel
theorem dW_subtractDivisor_51 : decode cW_subtractDivisor 51 = .ok (.iinc 3 (-1), 3) := by decide +kernel
theorem dW_subtractDivisor_54 : decode cW_subtractDivisor 54 = .ok (.goto (-49), 3) := by decide +kernel
theorem dW_subtractDivisor_57 : decode cW_subtractDivisor 57 = .ok (.return_, 1) := by decide +kernel
theorem dW_divide_0 : decode cW_divide 0 = .ok (.aload_n 0, 1) := by decide +kernel
theorem dW_divide_1 : decode cW_divide 1 = .ok (.getfield 15, 3) := by decide +kernel
theorem dW_divide_4 : decode cW_divide 4 = .ok (.lconst 0, 1) := by decide +kernel
theorem dW_divide_5 : decode cW_divide 5 = .ok (.invokestatic 40, 3) := by decide +kernel
theorem dW_divide_8 : decode cW_divide 8 = .ok (.aload_n 0, 1) := by decide +kernel
theorem dW_divide_9 : decode cW_divide 9 = .ok (.getfield 18, 3) := by decide +kernel
theorem dW_divide_12 : decode cW_divide 12 = .ok (.lconst 0, 1) := by decide +kernel
theorem dW_divide_13 : decode cW_divide 13 = .ok (.invokestatic 40, 3) := by decide +kernel
theorem dW_divide_16 : decode cW_divide 16 = .ok (.iconst 0, 1) := by decide +kernel
theorem dW_divide_17 : decode cW_divide 17 = .ok (.aload_n 0, 1) := by decide +kernel
theorem dW_divide_18 : decode cW_divide 18 = .ok (.invokevirtual 46, 3) := by decide +kernel
theorem dW_divide_21 : decode cW_divide 21 = .ok (.iconst 2, 1) := by decide +kernel
theorem dW_divide_22 : decode cW_divide 22 = .ok (.isub, 1) := by decide +kernel
theorem dW_divide_23 : decode cW_divide 23 = .ok (.invokestatic 50, 3) := by decide +kernel
theorem dW_divide_26 : decode cW_divide 26 = .ok (.istore_n 1, 1) := by decide +kernel
theorem dW_divide_27 : decode cW_divide 27 = .ok (.aload_n 0, 1) := by decide +kernel
theorem dW_divide_28 : decode cW_divide 28 = .ok (.getfield 15, 3) := by decide +kernel
theorem dW_divide_31 : decode cW_divide 31 = .ok (.bipush 7, 2) := by decide +kernel
theorem dW_divide_33 : decode cW_divide 33 = .ok (.iload_n 1, 1) := by decide +kernel
theorem dW_divide_34 : decode cW_divide 34 = .ok (.bipush 32, 2) := by decide +kernel
theorem dW_divide_36 : decode cW_divide 36 = .ok (.idiv, 1) := by decide +kernel
theorem dW_divide_37 : decode cW_divide 37 = .ok (.isub, 1) := by decide +kernel
theorem dW_divide_38 : decode cW_divide 38 = .ok (.lconst 1, 1) := by decide +kernel
theorem dW_divide_39 : decode cW_divide 39 = .ok (.iload_n 1, 1) := by decide +kernel
theorem dW_divide_40 : decode cW_divide 40 = .ok (.bipush 32, 2) := by decide +kernel
theorem dW_divide_42 : decode cW_divide 42 = .ok (.irem, 1) := by decide +kernel
theorem dW_divide_43 : decode cW_divide 43 = .ok (.lshl, 1) := by decide +kernel
theorem dW_divide_44 : decode cW_divide 44 = .ok (.lastore, 1) := by decide +kernel
theorem dW_divide_45 : decode cW_divide 45 = .ok (.iload_n 1, 1) := by decide +kernel
theorem dW_divide_46 : decode cW_divide 46 = .ok (.istore_n 2, 1) := by decide +kernel
theorem dW_divide_47 : decode cW_divide 47 = .ok (.iload_n 2, 1) := by decide +kernel
theorem dW_divide_48 : decode cW_divide 48 = .ok (.sipush 256, 3) := by decide +kernel
theorem dW_divide_51 : decode cW_divide 51 = .ok (.if_icmp .ge 46, 3) := by decide +kernel
theorem dW_divide_54 : decode cW_divide 54 = .ok (.aload_n 0, 1) := by decide +kernel
theorem dW_divide_55 : decode cW_divide 55 = .ok (.getfield 15, 3) := by decide +kernel
theorem dW_divide_58 : decode cW_divide 58 = .ok (.lconst 0, 1) := by decide +kernel
theorem dW_divide_59 : decode cW_divide 59 = .ok (.invokestatic 56, 3) := by decide +kernel
theorem dW_divide_62 : decode cW_divide 62 = .ok (.aload_n 0, 1) := by decide +kernel
theorem dW_divide_63 : decode cW_divide 63 = .ok (.invokevirtual 59, 3) := by decide +kernel
theorem dW_divide_66 : decode cW_divide 66 = .ok (.istore_n 3, 1) := by decide +kernel
theorem dW_divide_67 : decode cW_divide 67 = .ok (.iload_n 3, 1) := by decide +kernel
theorem dW_divide_68 : decode cW_divide 68 = .ok (.ifCond .eq 7, 3) := by decide +kernel
theorem dW_divide_71 : decode cW_divide 71 = .ok (.aload_n 0, 1) := by decide +kernel
theorem dW_divide_72 : decode cW_divide 72 = .ok (.invokevirtual 63, 3) := by decide +kernel
theorem dW_divide_75 : decode cW_divide 75 = .ok (.aload_n 0, 1) := by decide +kernel
theorem dW_divide_76 : decode cW_divide 76 = .ok (.getfield 18, 3) := by decide +kernel
theorem dW_divide_79 : decode cW_divide 79 = .ok (.iload_n 3, 1) := by decide +kernel
theorem dW_divide_80 : decode cW_divide 80 = .ok (.ifCond .eq 7, 3) := by decide +kernel
theorem dW_divide_83 : decode cW_divide 83 = .ok (.lconst 1, 1) := by decide +kernel
theorem dW_divide_84 : decode cW_divide 84 = .ok (.goto 4, 3) := by decide +kernel
theorem dW_divide_87 : decode cW_divide 87 = .ok (.lconst 0, 1) := by decide +kernel
theorem dW_divide_88 : decode cW_divide 88 = .ok (.invokestatic 56, 3) := by decide +kernel
theorem dW_divide_91 : decode cW_divide 91 = .ok (.iinc 2 1, 3) := by decide +kernel
theorem dW_divide_94 : decode cW_divide 94 = .ok (.goto (-47), 3) := by decide +kernel
theorem dW_divide_97 : decode cW_divide 97 = .ok (.return_, 1) := by decide +kernel
theorem dW_ofBits_0 : decode cW_ofBits 0 = .ok (.lload_n 1, 1) := by decide +kernel
theorem dW_ofBits_1 : decode cW_ofBits 1 = .ok (.aload_n 0, 1) := by decide +kernel
theorem dW_ofBits_2 : decode cW_ofBits 2 = .ok (.getfield 23, 3) := by decide +kernel
theorem dW_ofBits_5 : decode cW_ofBits 5 = .ok (.lcmp, 1) := by decide +kernel
theorem dW_ofBits_6 : decode cW_ofBits 6 = .ok (.ifCond .eq 17, 3) := by decide +kernel
theorem dW_ofBits_9 : decode cW_ofBits 9 = .ok (.aload_n 0, 1) := by decide +kernel
theorem dW_ofBits_10 : decode cW_ofBits 10 = .ok (.lload_n 1, 1) := by decide +kernel
theorem dW_ofBits_11 : decode cW_ofBits 11 = .ok (.invokevirtual 27, 3) := by decide +kernel
theorem dW_ofBits_14 : decode cW_ofBits 14 = .ok (.aload_n 0, 1) := by decide +kernel
theorem dW_ofBits_15 : decode cW_ofBits 15 = .ok (.invokevirtual 31, 3) := by decide +kernel
theorem dW_ofBits_18 : decode cW_ofBits 18 = .ok (.aload_n 0, 1) := by decide +kernel
theorem dW_ofBits_19 : decode cW_ofBits 19 = .ok (.lload_n 1, 1) := by decide +kernel
theorem dW_ofBits_20 : decode cW_ofBits 20 = .ok (.putfield 23, 3) := by decide +kernel
theorem dW_ofBits_23 : decode cW_ofBits 23 = .ok (.aload_n 0, 1) := by decide +kernel
theorem dW_ofBits_24 : decode cW_ofBits 24 = .ok (.getfield 18, 3) := by decide +kernel
theorem dW_ofBits_27 : decode cW_ofBits 27 = .ok (.areturn, 1) := by decide +kernel
theorem dR_multiply_0 : decode cR_multiply 0 = .ok (.lconst 0, 1) := by decide +kernel
theorem dR_multiply_1 : decode cR_multiply 1 = .ok (.lstore 5, 2) := by decide +kernel
theorem dR_multiply_3 : decode cR_multiply 3 = .ok (.bipush 7, 2) := by decide +kernel
theorem dR_multiply_5 : decode cR_multiply 5 = .ok (.istore 7, 2) := by decide +kernel
theorem dR_multiply_7 : decode cR_multiply 7 = .ok (.iload 7, 2) := by decide +kernel
theorem dR_multiply_9 : decode cR_multiply 9 = .ok (.ifCond .lt 44, 3) := by decide +kernel
theorem dR_multiply_12 : decode cR_multiply 12 = .ok (.lload_n 1, 1) := by decide +kernel
theorem dR_multiply_13 : decode cR_multiply 13 = .ok (.iload 7, 2) := by decide +kernel
theorem dR_multiply_15 : decode cR_multiply 15 = .ok (.invokestatic 46, 3) := by decide +kernel
theorem dR_multiply_18 : decode cR_multiply 18 = .ok (.lload_n 3, 1) := by decide +kernel
theorem dR_multiply_19 : decode cR_multiply 19 = .ok (.lmul, 1) := by decide +kernel
theorem dR_multiply_20 : decode cR_multiply 20 = .ok (.lload 5, 2) := by decide +kernel
theorem dR_multiply_22 : decode cR_multiply 22 = .ok (.ladd, 1) := by decide +kernel
theorem dR_multiply_23 : decode cR_multiply 23 = .ok (.lstore 8, 2) := by decide +kernel
theorem dR_multiply_25 : decode cR_multiply 25 = .ok (.aload_n 0, 1) := by decide +kernel
theorem dR_multiply_26 : decode cR_multiply 26 = .ok (.getfield 9, 3) := by decide +kernel
theorem dR_multiply_29 : decode cR_multiply 29 = .ok (.iload 7, 2) := by decide +kernel
theorem dR_multiply_31 : decode cR_multiply 31 = .ok (.iconst 1, 1) := by decide +kernel
theorem dR_multiply_32 : decode cR_multiply 32 = .ok (.iadd, 1) := by decide +kernel
theorem dR_multiply_33 : decode cR_multiply 33 = .ok (.lload 8, 2) := by decide +kernel
theorem dR_multiply_35 : decode cR_multiply 35 = .ok (.ldc2_w 50, 3) := by decide +kernel
theorem dR_multiply_38 : decode cR_multiply 38 = .ok (.land, 1) := by decide +kernel
theorem dR_multiply_39 : decode cR_multiply 39 = .ok (.lastore, 1) := by decide +kernel
theorem dR_multiply_40 : decode cR_multiply 40 = .ok (.lload 8, 2) := by decide +kernel
theorem dR_multiply_42 : decode cR_multiply 42 = .ok (.bipush 32, 2) := by decide +kernel
theorem dR_multiply_44 : decode cR_multiply 44 = .ok (.lushr, 1) := by decide +kernel
theorem dR_multiply_45 : decode cR_multiply 45 = .ok (.lstore 5, 2) := by decide +kernel
theorem dR_multiply_47 : decode cR_multiply 47 = .ok (.iinc 7 (-1), 3) := by decide +kernel
theorem dR_multiply_50 : decode cR_multiply 50 = .ok (.goto (-43), 3) := by decide +kernel
theorem dR_multiply_53 : decode cR_multiply 53 = .ok (.aload_n 0, 1) := by decide +kernel
theorem dR_multiply_54 : decode cR_multiply 54 = .ok (.getfield 9, 3) := by decide +kernel
theorem dR_multiply_57 : decode cR_multiply 57 = .ok (.iconst 0, 1) := by decide +kernel
theorem dR_multiply_58 : decode cR_multiply 58 = .ok (.lload 5, 2) := by decide +kernel
theorem dR_multiply_60 : decode cR_multiply 60 = .ok (.lastore, 1) := by decide +kernel
theorem dR_multiply_61 : decode cR_multiply 61 = .ok (.return_, 1) := by decide +kernel
theorem dB_join_0 : decode cB_join 0 = .ok (.lload_n 0, 1) := by decide +kernel
theorem dB_join_1 : decode cB_join 1 = .ok (.bipush 32, 2) := by decide +kernel
theorem dB_join_3 : decode cB_join 3 = .ok (.lshl, 1) := by decide +kernel
theorem dB_join_4 : decode cB_join 4 = .ok (.lload_n 2, 1) := by decide +kernel
theorem dB_join_5 : decode cB_join 5 = .ok (.lor, 1) := by decide +kernel
theorem dB_join_6 : decode cB_join 6 = .ok (.lreturn, 1) := by decide +kernel
theorem dR_divide_0 : decode cR_divide 0 = .ok (.lconst 0, 1) := by decide +kernel
theorem dR_divide_1 : decode cR_divide 1 = .ok (.lstore_n 1, 1) := by decide +kernel
theorem dR_divide_2 : decode cR_divide 2 = .ok (.iconst 0, 1) := by decide +kernel
theorem dR_divide_3 : decode cR_divide 3 = .ok (.istore_n 3, 1) := by decide +kernel
theorem dR_divide_4 : decode cR_divide 4 = .ok (.iload_n 3, 1) := by decide +kernel
theorem dR_divide_5 : decode cR_divide 5 = .ok (.bipush 8, 2) := by decide +kernel
theorem dR_divide_7 : decode cR_divide 7 = .ok (.if_icmp .gt 40, 3) := by decide +kernel
theorem dR_divide_10 : decode cR_divide 10 = .ok (.lload_n 1, 1) := by decide +kernel
theorem dR_divide_11 : decode cR_divide 11 = .ok (.aload_n 0, 1) := by decide +kernel
theorem dR_divide_12 : decode cR_divide 12 = .ok (.getfield 9, 3) := by decide +kernel
theorem dR_divide_15 : decode cR_divide 15 = .ok (.iload_n 3, 1) := by decide +kernel
theorem dR_divide_16 : decode cR_divide 16 = .ok (.laload, 1) := by decide +kernel
theorem dR_divide_17 : decode cR_divide 17 = .ok (.invokestatic 35, 3) := by decide +kernel
theorem dR_divide_20 : decode cR_divide 20 = .ok (.lstore 4, 2) := by decide +kernel
theorem dR_divide_22 : decode cR_divide 22 = .ok (.aload_n 0, 1) := by decide +kernel
theorem dR_divide_23 : decode cR_divide 23 = .ok (.getfield 9, 3) := by decide +kernel
theorem dR_divide_26 : decode cR_divide 26 = .ok (.iload_n 3, 1) := by decide +kernel
theorem dR_divide_27 : decode cR_divide 27 = .ok (.lload 4, 2) := by decide +kernel
theorem dR_divide_29 : decode cR_divide 29 = .ok (.ldc2_w 52, 3) := by decide +kernel
theorem dR_divide_32 : decode cR_divide 32 = .ok (.ldiv, 1) := by decide +kernel
theorem dR_divide_33 : decode cR_divide 33 = .ok (.lastore, 1) := by decide +kernel
theorem dR_divide_34 : decode cR_divide 34 = .ok (.lload 4, 2) := by decide +kernel
theorem dR_divide_36 : decode cR_divide 36 = .ok (.ldc2_w 52, 3) := by decide +kernel
theorem dR_divide_39 : decode cR_divide 39 = .ok (.lrem, 1) := by decide +kernel
theorem dR_divide_40 : decode cR_divide 40 = .ok (.lstore_n 1, 1) := by decide +kernel
theorem dR_divide_41 : decode cR_divide 41 = .ok (.iinc 3 1, 3) := by decide +kernel
theorem dR_divide_44 : decode cR_divide 44 = .ok (.goto (-40), 3) := by decide +kernel
theorem dR_divide_47 : decode cR_divide 47 = .ok (.return_, 1) := by decide +kernel
theorem dB_byteAt_0 : decode cB_byteAt 0 = .ok (.iload 8, 2) := by decide +kernel
theorem dB_byteAt_2 : decode cB_byteAt 2 = .ok (.ifCond .ge 5, 3) := by decide +kernel
theorem dB_byteAt_5 : decode cB_byteAt 5 = .ok (.lconst 0, 1) := by decide +kernel
theorem dB_byteAt_6 : decode cB_byteAt 6 = .ok (.lreturn, 1) := by decide +kernel
theorem dB_byteAt_7 : decode cB_byteAt 7 = .ok (.iload 8, 2) := by decide +kernel
theorem dB_byteAt_9 : decode cB_byteAt 9 = .ok (.bipush 8, 2) := by decide +kernel
theorem dB_byteAt_11 : decode cB_byteAt 11 = .ok (.if_icmp .ge 8, 3) := by decide +kernel
theorem dB_byteAt_14 : decode cB_byteAt 14 = .ok (.lload 6, 2) := by decide +kernel
theorem dB_byteAt_16 : decode cB_byteAt 16 = .ok (.goto 27, 3) := by decide +kernel
theorem dB_byteAt_19 : decode cB_byteAt 19 = .ok (.iload 8, 2) := by decide +kernel
theorem dB_byteAt_21 : decode cB_byteAt 21 = .ok (.bipush 16, 2) := by decide +kernel
theorem dB_byteAt_23 : decode cB_byteAt 23 = .ok (.if_icmp .ge 8, 3) := by decide +kernel
theorem dB_byteAt_26 : decode cB_byteAt 26 = .ok (.lload 4, 2) := by decide +kernel
theorem dB_byteAt_28 : decode cB_byteAt 28 = .ok (.goto 15, 3) := by decide +kernel
theorem dB_byteAt_31 : decode cB_byteAt 31 = .ok (.iload 8, 2) := by decide +kernel
theorem dB_byteAt_33 : decode cB_byteAt 33 = .ok (.bipush 24, 2) := by decide +kernel
theorem dB_byteAt_35 : decode cB_byteAt 35 = .ok (.if_icmp .ge 7, 3) := by decide +kernel
theorem dB_byteAt_38 : decode cB_byteAt 38 = .ok (.lload_n 2, 1) := by decide +kernel
theorem dB_byteAt_39 : decode cB_byteAt 39 = .ok (.goto 4, 3) := by decide +kernel
theorem dB_byteAt_42 : decode cB_byteAt 42 = .ok (.lload_n 0, 1) := by decide +kernel
theorem dB_byteAt_43 : decode cB_byteAt 43 = .ok (.lstore 9, 2) := by decide +kernel
theorem dB_byteAt_45 : decode cB_byteAt 45 = .ok (.lload 9, 2) := by decide +kernel
theorem dB_byteAt_47 : decode cB_byteAt 47 = .ok (.bipush 8, 2) := by decide +kernel
theorem dB_byteAt_49 : decode cB_byteAt 49 = .ok (.iload 8, 2) := by decide +kernel
theorem dB_byteAt_51 : decode cB_byteAt 51 = .ok (.bipush 8, 2) := by decide +kernel
theorem dB_byteAt_53 : decode cB_byteAt 53 = .ok (.irem, 1) := by decide +kernel
theorem dB_byteAt_54 : decode cB_byteAt 54 = .ok (.imul, 1) := by decide +kernel
theorem dB_byteAt_55 : decode cB_byteAt 55 = .ok (.lushr, 1) := by decide +kernel
theorem dB_byteAt_56 : decode cB_byteAt 56 = .ok (.ldc2_w 37, 3) := by decide +kernel
theorem dB_byteAt_59 : decode cB_byteAt 59 = .ok (.land, 1) := by decide +kernel
theorem dB_byteAt_60 : decode cB_byteAt 60 = .ok (.lreturn, 1) := by decide +kernel
theorem dB_shorten_0 : decode cB_shorten 0 = .ok (.bipush 32, 2) := by decide +kernel
theorem dB_shorten_2 : decode cB_shorten 2 = .ok (.istore 8, 2) := by decide +kernel
theorem dB_shorten_4 : decode cB_shorten 4 = .ok (.iload 8, 2) := by decide +kernel
theorem dB_shorten_6 : decode cB_shorten 6 = .ok (.ifCond .le 27, 3) := by decide +kernel
theorem dB_shorten_9 : decode cB_shorten 9 = .ok (.lload_n 0, 1) := by decide +kernel
theorem dB_shorten_10 : decode cB_shorten 10 = .ok (.lload_n 2, 1) := by decide +kernel
theorem dB_shorten_11 : decode cB_shorten 11 = .ok (.lload 4, 2) := by decide +kernel
theorem dB_shorten_13 : decode cB_shorten 13 = .ok (.lload 6, 2) := by decide +kernel
theorem dB_shorten_15 : decode cB_shorten 15 = .ok (.iload 8, 2) := by decide +kernel
theorem dB_shorten_17 : decode cB_shorten 17 = .ok (.iconst 1, 1) := by decide +kernel
theorem dB_shorten_18 : decode cB_shorten 18 = .ok (.isub, 1) := by decide +kernel
theorem dB_shorten_19 : decode cB_shorten 19 = .ok (.invokestatic 33, 3) := by decide +kernel
theorem dB_shorten_22 : decode cB_shorten 22 = .ok (.lconst 0, 1) := by decide +kernel
theorem dB_shorten_23 : decode cB_shorten 23 = .ok (.lcmp, 1) := by decide +kernel
theorem dB_shorten_24 : decode cB_shorten 24 = .ok (.ifCond .ne 9, 3) := by decide +kernel
theorem dB_shorten_27 : decode cB_shorten 27 = .ok (.iinc 8 (-1), 3) := by decide +kernel
theorem dB_shorten_30 : decode cB_shorten 30 = .ok (.goto (-26), 3) := by decide +kernel
theorem dB_shorten_33 : decode cB_shorten 33 = .ok (.lconst 0, 1) := by decide +kernel
theorem dB_shorten_34 : decode cB_shorten 34 = .ok (.lstore 9, 2) := by decide +kernel
theorem dB_shorten_36 : decode cB_shorten 36 = .ok (.iconst 1, 1) := by decide +kernel
theorem dB_shorten_37 : decode cB_shorten 37 = .ok (.istore 11, 2) := by decide +kernel
theorem dB_shorten_39 : decode cB_shorten 39 = .ok (.iload 11, 2) := by decide +kernel
theorem dB_shorten_41 : decode cB_shorten 41 = .ok (.iconst 3, 1) := by decide +kernel
theorem dB_shorten_42 : decode cB_shorten 42 = .ok (.if_icmp .gt 31, 3) := by decide +kernel
theorem dB_shorten_45 : decode cB_shorten 45 = .ok (.lload 9, 2) := by decide +kernel
theorem dB_shorten_47 : decode cB_shorten 47 = .ok (.bipush 8, 2) := by decide +kernel
theorem dB_shorten_49 : decode cB_shorten 49 = .ok (.lshl, 1) := by decide +kernel
theorem dB_shorten_50 : decode cB_shorten 50 = .ok (.lload_n 0, 1) := by decide +kernel
theorem dB_shorten_51 : decode cB_shorten 51 = .ok (.lload_n 2, 1) := by decide +kernel
theorem dB_shorten_52 : decode cB_shorten 52 = .ok (.lload 4, 2) := by decide +kernel
theorem dB_shorten_54 : decode cB_shorten 54 = .ok (.lload 6, 2) := by decide +kernel
theorem dB_shorten_56 : decode cB_shorten 56 = .ok (.iload 8, 2) := by decide +kernel
theorem dB_shorten_58 : decode cB_shorten 58 = .ok (.iload 11, 2) := by decide +kernel
theorem dB_shorten_60 : decode cB_shorten 60 = .ok (.isub, 1) := by decide +kernel
theorem dB_shorten_61 : decode cB_shorten 61 = .ok (.invokestatic 33, 3) := by decide +kernel
theorem dB_shorten_64 : decode cB_shorten 64 = .ok (.lor, 1) := by decide +kernel
theorem dB_shorten_65 : decode cB_shorten 65 = .ok (.lstore 9, 2) := by decide +kernel
theorem dB_shorten_67 : decode cB_shorten 67 = .ok (.iinc 11 1, 3) := by decide +kernel
theorem dB_shorten_70 : decode cB_shorten 70 = .ok (.goto (-31), 3) := by decide +kernel
theorem dB_shorten_73 : decode cB_shorten 73 = .ok (.lload 9, 2) := by decide +kernel
theorem dB_shorten_75 : decode cB_shorten 75 = .ok (.ldc2_w 13, 3) := by decide +kernel
theorem dB_shorten_78 : decode cB_shorten 78 = .ok (.land, 1) := by decide +kernel
theorem dB_shorten_79 : decode cB_shorten 79 = .ok (.lconst 0, 1) := by decide +kernel
theorem dB_shorten_80 : decode cB_shorten 80 = .ok (.lcmp, 1) := by decide +kernel
theorem dB_shorten_81 : decode cB_shorten 81 = .ok (.ifCond .eq 13, 3) := by decide +kernel
theorem dB_shorten_84 : decode cB_shorten 84 = .ok (.lload 9, 2) := by decide +kernel
theorem dB_shorten_86 : decode cB_shorten 86 = .ok (.bipush 8, 2) := by decide +kernel
theorem dB_shorten_88 : decode cB_shorten 88 = .ok (.lushr, 1) := by decide +kernel
theorem dB_shorten_89 : decode cB_shorten 89 = .ok (.lstore 9, 2) := by decide +kernel
theorem dB_shorten_91 : decode cB_shorten 91 = .ok (.iinc 8 1, 3) := by decide +kernel
theorem dB_shorten_94 : decode cB_shorten 94 = .ok (.iload 8, 2) := by decide +kernel
theorem dB_shorten_96 : decode cB_shorten 96 = .ok (.i2l, 1) := by decide +kernel
theorem dB_shorten_97 : decode cB_shorten 97 = .ok (.bipush 24, 2) := by decide +kernel
theorem dB_shorten_99 : decode cB_shorten 99 = .ok (.lshl, 1) := by decide +kernel
theorem dB_shorten_100 : decode cB_shorten 100 = .ok (.lload 9, 2) := by decide +kernel
theorem dB_shorten_102 : decode cB_shorten 102 = .ok (.lor, 1) := by decide +kernel
theorem dB_shorten_103 : decode cB_shorten 103 = .ok (.lreturn, 1) := by decide +kernel
theorem dR_next_0 : decode cR_next 0 = .ok (.aload_n 0, 1) := by decide +kernel
theorem dR_next_1 : decode cR_next 1 = .ok (.lload_n 1, 1) := by decide +kernel
theorem dR_next_2 : decode cR_next 2 = .ok (.ldc2_w 15, 3) := by decide +kernel
theorem dR_next_5 : decode cR_next 5 = .ok (.ldc2_w 17, 3) := by decide +kernel
theorem dR_next_8 : decode cR_next 8 = .ok (.lload_n 3, 1) := by decide +kernel
theorem dR_next_9 : decode cR_next 9 = .ok (.invokestatic 19, 3) := by decide +kernel
theorem dR_next_12 : decode cR_next 12 = .ok (.invokestatic 25, 3) := by decide +kernel
theorem dR_next_15 : decode cR_next 15 = .ok (.invokevirtual 28, 3) := by decide +kernel
theorem dR_next_18 : decode cR_next 18 = .ok (.aload_n 0, 1) := by decide +kernel
theorem dR_next_19 : decode cR_next 19 = .ok (.invokevirtual 32, 3) := by decide +kernel
theorem dR_next_22 : decode cR_next 22 = .ok (.aload_n 0, 1) := by decide +kernel
theorem dR_next_23 : decode cR_next 23 = .ok (.getfield 9, 3) := by decide +kernel
theorem dR_next_26 : decode cR_next 26 = .ok (.iconst 1, 1) := by decide +kernel
theorem dR_next_27 : decode cR_next 27 = .ok (.laload, 1) := by decide +kernel
theorem dR_next_28 : decode cR_next 28 = .ok (.aload_n 0, 1) := by decide +kernel
theorem dR_next_29 : decode cR_next 29 = .ok (.getfield 9, 3) := by decide +kernel
theorem dR_next_32 : decode cR_next 32 = .ok (.iconst 2, 1) := by decide +kernel
theorem dR_next_33 : decode cR_next 33 = .ok (.laload, 1) := by decide +kernel
theorem dR_next_34 : decode cR_next 34 = .ok (.invokestatic 35, 3) := by decide +kernel
theorem dR_next_37 : decode cR_next 37 = .ok (.lstore 5, 2) := by decide +kernel
theorem dR_next_39 : decode cR_next 39 = .ok (.aload_n 0, 1) := by decide +kernel
theorem dR_next_40 : decode cR_next 40 = .ok (.getfield 9, 3) := by decide +kernel
theorem dR_next_43 : decode cR_next 43 = .ok (.iconst 0, 1) := by decide +kernel
theorem dR_next_44 : decode cR_next 44 = .ok (.laload, 1) := by decide +kernel
theorem dR_next_45 : decode cR_next 45 = .ok (.lconst 0, 1) := by decide +kernel
theorem dR_next_46 : decode cR_next 46 = .ok (.lcmp, 1) := by decide +kernel
theorem dR_next_47 : decode cR_next 47 = .ok (.ifCond .ne 19, 3) := by decide +kernel
theorem dR_next_50 : decode cR_next 50 = .ok (.lload 5, 2) := by decide +kernel
theorem dR_next_52 : decode cR_next 52 = .ok (.lconst 0, 1) := by decide +kernel
theorem dR_next_53 : decode cR_next 53 = .ok (.lcmp, 1) := by decide +kernel
theorem dR_next_54 : decode cR_next 54 = .ok (.ifCond .lt 12, 3) := by decide +kernel
theorem dR_next_57 : decode cR_next 57 = .ok (.lload 5, 2) := by decide +kernel
theorem dR_next_59 : decode cR_next 59 = .ok (.ldc2_w 38, 3) := by decide +kernel
theorem dR_next_62 : decode cR_next 62 = .ok (.lcmp, 1) := by decide +kernel
theorem dR_next_63 : decode cR_next 63 = .ok (.ifCond .lt 7, 3) := by decide +kernel
theorem dR_next_66 : decode cR_next 66 = .ok (.ldc2_w 40, 3) := by decide +kernel
theorem dR_next_69 : decode cR_next 69 = .ok (.lreturn, 1) := by decide +kernel
theorem dR_next_70 : decode cR_next 70 = .ok (.aload_n 0, 1) := by decide +kernel
theorem dR_next_71 : decode cR_next 71 = .ok (.getfield 9, 3) := by decide +kernel
theorem dR_next_74 : decode cR_next 74 = .ok (.iconst 3, 1) := by decide +kernel
theorem dR_next_75 : decode cR_next 75 = .ok (.laload, 1) := by decide +kernel
theorem dR_next_76 : decode cR_next 76 = .ok (.aload_n 0, 1) := by decide +kernel
theorem dR_next_77 : decode cR_next 77 = .ok (.getfield 9, 3) := by decide +kernel
theorem dR_next_80 : decode cR_next 80 = .ok (.iconst 4, 1) := by decide +kernel
theorem dR_next_81 : decode cR_next 81 = .ok (.laload, 1) := by decide +kernel
theorem dR_next_82 : decode cR_next 82 = .ok (.invokestatic 35, 3) := by decide +kernel
theorem dR_next_85 : decode cR_next 85 = .ok (.lstore 7, 2) := by decide +kernel
theorem dR_next_87 : decode cR_next 87 = .ok (.aload_n 0, 1) := by decide +kernel
theorem dR_next_88 : decode cR_next 88 = .ok (.getfield 9, 3) := by decide +kernel
theorem dR_next_91 : decode cR_next 91 = .ok (.iconst 5, 1) := by decide +kernel
theorem dR_next_92 : decode cR_next 92 = .ok (.laload, 1) := by decide +kernel
theorem dR_next_93 : decode cR_next 93 = .ok (.aload_n 0, 1) := by decide +kernel
theorem dR_next_94 : decode cR_next 94 = .ok (.getfield 9, 3) := by decide +kernel
theorem dR_next_97 : decode cR_next 97 = .ok (.bipush 6, 2) := by decide +kernel
theorem dR_next_99 : decode cR_next 99 = .ok (.laload, 1) := by decide +kernel
theorem dR_next_100 : decode cR_next 100 = .ok (.invokestatic 35, 3) := by decide +kernel
theorem dR_next_103 : decode cR_next 103 = .ok (.lstore 9, 2) := by decide +kernel
theorem dR_next_105 : decode cR_next 105 = .ok (.aload_n 0, 1) := by decide +kernel
theorem dR_next_106 : decode cR_next 106 = .ok (.getfield 9, 3) := by decide +kernel
theorem dR_next_109 : decode cR_next 109 = .ok (.bipush 7, 2) := by decide +kernel
theorem dR_next_111 : decode cR_next 111 = .ok (.laload, 1) := by decide +kernel
theorem dR_next_112 : decode cR_next 112 = .ok (.aload_n 0, 1) := by decide +kernel
theorem dR_next_113 : decode cR_next 113 = .ok (.getfield 9, 3) := by decide +kernel
theorem dR_next_116 : decode cR_next 116 = .ok (.bipush 8, 2) := by decide +kernel
theorem dR_next_118 : decode cR_next 118 = .ok (.laload, 1) := by decide +kernel
theorem dR_next_119 : decode cR_next 119 = .ok (.invokestatic 35, 3) := by decide +kernel
theorem dR_next_122 : decode cR_next 122 = .ok (.lstore 11, 2) := by decide +kernel
theorem dR_next_124 : decode cR_next 124 = .ok (.lload 5, 2) := by decide +kernel
theorem dR_next_126 : decode cR_next 126 = .ok (.lload 7, 2) := by decide +kernel
theorem dR_next_128 : decode cR_next 128 = .ok (.lload 9, 2) := by decide +kernel
theorem dR_next_130 : decode cR_next 130 = .ok (.lload 11, 2) := by decide +kernel
theorem dR_next_132 : decode cR_next 132 = .ok (.invokestatic 42, 3) := by decide +kernel
theorem dR_next_135 : decode cR_next 135 = .ok (.lreturn, 1) := by decide +kernel
theorem dB_faultOf_0 : decode cB_faultOf 0 = .ok (.lload_n 0, 1) := by decide +kernel
theorem dB_faultOf_1 : decode cB_faultOf 1 = .ok (.lconst 0, 1) := by decide +kernel
theorem dB_faultOf_2 : decode cB_faultOf 2 = .ok (.lcmp, 1) := by decide +kernel
theorem dB_faultOf_3 : decode cB_faultOf 3 = .ok (.ifCond .lt 11, 3) := by decide +kernel
theorem dB_faultOf_6 : decode cB_faultOf 6 = .ok (.lload_n 0, 1) := by decide +kernel
theorem dB_faultOf_7 : decode cB_faultOf 7 = .ok (.ldc2_w 9, 3) := by decide +kernel
theorem dB_faultOf_10 : decode cB_faultOf 10 = .ok (.lcmp, 1) := by decide +kernel
theorem dB_faultOf_11 : decode cB_faultOf 11 = .ok (.ifCond .le 5, 3) := by decide +kernel
theorem dB_faultOf_14 : decode cB_faultOf 14 = .ok (.iconst (-1), 1) := by decide +kernel
theorem dB_faultOf_15 : decode cB_faultOf 15 = .ok (.ireturn, 1) := by decide +kernel
theorem dB_faultOf_16 : decode cB_faultOf 16 = .ok (.lload_n 0, 1) := by decide +kernel
theorem dB_faultOf_17 : decode cB_faultOf 17 = .ok (.ldc2_w 11, 3) := by decide +kernel
theorem dB_faultOf_20 : decode cB_faultOf 20 = .ok (.land, 1) := by decide +kernel
theorem dB_faultOf_21 : decode cB_faultOf 21 = .ok (.lstore_n 2, 1) := by decide +kernel
theorem dB_faultOf_22 : decode cB_faultOf 22 = .ok (.lload_n 0, 1) := by decide +kernel
theorem dB_faultOf_23 : decode cB_faultOf 23 = .ok (.ldc2_w 13, 3) := by decide +kernel
theorem dB_faultOf_26 : decode cB_faultOf 26 = .ok (.land, 1) := by decide +kernel
theorem dB_faultOf_27 : decode cB_faultOf 27 = .ok (.lconst 0, 1) := by decide +kernel
theorem dB_faultOf_28 : decode cB_faultOf 28 = .ok (.lcmp, 1) := by decide +kernel
theorem dB_faultOf_29 : decode cB_faultOf 29 = .ok (.ifCond .eq 11, 3) := by decide +kernel
theorem dB_faultOf_32 : decode cB_faultOf 32 = .ok (.lload_n 2, 1) := by decide +kernel
theorem dB_faultOf_33 : decode cB_faultOf 33 = .ok (.lconst 0, 1) := by decide +kernel
theorem dB_faultOf_34 : decode cB_faultOf 34 = .ok (.lcmp, 1) := by decide +kernel
theorem dB_faultOf_35 : decode cB_faultOf 35 = .ok (.ifCond .eq 5, 3) := by decide +kernel
theorem dB_faultOf_38 : decode cB_faultOf 38 = .ok (.iconst 1, 1) := by decide +kernel
theorem dB_faultOf_39 : decode cB_faultOf 39 = .ok (.ireturn, 1) := by decide +kernel
theorem dB_faultOf_40 : decode cB_faultOf 40 = .ok (.lload_n 0, 1) := by decide +kernel
theorem dB_faultOf_41 : decode cB_faultOf 41 = .ok (.invokestatic 15, 3) := by decide +kernel
theorem dB_faultOf_44 : decode cB_faultOf 44 = .ok (.istore 4, 2) := by decide +kernel
theorem dB_faultOf_46 : decode cB_faultOf 46 = .ok (.lload_n 2, 1) := by decide +kernel
theorem dB_faultOf_47 : decode cB_faultOf 47 = .ok (.lconst 0, 1) := by decide +kernel
theorem dB_faultOf_48 : decode cB_faultOf 48 = .ok (.lcmp, 1) := by decide +kernel
theorem dB_faultOf_49 : decode cB_faultOf 49 = .ok (.ifCond .eq 18, 3) := by decide +kernel
theorem dB_faultOf_52 : decode cB_faultOf 52 = .ok (.iload 4, 2) := by decide +kernel
theorem dB_faultOf_54 : decode cB_faultOf 54 = .ok (.ifCond .ge 15, 3) := by decide +kernel
theorem dB_faultOf_57 : decode cB_faultOf 57 = .ok (.lload_n 2, 1) := by decide +kernel
theorem dB_faultOf_58 : decode cB_faultOf 58 = .ok (.iload 4, 2) := by decide +kernel
theorem dB_faultOf_60 : decode cB_faultOf 60 = .ok (.ineg, 1) := by decide +kernel
theorem dB_faultOf_61 : decode cB_faultOf 61 = .ok (.lushr, 1) := by decide +kernel
theorem dB_faultOf_62 : decode cB_faultOf 62 = .ok (.lconst 0, 1) := by decide +kernel
theorem dB_faultOf_63 : decode cB_faultOf 63 = .ok (.lcmp, 1) := by decide +kernel
theorem dB_faultOf_64 : decode cB_faultOf 64 = .ok (.ifCond .ne 5, 3) := by decide +kernel
theorem dB_faultOf_67 : decode cB_faultOf 67 = .ok (.iconst 2, 1) := by decide +kernel
theorem dB_faultOf_68 : decode cB_faultOf 68 = .ok (.ireturn, 1) := by decide +kernel
theorem dB_faultOf_69 : decode cB_faultOf 69 = .ok (.iload 4, 2) := by decide +kernel
theorem dB_faultOf_71 : decode cB_faultOf 71 = .ok (.lload_n 2, 1) := by decide +kernel
theorem dB_faultOf_72 : decode cB_faultOf 72 = .ok (.invokestatic 19, 3) := by decide +kernel
theorem dB_faultOf_75 : decode cB_faultOf 75 = .ok (.iadd, 1) := by decide +kernel
theorem dB_faultOf_76 : decode cB_faultOf 76 = .ok (.sipush 256, 3) := by decide +kernel
theorem dB_faultOf_79 : decode cB_faultOf 79 = .ok (.if_icmp .le 5, 3) := by decide +kernel
theorem dB_faultOf_82 : decode cB_faultOf 82 = .ok (.iconst 3, 1) := by decide +kernel
theorem dB_faultOf_83 : decode cB_faultOf 83 = .ok (.ireturn, 1) := by decide +kernel
theorem dB_faultOf_84 : decode cB_faultOf 84 = .ok (.lload_n 0, 1) := by decide +kernel
theorem dB_faultOf_85 : decode cB_faultOf 85 = .ok (.iconst 0, 1) := by decide +kernel
theorem dB_faultOf_86 : decode cB_faultOf 86 = .ok (.invokestatic 22, 3) := by decide +kernel
theorem dB_faultOf_89 : decode cB_faultOf 89 = .ok (.lstore 5, 2) := by decide +kernel
theorem dB_faultOf_91 : decode cB_faultOf 91 = .ok (.lload 5, 2) := by decide +kernel
theorem dB_faultOf_93 : decode cB_faultOf 93 = .ok (.lconst 0, 1) := by decide +kernel
theorem dB_faultOf_94 : decode cB_faultOf 94 = .ok (.lcmp, 1) := by decide +kernel
theorem dB_faultOf_95 : decode cB_faultOf 95 = .ok (.ifCond .lt 12, 3) := by decide +kernel
theorem dB_faultOf_98 : decode cB_faultOf 98 = .ok (.lload 5, 2) := by decide +kernel
theorem dB_faultOf_100 : decode cB_faultOf 100 = .ok (.ldc2_w 26, 3) := by decide +kernel
theorem dB_faultOf_103 : decode cB_faultOf 103 = .ok (.lcmp, 1) := by decide +kernel
theorem dB_faultOf_104 : decode cB_faultOf 104 = .ok (.ifCond .le 7, 3) := by decide +kernel
theorem dB_faultOf_107 : decode cB_faultOf 107 = .ok (.iconst 4, 1) := by decide +kernel
theorem dB_faultOf_108 : decode cB_faultOf 108 = .ok (.goto 4, 3) := by decide +kernel
theorem dB_faultOf_111 : decode cB_faultOf 111 = .ok (.iconst 0, 1) := by decide +kernel
theorem dB_faultOf_112 : decode cB_faultOf 112 = .ok (.ireturn, 1) := by decide +kernel
end
section
theorem iT_init_R : ∀ w ∈ uR, w ∈ wT_init := by decide +kernel
theorem iT_init_W : ∀ w ∈ uW, w ∈ wT_init := by decide +kernel
theorem iT_init_T : ∀ w ∈ uT, w ∈ wT_init := by decide +kernel
set_option maxRecDepth 20000 in
theorem ggT_init_R_init : GoodIn wT_init wR_init := goodIn_q _ [37, 38, 2, 3, 9, 39, 104] (by decide +kernel) (by decide +kernel)
set_option maxRecDepth 20000 in
theorem ggT_init_W_init : GoodIn wT_init wW_init := goodIn_q _ [40, 41, 2, 3, 9, 42, 43, 44, 45, 46, 105, 106, 107, 108] (by decide +kernel) (by decide +kernel)
set_option maxRecDepth 20000 in
theorem ggT_init_W_ofBits : GoodIn wT_init wW_ofBits := goodIn_q _ [47, 46, 48, 49, 50, 23, 51, 52, 53, 44, 54, 55, 56, 57, 42, 58, 59, 60, 61, 62, 63, 64, 65, 66, 67, 68, 43, 69, 70, 71, 72, 73, 74, 75, 76, 77, 78, 79, 80, 81, 82, 83, 84, 85, 86, 87, 88, 89, 90, 91, 92, 93, 94, 95, 96, 97, 98, 99, 100, 101, 102, 103, 105, 106, 107, 108] (by decide +kernel) (by decide +kernel)
set_option maxRecDepth 20000 in
theorem gT_init_W_ofBits_60 : GoodIn wT_init (wsV RT 60 RW yW_ofBits wW_ofBits) := goodIn_pp (goodIn_of _ (by decide +kernel)) ggT_init_W_ofBits
theorem iT_isBlock_T : ∀ w ∈ uT, w ∈ wT_isBlock := by decide +kernel
theorem iT_ancestor_T : ∀ w ∈ uT, w ∈ wT_ancestor := by decide +kernel
theorem iT_must_R : ∀ w ∈ uR, w ∈ wT_must := by decide +kernel
theorem iT_must_T : ∀ w ∈ uT, w ∈ wT_must := by decide +kernel
set_option maxRecDepth 20000 in
theorem ggT_must_T_isBlock : GoodIn wT_must wT_isBlock := goodIn_q _ [17, 18, 68, 69, 70, 71, 72, 73, 74, 75, 76, 77, 78, 79, 80] (by decide +kernel) (by decide +kernel)
set_option maxRecDepth 20000 in
theorem gT_must_T_isBlock_76 : GoodIn wT_must (wsV RT 76 RT yT_isBlock wT_isBlock) := goodIn_pp (goodIn_of _ (by decide +kernel)) ggT_must_T_isBlock
set_option maxRecDepth 20000 in
theorem ggT_must_T_ancestor : GoodIn wT_must wT_ancestor := goodIn_q _ [19, 6, 20, 68, 69, 70, 71, 72, 73, 74, 75, 76, 77, 78, 79, 80] (by decide +kernel) (by decide +kernel)
set_option maxRecDepth 20000 in
theorem gT_must_T_ancestor_101 : GoodIn wT_must (wsV RT 101 RT yT_ancestor wT_ancestor) := goodIn_pp (goodIn_of _ (by decide +kernel)) ggT_must_T_ancestor
set_option maxRecDepth 20000 in
theorem ggT_must_R_next : GoodIn wT_must wR_next := goodIn_q _ [21, 22, 23, 24, 25, 26, 27, 28, 29, 30, 31, 32, 33, 16, 34, 35, 36, 37, 38, 39, 40, 41, 42, 43, 44, 45, 46, 47, 48, 49, 50, 51, 52, 53, 54, 55, 56, 57, 58, 59, 60, 61, 62, 63, 64, 65, 66, 67] (by decide +kernel) (by decide +kernel)
set_option maxRecDepth 20000 in
theorem gT_must_R_next_105 : GoodIn wT_must (wsV RT 105 RR yR_next wR_next) := goodIn_pp (goodIn_of _ (by decide +kernel)) ggT_must_R_next
theorem iT_rank_T : ∀ w ∈ uT, w ∈ wT_rank := by decide +kernel
theorem iT_median_T : ∀ w ∈ uT, w ∈ wT_median := by decide +kernel
set_option maxRecDepth 20000 in
theorem ggT_median_T_isBlock : GoodIn wT_median wT_isBlock := goodIn_q _ [12, 13, 15, 16, 17, 18, 19, 20, 21, 22, 23, 24, 25, 26, 27] (by decide +kernel) (by decide +kernel)
set_option maxRecDepth 20000 in
theorem gT_median_T_isBlock_76 : GoodIn wT_median (wsV RT 76 RT yT_isBlock wT_isBlock) := goodIn_pp (goodIn_of _ (by decide +kernel)) ggT_median_T_isBlock
set_option maxRecDepth 20000 in
theorem ggT_median_T_rank : GoodIn wT_median wT_rank := goodIn_q _ [14, 11, 15, 16, 17, 18, 19, 20, 21, 22, 23, 24, 25, 26, 27] (by decide +kernel) (by decide +kernel)
set_option maxRecDepth 20000 in
theorem gT_median_T_rank_109 : GoodIn wT_median (wsV RT 109 RT yT_rank wT_rank) := goodIn_pp (goodIn_of _ (by decide +kernel)) ggT_median_T_rank
theorem iT_sumWork_T : ∀ w ∈ uT, w ∈ wT_sumWork := by decide +kernel
theorem iT_compareWorks_T : ∀ w ∈ uT, w ∈ wT_compareWorks := by decide +kernel
theorem iT_append_W : ∀ w ∈ uW, w ∈ wT_append := by decide +kernel
theorem iT_append_T : ∀ w ∈ uT, w ∈ wT_append := by decide +kernel
set_option maxRecDepth 20000 in
theorem ggT_append_W_ofBits : GoodIn wT_append wW_ofBits := goodIn_q _ [20, 21, 22, 23, 24, 11, 25, 26, 27, 28, 29, 30, 31, 32, 33, 34, 35, 36, 37, 38, 39, 40, 41, 42, 43, 44, 45, 46, 47, 48, 49, 50, 51, 52, 53, 54, 55, 56, 57, 58, 59, 60, 61, 62, 63, 64, 65, 66, 67, 68, 69, 70, 71, 72, 73, 74, 75, 76, 77, 78, 79, 80, 85, 86, 87, 88] (by decide +kernel) (by decide +kernel)
set_option maxRecDepth 20000 in
theorem gT_append_W_ofBits_60 : GoodIn wT_append (wsV RT 60 RW yW_ofBits wW_ofBits) := goodIn_pp (goodIn_of _ (by decide +kernel)) ggT_append_W_ofBits
set_option maxRecDepth 20000 in
theorem ggT_append_T_sumWork : GoodIn wT_append wT_sumWork := goodIn_q _ [81, 82, 83, 89, 90, 91, 92, 93, 94, 95, 96, 97, 98, 99, 100, 101] (by decide +kernel) (by decide +kernel)
set_option maxRecDepth 20000 in
theorem gT_append_T_sumWork_136 : GoodIn wT_append (wsV RT 136 RT yT_sumWork wT_sumWork) := goodIn_pp (goodIn_of _ (by decide +kernel)) ggT_append_T_sumWork
set_option maxRecDepth 20000 in
theorem ggT_append_T_compareWorks : GoodIn wT_append wT_compareWorks := goodIn_q _ [84, 82, 89, 90, 91, 92, 93, 94, 95, 96, 97, 98, 99, 100, 101] (by decide +kernel) (by decide +kernel)
set_option maxRecDepth 20000 in
theorem gT_append_T_compareWorks_116 : GoodIn wT_append (wsV RT 116 RT yT_compareWorks wT_compareWorks) := goodIn_pp (goodIn_of _ (by decide +kernel)) ggT_append_T_compareWorks
theorem iT_add_R : ∀ w ∈ uR, w ∈ wT_add := by decide +kernel
theorem iT_add_W : ∀ w ∈ uW, w ∈ wT_add := by decide +kernel
theorem iT_add_T : ∀ w ∈ uT, w ∈ wT_add := by decide +kernel
set_option maxRecDepth 20000 in
theorem ggT_add_T_isBlock : GoodIn wT_add wT_isBlock := goodIn_q _ [18, 13, 157, 158, 159, 160, 161, 162, 163, 164, 165, 166, 167, 168, 169] (by decide +kernel) (by decide +kernel)
set_option maxRecDepth 20000 in
theorem gT_add_T_isBlock_76 : GoodIn wT_add (wsV RT 76 RT yT_isBlock wT_isBlock) := goodIn_pp (goodIn_of _ (by decide +kernel)) ggT_add_T_isBlock
set_option maxRecDepth 20000 in
theorem ggT_add_T_must : GoodIn wT_add wT_must := goodIn_q _ [19, 1, 2, 3, 4, 20, 21, 22, 23, 24, 25, 26, 27, 28, 29, 30, 31, 18, 13, 32, 33, 34, 35, 36, 37, 38, 39, 40, 41, 42, 43, 44, 45, 46, 47, 48, 49, 50, 51, 52, 53, 54, 55, 56, 57, 58, 59, 60, 61, 62, 63, 64, 65, 66, 67, 68, 69, 70, 71, 72, 73, 74, 75, 76, 77, 78, 79, 152, 157, 158, 159, 160, 161, 162, 163, 164, 165, 166, 167, 168, 169] (by decide +kernel) (by decide +kernel)
set_option maxRecDepth 20000 in
theorem gT_add_T_must_80 : GoodIn wT_add (wsV RT 80 RT yT_must wT_must) := goodIn_pp (goodIn_of _ (by decide +kernel)) ggT_add_T_must
set_option maxRecDepth 20000 in
theorem ggT_add_T_median : GoodIn wT_add wT_median := goodIn_q _ [80, 1, 2, 3, 4, 20, 27, 81, 82, 83, 33, 84, 18, 13, 85, 157, 158, 159, 160, 161, 162, 163, 164, 165, 166, 167, 168, 169] (by decide +kernel) (by decide +kernel)
set_option maxRecDepth 20000 in
theorem gT_add_T_median_84 : GoodIn wT_add (wsV RT 84 RT yT_median wT_median) := goodIn_pp (goodIn_of _ (by decide +kernel)) ggT_add_T_median
set_option maxRecDepth 20000 in
theorem ggT_add_T_append : GoodIn wT_add wT_append := goodIn_q _ [86, 13, 33, 21, 27, 22, 87, 88, 89, 90, 91, 92, 93, 94, 95, 4, 96, 97, 98, 99, 100, 101, 102, 103, 104, 105, 106, 107, 108, 109, 110, 60, 53, 111, 112, 62, 63, 64, 65, 66, 67, 68, 69, 70, 113, 114, 115, 116, 117, 118, 119, 120, 121, 122, 39, 123, 124, 125, 126, 127, 128, 129, 130, 131, 132, 133, 134, 135, 136, 137, 138, 139, 140, 141, 142, 143, 144, 145, 146, 147, 148, 149, 150, 12, 151, 153, 154, 155, 156, 157, 158, 159, 160, 161, 162, 163, 164, 165, 166, 167, 168, 169] (by decide +kernel) (by decide +kernel)
set_option maxRecDepth 20000 in
theorem gT_add_T_append_87 : GoodIn wT_add (wsV RT 87 RT yT_append wT_append) := goodIn_pp (goodIn_of _ (by decide +kernel)) ggT_add_T_append
theorem iT_spoilBehind_T : ∀ w ∈ uT, w ∈ wT_spoilBehind := by decide +kernel
theorem iT_findBest_T : ∀ w ∈ uT, w ∈ wT_findBest := by decide +kernel
set_option maxRecDepth 20000 in
theorem ggT_findBest_T_compareWorks : GoodIn wT_findBest wT_compareWorks := goodIn_q _ [7, 8, 9, 10, 11, 12, 13, 14, 15, 16, 17, 18, 19, 20, 21] (by decide +kernel) (by decide +kernel)
set_option maxRecDepth 20000 in
theorem gT_findBest_T_compareWorks_116 : GoodIn wT_findBest (wsV RT 116 RT yT_compareWorks wT_compareWorks) := goodIn_pp (goodIn_of _ (by decide +kernel)) ggT_findBest_T_compareWorks
theorem iT_spoil_T : ∀ w ∈ uT, w ∈ wT_spoil := by decide +kernel
set_option maxRecDepth 20000 in
theorem ggT_spoil_T_isBlock : GoodIn wT_spoil wT_isBlock := goodIn_q _ [13, 14, 23, 24, 25, 26, 27, 28, 29, 30, 31, 32, 33, 34, 35] (by decide +kernel) (by decide +kernel)
set_option maxRecDepth 20000 in
theorem gT_spoil_T_isBlock_76 : GoodIn wT_spoil (wsV RT 76 RT yT_isBlock wT_isBlock) := goodIn_pp (goodIn_of _ (by decide +kernel)) ggT_spoil_T_isBlock
set_option maxRecDepth 20000 in
theorem ggT_spoil_T_spoilBehind : GoodIn wT_spoil wT_spoilBehind := goodIn_q _ [15, 14, 5, 16, 23, 24, 25, 26, 27, 28, 29, 30, 31, 32, 33, 34, 35] (by decide +kernel) (by decide +kernel)
set_option maxRecDepth 20000 in
theorem gT_spoil_T_spoilBehind_91 : GoodIn wT_spoil (wsV RT 91 RT yT_spoilBehind wT_spoilBehind) := goodIn_pp (goodIn_of _ (by decide +kernel)) ggT_spoil_T_spoilBehind
set_option maxRecDepth 20000 in
theorem ggT_spoil_T_findBest : GoodIn wT_spoil wT_findBest := goodIn_q _ [17, 14, 5, 18, 19, 20, 4, 21, 22, 23, 24, 25, 26, 27, 28, 29, 30, 31, 32, 33, 34, 35] (by decide +kernel) (by decide +kernel)
set_option maxRecDepth 20000 in
theorem gT_spoil_T_findBest_95 : GoodIn wT_spoil (wsV RT 95 RT yT_findBest wT_findBest) := goodIn_pp (goodIn_of _ (by decide +kernel)) ggT_spoil_T_findBest
theorem iT_look_T : ∀ w ∈ uT, w ∈ wT_look := by decide +kernel
set_option maxRecDepth 20000 in
theorem ggT_look_T_isBlock : GoodIn wT_look wT_isBlock := goodIn_q _ [12, 13, 14, 15, 16, 17, 18, 19, 20, 21, 22, 23, 24, 25, 26] (by decide +kernel) (by decide +kernel)
set_option maxRecDepth 20000 in
theorem gT_look_T_isBlock_76 : GoodIn wT_look (wsV RT 76 RT yT_isBlock wT_isBlock) := goodIn_pp (goodIn_of _ (by decide +kernel)) ggT_look_T_isBlock
theorem iT_work_T : ∀ w ∈ uT, w ∈ wT_work := by decide +kernel
set_option maxRecDepth 20000 in
theorem ggT_work_T_isBlock : GoodIn wT_work wT_isBlock := goodIn_q _ [9, 10, 12, 13, 14, 15, 16, 17, 18, 19, 20, 21, 22, 23, 24] (by decide +kernel) (by decide +kernel)
set_option maxRecDepth 20000 in
theorem gT_work_T_isBlock_76 : GoodIn wT_work (wsV RT 76 RT yT_isBlock wT_isBlock) := goodIn_pp (goodIn_of _ (by decide +kernel)) ggT_work_T_isBlock
set_option maxRecDepth 20000 in
theorem ggT_work_B_join : GoodIn wT_work wB_join := goodIn_q _ [11] (by decide +kernel) (by decide +kernel)
set_option maxRecDepth 20000 in
theorem gT_work_B_join_113 : GoodIn wT_work (va_wsS RT 113 yB_join wB_join) := goodIn_pp (goodIn_of _ (by decide +kernel)) ggT_work_B_join
theorem iT_compare_T : ∀ w ∈ uT, w ∈ wT_compare := by decide +kernel
set_option maxRecDepth 20000 in
theorem ggT_compare_T_isBlock : GoodIn wT_compare wT_isBlock := goodIn_q _ [8, 9, 12, 13, 14, 15, 16, 17, 18, 19, 20, 21, 22, 23, 24] (by decide +kernel) (by decide +kernel)
set_option maxRecDepth 20000 in
theorem gT_compare_T_isBlock_76 : GoodIn wT_compare (wsV RT 76 RT yT_isBlock wT_isBlock) := goodIn_pp (goodIn_of _ (by decide +kernel)) ggT_compare_T_isBlock
set_option maxRecDepth 20000 in
theorem ggT_compare_T_compareWorks : GoodIn wT_compare wT_compareWorks := goodIn_q _ [10, 11, 12, 13, 14, 15, 16, 17, 18, 19, 20, 21, 22, 23, 24] (by decide +kernel) (by decide +kernel)
set_option maxRecDepth 20000 in
theorem gT_compare_T_compareWorks_116 : GoodIn wT_compare (wsV RT 116 RT yT_compareWorks wT_compareWorks) := goodIn_pp (goodIn_of _ (by decide +kernel)) ggT_compare_T_compareWorks
theorem iT_tip_T : ∀ w ∈ uT, w ∈ wT_tip := by decide +kernel
theorem iT_size_T : ∀ w ∈ uT, w ∈ wT_size := by decide +kernel
theorem iT_below_T : ∀ w ∈ uT, w ∈ wT_below := by decide +kernel
set_option maxRecDepth 20000 in
theorem ggT_below_T_isBlock : GoodIn wT_below wT_isBlock := goodIn_q _ [9, 10, 13, 14, 15, 16, 17, 18, 19, 20, 21, 22, 23, 24, 25] (by decide +kernel) (by decide +kernel)
set_option maxRecDepth 20000 in
theorem gT_below_T_isBlock_76 : GoodIn wT_below (wsV RT 76 RT yT_isBlock wT_isBlock) := goodIn_pp (goodIn_of _ (by decide +kernel)) ggT_below_T_isBlock
set_option maxRecDepth 20000 in
theorem ggT_below_T_ancestor : GoodIn wT_below wT_ancestor := goodIn_q _ [11, 5, 12, 13, 14, 15, 16, 17, 18, 19, 20, 21, 22, 23, 24, 25] (by decide +kernel) (by decide +kernel)
set_option maxRecDepth 20000 in
theorem gT_below_T_ancestor_101 : GoodIn wT_below (wsV RT 101 RT yT_ancestor wT_ancestor) := goodIn_pp (goodIn_of _ (by decide +kernel)) ggT_below_T_ancestor
theorem iT_fork_T : ∀ w ∈ uT, w ∈ wT_fork := by decide +kernel
set_option maxRecDepth 20000 in
theorem ggT_fork_T_isBlock : GoodIn wT_fork wT_isBlock := goodIn_q _ [7, 5, 8, 9, 10, 11, 12, 13, 14, 15, 16, 17, 18, 19, 20] (by decide +kernel) (by decide +kernel)
set_option maxRecDepth 20000 in
theorem gT_fork_T_isBlock_76 : GoodIn wT_fork (wsV RT 76 RT yT_isBlock wT_isBlock) := goodIn_pp (goodIn_of _ (by decide +kernel)) ggT_fork_T_isBlock
theorem iT_row_T : ∀ w ∈ uT, w ∈ wT_row := by decide +kernel
set_option maxRecDepth 20000 in
theorem ggT_row_T_isBlock : GoodIn wT_row wT_isBlock := goodIn_q _ [13, 14, 17, 18, 19, 20, 21, 22, 23, 24, 25, 26, 27, 28, 29] (by decide +kernel) (by decide +kernel)
set_option maxRecDepth 20000 in
theorem gT_row_T_isBlock_76 : GoodIn wT_row (wsV RT 76 RT yT_isBlock wT_isBlock) := goodIn_pp (goodIn_of _ (by decide +kernel)) ggT_row_T_isBlock
set_option maxRecDepth 20000 in
theorem ggT_row_T_ancestor : GoodIn wT_row wT_ancestor := goodIn_q _ [15, 5, 16, 17, 18, 19, 20, 21, 22, 23, 24, 25, 26, 27, 28, 29] (by decide +kernel) (by decide +kernel)
set_option maxRecDepth 20000 in
theorem gT_row_T_ancestor_101 : GoodIn wT_row (wsV RT 101 RT yT_ancestor wT_ancestor) := goodIn_pp (goodIn_of _ (by decide +kernel)) ggT_row_T_ancestor
set_option maxRecDepth 20000 in
theorem ggT_fault_B_faultOf : GoodIn wT_fault wB_faultOf := goodIn_q _ [4, 5, 6, 7, 8, 9, 3, 10, 11, 12, 13, 14, 15, 16, 17, 18, 19, 20, 21, 22, 23, 24, 25, 26] (by decide +kernel) (by decide +kernel)
set_option maxRecDepth 20000 in
theorem gT_fault_B_faultOf_124 : GoodIn wT_fault (va_wsS RT 124 yB_faultOf wB_faultOf) := goodIn_pp (goodIn_of _ (by decide +kernel)) ggT_fault_B_faultOf
set_option maxRecDepth 20000 in
theorem ggT_target_B_faultOf : GoodIn wT_target wB_faultOf := goodIn_q _ [6, 7, 8, 9, 10, 11, 3, 12, 13, 14, 5, 15, 16, 17, 18, 19, 20, 21, 22, 23, 24, 25, 26, 27] (by decide +kernel) (by decide +kernel)
set_option maxRecDepth 20000 in
theorem gT_target_B_faultOf_124 : GoodIn wT_target (va_wsS RT 124 yB_faultOf wB_faultOf) := goodIn_pp (goodIn_of _ (by decide +kernel)) ggT_target_B_faultOf
set_option maxRecDepth 20000 in
theorem ggT_target_B_targetPart : GoodIn wT_target wB_targetPart := goodIn_q _ [27, 8, 10, 11, 3, 16] (by decide +kernel) (by decide +kernel)
set_option maxRecDepth 20000 in
theorem gT_target_B_targetPart_128 : GoodIn wT_target (va_wsS RT 128 yB_targetPart wB_targetPart) := goodIn_pp (goodIn_of _ (by decide +kernel)) ggT_target_B_targetPart
set_option maxRecDepth 20000 in
theorem ggT_compact_B_shorten : GoodIn wT_compact wB_shorten := goodIn_q _ [4, 5, 6, 3, 7, 8, 9] (by decide +kernel) (by decide +kernel)
set_option maxRecDepth 20000 in
theorem gT_compact_B_shorten_132 : GoodIn wT_compact (va_wsS RT 132 yB_shorten wB_shorten) := goodIn_pp (goodIn_of _ (by decide +kernel)) ggT_compact_B_shorten
theorem dT_init_0 : decode cT_init 0 = .ok (.aload_n 0, 1) := by decide +kernel
theorem dT_init_1 : decode cT_init 1 = .ok (.invokespecial 1, 3) := by decide +kernel
theorem dT_init_4 : decode cT_init 4 = .ok (.aload_n 0, 1) := by decide +kernel
theorem dT_init_5 : decode cT_init 5 = .ok (.iload_n 1, 1) := by decide +kernel
theorem dT_init_6 : decode cT_init 6 = .ok (.iconst 2, 1) := by decide +kernel
theorem dT_init_7 : decode cT_init 7 = .ok (.if_icmp .lt 14, 3) := by decide +kernel
theorem dT_init_10 : decode cT_init 10 = .ok (.iload_n 1, 1) := by decide +kernel
theorem dT_init_11 : decode cT_init 11 = .ok (.sipush 300, 3) := by decide +kernel
theorem dT_init_14 : decode cT_init 14 = .ok (.if_icmp .gt 7, 3) := by decide +kernel
theorem dT_init_17 : decode cT_init 17 = .ok (.iload_n 1, 1) := by decide +kernel
theorem dT_init_18 : decode cT_init 18 = .ok (.goto 5, 3) := by decide +kernel
theorem dT_init_21 : decode cT_init 21 = .ok (.bipush 100, 2) := by decide +kernel
theorem dT_init_23 : decode cT_init 23 = .ok (.putfield 9, 3) := by decide +kernel
theorem dT_init_26 : decode cT_init 26 = .ok (.aload_n 0, 1) := by decide +kernel
theorem dT_init_27 : decode cT_init 27 = .ok (.aload_n 0, 1) := by decide +kernel
theorem dT_init_28 : decode cT_init 28 = .ok (.getfield 9, 3) := by decide +kernel
theorem dT_init_31 : decode cT_init 31 = .ok (.newarray .int, 2) := by decide +kernel
theorem dT_init_33 : decode cT_init 33 = .ok (.putfield 13, 3) := by decide +kernel
theorem dT_init_36 : decode cT_init 36 = .ok (.aload_n 0, 1) := by decide +kernel
theorem dT_init_37 : decode cT_init 37 = .ok (.aload_n 0, 1) := by decide +kernel
theorem dT_init_38 : decode cT_init 38 = .ok (.getfield 9, 3) := by decide +kernel
theorem dT_init_41 : decode cT_init 41 = .ok (.newarray .int, 2) := by decide +kernel
theorem dT_init_43 : decode cT_init 43 = .ok (.putfield 17, 3) := by decide +kernel
theorem dT_init_46 : decode cT_init 46 = .ok (.aload_n 0, 1) := by decide +kernel
theorem dT_init_47 : decode cT_init 47 = .ok (.aload_n 0, 1) := by decide +kernel
theorem dT_init_48 : decode cT_init 48 = .ok (.getfield 9, 3) := by decide +kernel
theorem dT_init_51 : decode cT_init 51 = .ok (.newarray .int, 2) := by decide +kernel
theorem dT_init_53 : decode cT_init 53 = .ok (.putfield 20, 3) := by decide +kernel
theorem dT_init_56 : decode cT_init 56 = .ok (.aload_n 0, 1) := by decide +kernel
theorem dT_init_57 : decode cT_init 57 = .ok (.aload_n 0, 1) := by decide +kernel
theorem dT_init_58 : decode cT_init 58 = .ok (.getfield 9, 3) := by decide +kernel
theorem dT_init_61 : decode cT_init 61 = .ok (.newarray .long, 2) := by decide +kernel
theorem dT_init_63 : decode cT_init 63 = .ok (.putfield 23, 3) := by decide +kernel
theorem dT_init_66 : decode cT_init 66 = .ok (.aload_n 0, 1) := by decide +kernel
theorem dT_init_67 : decode cT_init 67 = .ok (.aload_n 0, 1) := by decide +kernel
theorem dT_init_68 : decode cT_init 68 = .ok (.getfield 9, 3) := by decide +kernel
theorem dT_init_71 : decode cT_init 71 = .ok (.newarray .long, 2) := by decide +kernel
theorem dT_init_73 : decode cT_init 73 = .ok (.putfield 27, 3) := by decide +kernel
theorem dT_init_76 : decode cT_init 76 = .ok (.aload_n 0, 1) := by decide +kernel
theorem dT_init_77 : decode cT_init 77 = .ok (.aload_n 0, 1) := by decide +kernel
theorem dT_init_78 : decode cT_init 78 = .ok (.getfield 9, 3) := by decide +kernel
theorem dT_init_81 : decode cT_init 81 = .ok (.newarray .boolean, 2) := by decide +kernel
theorem dT_init_83 : decode cT_init 83 = .ok (.putfield 30, 3) := by decide +kernel
theorem dT_init_86 : decode cT_init 86 = .ok (.aload_n 0, 1) := by decide +kernel
theorem dT_init_87 : decode cT_init 87 = .ok (.aload_n 0, 1) := by decide +kernel
theorem dT_init_88 : decode cT_init 88 = .ok (.getfield 9, 3) := by decide +kernel
theorem dT_init_91 : decode cT_init 91 = .ok (.bipush 8, 2) := by decide +kernel
theorem dT_init_93 : decode cT_init 93 = .ok (.imul, 1) := by decide +kernel
theorem dT_init_94 : decode cT_init 94 = .ok (.newarray .long, 2) := by decide +kernel
theorem dT_init_96 : decode cT_init 96 = .ok (.putfield 36, 3) := by decide +kernel
theorem dT_init_99 : decode cT_init 99 = .ok (.aload_n 0, 1) := by decide +kernel
theorem dT_init_100 : decode cT_init 100 = .ok (.bipush 11, 2) := by decide +kernel
theorem dT_init_102 : decode cT_init 102 = .ok (.newarray .long, 2) := by decide +kernel
theorem dT_init_104 : decode cT_init 104 = .ok (.putfield 39, 3) := by decide +kernel
theorem dT_init_107 : decode cT_init 107 = .ok (.aload_n 0, 1) := by decide +kernel
theorem dT_init_108 : decode cT_init 108 = .ok (.new 42, 3) := by decide +kernel
theorem dT_init_111 : decode cT_init 111 = .ok (.dup, 1) := by decide +kernel
theorem dT_init_112 : decode cT_init 112 = .ok (.invokespecial 44, 3) := by decide +kernel
theorem dT_init_115 : decode cT_init 115 = .ok (.putfield 45, 3) := by decide +kernel
theorem dT_init_118 : decode cT_init 118 = .ok (.aload_n 0, 1) := by decide +kernel
theorem dT_init_119 : decode cT_init 119 = .ok (.new 49, 3) := by decide +kernel
theorem dT_init_122 : decode cT_init 122 = .ok (.dup, 1) := by decide +kernel
theorem dT_init_123 : decode cT_init 123 = .ok (.invokespecial 51, 3) := by decide +kernel
theorem dT_init_126 : decode cT_init 126 = .ok (.putfield 52, 3) := by decide +kernel
theorem dT_init_129 : decode cT_init 129 = .ok (.aload_n 0, 1) := by decide +kernel
theorem dT_init_130 : decode cT_init 130 = .ok (.getfield 13, 3) := by decide +kernel
theorem dT_init_133 : decode cT_init 133 = .ok (.iconst 0, 1) := by decide +kernel
theorem dT_init_134 : decode cT_init 134 = .ok (.iconst (-1), 1) := by decide +kernel
theorem dT_init_135 : decode cT_init 135 = .ok (.iastore, 1) := by decide +kernel
theorem dT_init_136 : decode cT_init 136 = .ok (.aload_n 0, 1) := by decide +kernel
theorem dT_init_137 : decode cT_init 137 = .ok (.getfield 23, 3) := by decide +kernel
theorem dT_init_140 : decode cT_init 140 = .ok (.iconst 0, 1) := by decide +kernel
theorem dT_init_141 : decode cT_init 141 = .ok (.iload_n 2, 1) := by decide +kernel
theorem dT_init_142 : decode cT_init 142 = .ok (.i2l, 1) := by decide +kernel
theorem dT_init_143 : decode cT_init 143 = .ok (.ldc2_w 56, 3) := by decide +kernel
theorem dT_init_146 : decode cT_init 146 = .ok (.land, 1) := by decide +kernel
theorem dT_init_147 : decode cT_init 147 = .ok (.lastore, 1) := by decide +kernel
theorem dT_init_148 : decode cT_init 148 = .ok (.aload_n 0, 1) := by decide +kernel
theorem dT_init_149 : decode cT_init 149 = .ok (.getfield 27, 3) := by decide +kernel
theorem dT_init_152 : decode cT_init 152 = .ok (.iconst 0, 1) := by decide +kernel
theorem dT_init_153 : decode cT_init 153 = .ok (.ldc2_w 58, 3) := by decide +kernel
theorem dT_init_156 : decode cT_init 156 = .ok (.lastore, 1) := by decide +kernel
theorem dT_init_157 : decode cT_init 157 = .ok (.aload_n 0, 1) := by decide +kernel
theorem dT_init_158 : decode cT_init 158 = .ok (.getfield 52, 3) := by decide +kernel
theorem dT_init_161 : decode cT_init 161 = .ok (.ldc2_w 58, 3) := by decide +kernel
theorem dT_init_164 : decode cT_init 164 = .ok (.invokevirtual 60, 3) := by decide +kernel
theorem dT_init_167 : decode cT_init 167 = .ok (.iconst 0, 1) := by decide +kernel
theorem dT_init_168 : decode cT_init 168 = .ok (.aload_n 0, 1) := by decide +kernel
theorem dT_init_169 : decode cT_init 169 = .ok (.getfield 36, 3) := by decide +kernel
theorem dT_init_172 : decode cT_init 172 = .ok (.iconst 0, 1) := by decide +kernel
theorem dT_init_173 : decode cT_init 173 = .ok (.bipush 8, 2) := by decide +kernel
theorem dT_init_175 : decode cT_init 175 = .ok (.invokestatic 64, 3) := by decide +kernel
theorem dT_init_178 : decode cT_init 178 = .ok (.aload_n 0, 1) := by decide +kernel
theorem dT_init_179 : decode cT_init 179 = .ok (.iconst 1, 1) := by decide +kernel
theorem dT_init_180 : decode cT_init 180 = .ok (.putfield 70, 3) := by decide +kernel
theorem dT_init_183 : decode cT_init 183 = .ok (.aload_n 0, 1) := by decide +kernel
theorem dT_init_184 : decode cT_init 184 = .ok (.iconst 0, 1) := by decide +kernel
theorem dT_init_185 : decode cT_init 185 = .ok (.putfield 73, 3) := by decide +kernel
theorem dT_init_188 : decode cT_init 188 = .ok (.return_, 1) := by decide +kernel
theorem dT_isBlock_0 : decode cT_isBlock 0 = .ok (.iload_n 1, 1) := by decide +kernel
theorem dT_isBlock_1 : decode cT_isBlock 1 = .ok (.ifCond .lt 15, 3) := by decide +kernel
theorem dT_isBlock_4 : decode cT_isBlock 4 = .ok (.iload_n 1, 1) := by decide +kernel
theorem dT_isBlock_5 : decode cT_isBlock 5 = .ok (.aload_n 0, 1) := by decide +kernel
theorem dT_isBlock_6 : decode cT_isBlock 6 = .ok (.getfield 70, 3) := by decide +kernel
theorem dT_isBlock_9 : decode cT_isBlock 9 = .ok (.if_icmp .ge 7, 3) := by decide +kernel
theorem dT_isBlock_12 : decode cT_isBlock 12 = .ok (.iconst 1, 1) := by decide +kernel
theorem dT_isBlock_13 : decode cT_isBlock 13 = .ok (.goto 4, 3) := by decide +kernel
theorem dT_isBlock_16 : decode cT_isBlock 16 = .ok (.iconst 0, 1) := by decide +kernel
theorem dT_isBlock_17 : decode cT_isBlock 17 = .ok (.ireturn, 1) := by decide +kernel
theorem dT_ancestor_0 : decode cT_ancestor 0 = .ok (.iload_n 1, 1) := by decide +kernel
theorem dT_ancestor_1 : decode cT_ancestor 1 = .ok (.istore_n 3, 1) := by decide +kernel
theorem dT_ancestor_2 : decode cT_ancestor 2 = .ok (.aload_n 0, 1) := by decide +kernel
theorem dT_ancestor_3 : decode cT_ancestor 3 = .ok (.getfield 17, 3) := by decide +kernel
theorem dT_ancestor_6 : decode cT_ancestor 6 = .ok (.iload_n 1, 1) := by decide +kernel
theorem dT_ancestor_7 : decode cT_ancestor 7 = .ok (.iaload, 1) := by decide +kernel
theorem dT_ancestor_8 : decode cT_ancestor 8 = .ok (.iload_n 2, 1) := by decide +kernel
theorem dT_ancestor_9 : decode cT_ancestor 9 = .ok (.isub, 1) := by decide +kernel
theorem dT_ancestor_10 : decode cT_ancestor 10 = .ok (.istore 4, 2) := by decide +kernel
theorem dT_ancestor_12 : decode cT_ancestor 12 = .ok (.iload 4, 2) := by decide +kernel
theorem dT_ancestor_14 : decode cT_ancestor 14 = .ok (.ifCond .le 20, 3) := by decide +kernel
theorem dT_ancestor_17 : decode cT_ancestor 17 = .ok (.iload_n 3, 1) := by decide +kernel
theorem dT_ancestor_18 : decode cT_ancestor 18 = .ok (.ifCond .le 16, 3) := by decide +kernel
theorem dT_ancestor_21 : decode cT_ancestor 21 = .ok (.aload_n 0, 1) := by decide +kernel
theorem dT_ancestor_22 : decode cT_ancestor 22 = .ok (.getfield 13, 3) := by decide +kernel
theorem dT_ancestor_25 : decode cT_ancestor 25 = .ok (.iload_n 3, 1) := by decide +kernel
theorem dT_ancestor_26 : decode cT_ancestor 26 = .ok (.iaload, 1) := by decide +kernel
theorem dT_ancestor_27 : decode cT_ancestor 27 = .ok (.istore_n 3, 1) := by decide +kernel
theorem dT_ancestor_28 : decode cT_ancestor 28 = .ok (.iinc 4 (-1), 3) := by decide +kernel
theorem dT_ancestor_31 : decode cT_ancestor 31 = .ok (.goto (-19), 3) := by decide +kernel
theorem dT_ancestor_34 : decode cT_ancestor 34 = .ok (.iload_n 3, 1) := by decide +kernel
theorem dT_ancestor_35 : decode cT_ancestor 35 = .ok (.ireturn, 1) := by decide +kernel
theorem dT_must_0 : decode cT_must 0 = .ok (.aload_n 0, 1) := by decide +kernel
theorem dT_must_1 : decode cT_must 1 = .ok (.iload_n 1, 1) := by decide +kernel
theorem dT_must_2 : decode cT_must 2 = .ok (.invokevirtual 76, 3) := by decide +kernel
theorem dT_must_5 : decode cT_must 5 = .ok (.ifCond .ne 7, 3) := by decide +kernel
theorem dT_must_8 : decode cT_must 8 = .ok (.ldc2_w 99, 3) := by decide +kernel
theorem dT_must_11 : decode cT_must 11 = .ok (.lreturn, 1) := by decide +kernel
theorem dT_must_12 : decode cT_must 12 = .ok (.aload_n 0, 1) := by decide +kernel
theorem dT_must_13 : decode cT_must 13 = .ok (.getfield 17, 3) := by decide +kernel
theorem dT_must_16 : decode cT_must 16 = .ok (.iload_n 1, 1) := by decide +kernel
theorem dT_must_17 : decode cT_must 17 = .ok (.iaload, 1) := by decide +kernel
theorem dT_must_18 : decode cT_must 18 = .ok (.istore_n 2, 1) := by decide +kernel
theorem dT_must_19 : decode cT_must 19 = .ok (.iload_n 2, 1) := by decide +kernel
theorem dT_must_20 : decode cT_must 20 = .ok (.iconst 1, 1) := by decide +kernel
theorem dT_must_21 : decode cT_must 21 = .ok (.iadd, 1) := by decide +kernel
theorem dT_must_22 : decode cT_must 22 = .ok (.bipush 8, 2) := by decide +kernel
theorem dT_must_24 : decode cT_must 24 = .ok (.irem, 1) := by decide +kernel
theorem dT_must_25 : decode cT_must 25 = .ok (.ifCond .eq 10, 3) := by decide +kernel
theorem dT_must_28 : decode cT_must 28 = .ok (.aload_n 0, 1) := by decide +kernel
theorem dT_must_29 : decode cT_must 29 = .ok (.getfield 27, 3) := by decide +kernel
theorem dT_must_32 : decode cT_must 32 = .ok (.iload_n 1, 1) := by decide +kernel
theorem dT_must_33 : decode cT_must 33 = .ok (.laload, 1) := by decide +kernel
theorem dT_must_34 : decode cT_must 34 = .ok (.lreturn, 1) := by decide +kernel
theorem dT_must_35 : decode cT_must 35 = .ok (.aload_n 0, 1) := by decide +kernel
theorem dT_must_36 : decode cT_must 36 = .ok (.iload_n 1, 1) := by decide +kernel
theorem dT_must_37 : decode cT_must 37 = .ok (.iload_n 2, 1) := by decide +kernel
theorem dT_must_38 : decode cT_must 38 = .ok (.bipush 7, 2) := by decide +kernel
theorem dT_must_40 : decode cT_must 40 = .ok (.isub, 1) := by decide +kernel
theorem dT_must_41 : decode cT_must 41 = .ok (.invokevirtual 101, 3) := by decide +kernel
theorem dT_must_44 : decode cT_must 44 = .ok (.istore_n 3, 1) := by decide +kernel
theorem dT_must_45 : decode cT_must 45 = .ok (.aload_n 0, 1) := by decide +kernel
theorem dT_must_46 : decode cT_must 46 = .ok (.getfield 45, 3) := by decide +kernel
theorem dT_must_49 : decode cT_must 49 = .ok (.aload_n 0, 1) := by decide +kernel
theorem dT_must_50 : decode cT_must 50 = .ok (.getfield 27, 3) := by decide +kernel
theorem dT_must_53 : decode cT_must 53 = .ok (.iload_n 1, 1) := by decide +kernel
theorem dT_must_54 : decode cT_must 54 = .ok (.laload, 1) := by decide +kernel
theorem dT_must_55 : decode cT_must 55 = .ok (.aload_n 0, 1) := by decide +kernel
theorem dT_must_56 : decode cT_must 56 = .ok (.getfield 23, 3) := by decide +kernel
theorem dT_must_59 : decode cT_must 59 = .ok (.iload_n 1, 1) := by decide +kernel
theorem dT_must_60 : decode cT_must 60 = .ok (.laload, 1) := by decide +kernel
theorem dT_must_61 : decode cT_must 61 = .ok (.aload_n 0, 1) := by decide +kernel
theorem dT_must_62 : decode cT_must 62 = .ok (.getfield 23, 3) := by decide +kernel
theorem dT_must_65 : decode cT_must 65 = .ok (.iload_n 3, 1) := by decide +kernel
theorem dT_must_66 : decode cT_must 66 = .ok (.laload, 1) := by decide +kernel
theorem dT_must_67 : decode cT_must 67 = .ok (.lsub, 1) := by decide +kernel
theorem dT_must_68 : decode cT_must 68 = .ok (.invokevirtual 105, 3) := by decide +kernel
theorem dT_must_71 : decode cT_must 71 = .ok (.lreturn, 1) := by decide +kernel
theorem dT_rank_0 : decode cT_rank 0 = .ok (.iload_n 3, 1) := by decide +kernel
theorem dT_rank_1 : decode cT_rank 1 = .ok (.istore 4, 2) := by decide +kernel
theorem dT_rank_3 : decode cT_rank 3 = .ok (.iload 4, 2) := by decide +kernel
theorem dT_rank_5 : decode cT_rank 5 = .ok (.ifCond .le 39, 3) := by decide +kernel
theorem dT_rank_8 : decode cT_rank 8 = .ok (.aload_n 0, 1) := by decide +kernel
theorem dT_rank_9 : decode cT_rank 9 = .ok (.getfield 39, 3) := by decide +kernel
theorem dT_rank_12 : decode cT_rank 12 = .ok (.iload 4, 2) := by decide +kernel
theorem dT_rank_14 : decode cT_rank 14 = .ok (.iconst 1, 1) := by decide +kernel
theorem dT_rank_15 : decode cT_rank 15 = .ok (.isub, 1) := by decide +kernel
theorem dT_rank_16 : decode cT_rank 16 = .ok (.laload, 1) := by decide +kernel
theorem dT_rank_17 : decode cT_rank 17 = .ok (.lload_n 1, 1) := by decide +kernel
theorem dT_rank_18 : decode cT_rank 18 = .ok (.lcmp, 1) := by decide +kernel
theorem dT_rank_19 : decode cT_rank 19 = .ok (.ifCond .le 25, 3) := by decide +kernel
theorem dT_rank_22 : decode cT_rank 22 = .ok (.aload_n 0, 1) := by decide +kernel
theorem dT_rank_23 : decode cT_rank 23 = .ok (.getfield 39, 3) := by decide +kernel
theorem dT_rank_26 : decode cT_rank 26 = .ok (.iload 4, 2) := by decide +kernel
theorem dT_rank_28 : decode cT_rank 28 = .ok (.aload_n 0, 1) := by decide +kernel
theorem dT_rank_29 : decode cT_rank 29 = .ok (.getfield 39, 3) := by decide +kernel
theorem dT_rank_32 : decode cT_rank 32 = .ok (.iload 4, 2) := by decide +kernel
theorem dT_rank_34 : decode cT_rank 34 = .ok (.iconst 1, 1) := by decide +kernel
theorem dT_rank_35 : decode cT_rank 35 = .ok (.isub, 1) := by decide +kernel
theorem dT_rank_36 : decode cT_rank 36 = .ok (.laload, 1) := by decide +kernel
theorem dT_rank_37 : decode cT_rank 37 = .ok (.lastore, 1) := by decide +kernel
theorem dT_rank_38 : decode cT_rank 38 = .ok (.iinc 4 (-1), 3) := by decide +kernel
theorem dT_rank_41 : decode cT_rank 41 = .ok (.goto (-38), 3) := by decide +kernel
theorem dT_rank_44 : decode cT_rank 44 = .ok (.aload_n 0, 1) := by decide +kernel
theorem dT_rank_45 : decode cT_rank 45 = .ok (.getfield 39, 3) := by decide +kernel
theorem dT_rank_48 : decode cT_rank 48 = .ok (.iload 4, 2) := by decide +kernel
theorem dT_rank_50 : decode cT_rank 50 = .ok (.lload_n 1, 1) := by decide +kernel
theorem dT_rank_51 : decode cT_rank 51 = .ok (.lastore, 1) := by decide +kernel
theorem dT_rank_52 : decode cT_rank 52 = .ok (.return_, 1) := by decide +kernel
theorem dT_median_0 : decode cT_median 0 = .ok (.aload_n 0, 1) := by decide +kernel
theorem dT_median_1 : decode cT_median 1 = .ok (.iload_n 1, 1) := by decide +kernel
theorem dT_median_2 : decode cT_median 2 = .ok (.invokevirtual 76, 3) := by decide +kernel
theorem dT_median_5 : decode cT_median 5 = .ok (.ifCond .ne 7, 3) := by decide +kernel
theorem dT_median_8 : decode cT_median 8 = .ok (.ldc2_w 99, 3) := by decide +kernel
theorem dT_median_11 : decode cT_median 11 = .ok (.lreturn, 1) := by decide +kernel
theorem dT_median_12 : decode cT_median 12 = .ok (.iconst 0, 1) := by decide +kernel
theorem dT_median_13 : decode cT_median 13 = .ok (.istore_n 2, 1) := by decide +kernel
theorem dT_median_14 : decode cT_median 14 = .ok (.iload_n 1, 1) := by decide +kernel
theorem dT_median_15 : decode cT_median 15 = .ok (.istore_n 3, 1) := by decide +kernel
theorem dT_median_16 : decode cT_median 16 = .ok (.iload_n 2, 1) := by decide +kernel
theorem dT_median_17 : decode cT_median 17 = .ok (.bipush 11, 2) := by decide +kernel
theorem dT_median_19 : decode cT_median 19 = .ok (.if_icmp .ge 31, 3) := by decide +kernel
theorem dT_median_22 : decode cT_median 22 = .ok (.iload_n 3, 1) := by decide +kernel
theorem dT_median_23 : decode cT_median 23 = .ok (.ifCond .lt 27, 3) := by decide +kernel
theorem dT_median_26 : decode cT_median 26 = .ok (.aload_n 0, 1) := by decide +kernel
theorem dT_median_27 : decode cT_median 27 = .ok (.aload_n 0, 1) := by decide +kernel
theorem dT_median_28 : decode cT_median 28 = .ok (.getfield 23, 3) := by decide +kernel
theorem dT_median_31 : decode cT_median 31 = .ok (.iload_n 3, 1) := by decide +kernel
theorem dT_median_32 : decode cT_median 32 = .ok (.laload, 1) := by decide +kernel
theorem dT_median_33 : decode cT_median 33 = .ok (.iload_n 2, 1) := by decide +kernel
theorem dT_median_34 : decode cT_median 34 = .ok (.invokevirtual 109, 3) := by decide +kernel
theorem dT_median_37 : decode cT_median 37 = .ok (.iinc 2 1, 3) := by decide +kernel
theorem dT_median_40 : decode cT_median 40 = .ok (.aload_n 0, 1) := by decide +kernel
theorem dT_median_41 : decode cT_median 41 = .ok (.getfield 13, 3) := by decide +kernel
theorem dT_median_44 : decode cT_median 44 = .ok (.iload_n 3, 1) := by decide +kernel
theorem dT_median_45 : decode cT_median 45 = .ok (.iaload, 1) := by decide +kernel
theorem dT_median_46 : decode cT_median 46 = .ok (.istore_n 3, 1) := by decide +kernel
theorem dT_median_47 : decode cT_median 47 = .ok (.goto (-31), 3) := by decide +kernel
theorem dT_median_50 : decode cT_median 50 = .ok (.aload_n 0, 1) := by decide +kernel
theorem dT_median_51 : decode cT_median 51 = .ok (.getfield 39, 3) := by decide +kernel
theorem dT_median_54 : decode cT_median 54 = .ok (.iload_n 2, 1) := by decide +kernel
theorem dT_median_55 : decode cT_median 55 = .ok (.iconst 2, 1) := by decide +kernel
theorem dT_median_56 : decode cT_median 56 = .ok (.idiv, 1) := by decide +kernel
theorem dT_median_57 : decode cT_median 57 = .ok (.laload, 1) := by decide +kernel
theorem dT_median_58 : decode cT_median 58 = .ok (.lreturn, 1) := by decide +kernel
theorem dT_sumWork_0 : decode cT_sumWork 0 = .ok (.lconst 0, 1) := by decide +kernel
theorem dT_sumWork_1 : decode cT_sumWork 1 = .ok (.lstore 4, 2) := by decide +kernel
theorem dT_sumWork_3 : decode cT_sumWork 3 = .ok (.bipush 7, 2) := by decide +kernel
theorem dT_sumWork_5 : decode cT_sumWork 5 = .ok (.istore 6, 2) := by decide +kernel
theorem dT_sumWork_7 : decode cT_sumWork 7 = .ok (.iload 6, 2) := by decide +kernel
theorem dT_sumWork_9 : decode cT_sumWork 9 = .ok (.ifCond .lt 56, 3) := by decide +kernel
theorem dT_sumWork_12 : decode cT_sumWork 12 = .ok (.aload_n 0, 1) := by decide +kernel
theorem dT_sumWork_13 : decode cT_sumWork 13 = .ok (.getfield 36, 3) := by decide +kernel
theorem dT_sumWork_16 : decode cT_sumWork 16 = .ok (.iload_n 2, 1) := by decide +kernel
theorem dT_sumWork_17 : decode cT_sumWork 17 = .ok (.bipush 8, 2) := by decide +kernel
theorem dT_sumWork_19 : decode cT_sumWork 19 = .ok (.imul, 1) := by decide +kernel
theorem dT_sumWork_20 : decode cT_sumWork 20 = .ok (.iload 6, 2) := by decide +kernel
theorem dT_sumWork_22 : decode cT_sumWork 22 = .ok (.iadd, 1) := by decide +kernel
theorem dT_sumWork_23 : decode cT_sumWork 23 = .ok (.laload, 1) := by decide +kernel
theorem dT_sumWork_24 : decode cT_sumWork 24 = .ok (.aload_n 3, 1) := by decide +kernel
theorem dT_sumWork_25 : decode cT_sumWork 25 = .ok (.iload 6, 2) := by decide +kernel
theorem dT_sumWork_27 : decode cT_sumWork 27 = .ok (.laload, 1) := by decide +kernel
theorem dT_sumWork_28 : decode cT_sumWork 28 = .ok (.ladd, 1) := by decide +kernel
theorem dT_sumWork_29 : decode cT_sumWork 29 = .ok (.lload 4, 2) := by decide +kernel
theorem dT_sumWork_31 : decode cT_sumWork 31 = .ok (.ladd, 1) := by decide +kernel
theorem dT_sumWork_32 : decode cT_sumWork 32 = .ok (.lstore 7, 2) := by decide +kernel
theorem dT_sumWork_34 : decode cT_sumWork 34 = .ok (.aload_n 0, 1) := by decide +kernel
theorem dT_sumWork_35 : decode cT_sumWork 35 = .ok (.getfield 36, 3) := by decide +kernel
theorem dT_sumWork_38 : decode cT_sumWork 38 = .ok (.iload_n 1, 1) := by decide +kernel
theorem dT_sumWork_39 : decode cT_sumWork 39 = .ok (.bipush 8, 2) := by decide +kernel
theorem dT_sumWork_41 : decode cT_sumWork 41 = .ok (.imul, 1) := by decide +kernel
theorem dT_sumWork_42 : decode cT_sumWork 42 = .ok (.iload 6, 2) := by decide +kernel
theorem dT_sumWork_44 : decode cT_sumWork 44 = .ok (.iadd, 1) := by decide +kernel
theorem dT_sumWork_45 : decode cT_sumWork 45 = .ok (.lload 7, 2) := by decide +kernel
theorem dT_sumWork_47 : decode cT_sumWork 47 = .ok (.ldc2_w 56, 3) := by decide +kernel
theorem dT_sumWork_50 : decode cT_sumWork 50 = .ok (.land, 1) := by decide +kernel
theorem dT_sumWork_51 : decode cT_sumWork 51 = .ok (.lastore, 1) := by decide +kernel
theorem dT_sumWork_52 : decode cT_sumWork 52 = .ok (.lload 7, 2) := by decide +kernel
theorem dT_sumWork_54 : decode cT_sumWork 54 = .ok (.bipush 32, 2) := by decide +kernel
theorem dT_sumWork_56 : decode cT_sumWork 56 = .ok (.lushr, 1) := by decide +kernel
theorem dT_sumWork_57 : decode cT_sumWork 57 = .ok (.lstore 4, 2) := by decide +kernel
theorem dT_sumWork_59 : decode cT_sumWork 59 = .ok (.iinc 6 (-1), 3) := by decide +kernel
theorem dT_sumWork_62 : decode cT_sumWork 62 = .ok (.goto (-55), 3) := by decide +kernel
theorem dT_sumWork_65 : decode cT_sumWork 65 = .ok (.return_, 1) := by decide +kernel
theorem dT_compareWorks_0 : decode cT_compareWorks 0 = .ok (.iconst 0, 1) := by decide +kernel
theorem dT_compareWorks_1 : decode cT_compareWorks 1 = .ok (.istore_n 3, 1) := by decide +kernel
theorem dT_compareWorks_2 : decode cT_compareWorks 2 = .ok (.iload_n 3, 1) := by decide +kernel
theorem dT_compareWorks_3 : decode cT_compareWorks 3 = .ok (.bipush 8, 2) := by decide +kernel
theorem dT_compareWorks_5 : decode cT_compareWorks 5 = .ok (.if_icmp .ge 57, 3) := by decide +kernel
theorem dT_compareWorks_8 : decode cT_compareWorks 8 = .ok (.aload_n 0, 1) := by decide +kernel
theorem dT_compareWorks_9 : decode cT_compareWorks 9 = .ok (.getfield 36, 3) := by decide +kernel
theorem dT_compareWorks_12 : decode cT_compareWorks 12 = .ok (.iload_n 1, 1) := by decide +kernel
theorem dT_compareWorks_13 : decode cT_compareWorks 13 = .ok (.bipush 8, 2) := by decide +kernel
theorem dT_compareWorks_15 : decode cT_compareWorks 15 = .ok (.imul, 1) := by decide +kernel
theorem dT_compareWorks_16 : decode cT_compareWorks 16 = .ok (.iload_n 3, 1) := by decide +kernel
theorem dT_compareWorks_17 : decode cT_compareWorks 17 = .ok (.iadd, 1) := by decide +kernel
theorem dT_compareWorks_18 : decode cT_compareWorks 18 = .ok (.laload, 1) := by decide +kernel
theorem dT_compareWorks_19 : decode cT_compareWorks 19 = .ok (.lstore 4, 2) := by decide +kernel
theorem dT_compareWorks_21 : decode cT_compareWorks 21 = .ok (.aload_n 0, 1) := by decide +kernel
theorem dT_compareWorks_22 : decode cT_compareWorks 22 = .ok (.getfield 36, 3) := by decide +kernel
theorem dT_compareWorks_25 : decode cT_compareWorks 25 = .ok (.iload_n 2, 1) := by decide +kernel
theorem dT_compareWorks_26 : decode cT_compareWorks 26 = .ok (.bipush 8, 2) := by decide +kernel
theorem dT_compareWorks_28 : decode cT_compareWorks 28 = .ok (.imul, 1) := by decide +kernel
theorem dT_compareWorks_29 : decode cT_compareWorks 29 = .ok (.iload_n 3, 1) := by decide +kernel
theorem dT_compareWorks_30 : decode cT_compareWorks 30 = .ok (.iadd, 1) := by decide +kernel
theorem dT_compareWorks_31 : decode cT_compareWorks 31 = .ok (.laload, 1) := by decide +kernel
theorem dT_compareWorks_32 : decode cT_compareWorks 32 = .ok (.lstore 6, 2) := by decide +kernel
theorem dT_compareWorks_34 : decode cT_compareWorks 34 = .ok (.lload 4, 2) := by decide +kernel
theorem dT_compareWorks_36 : decode cT_compareWorks 36 = .ok (.lload 6, 2) := by decide +kernel
theorem dT_compareWorks_38 : decode cT_compareWorks 38 = .ok (.lcmp, 1) := by decide +kernel
theorem dT_compareWorks_39 : decode cT_compareWorks 39 = .ok (.ifCond .eq 17, 3) := by decide +kernel
theorem dT_compareWorks_42 : decode cT_compareWorks 42 = .ok (.lload 4, 2) := by decide +kernel
theorem dT_compareWorks_44 : decode cT_compareWorks 44 = .ok (.lload 6, 2) := by decide +kernel
theorem dT_compareWorks_46 : decode cT_compareWorks 46 = .ok (.lcmp, 1) := by decide +kernel
theorem dT_compareWorks_47 : decode cT_compareWorks 47 = .ok (.ifCond .ge 7, 3) := by decide +kernel
theorem dT_compareWorks_50 : decode cT_compareWorks 50 = .ok (.iconst (-1), 1) := by decide +kernel
theorem dT_compareWorks_51 : decode cT_compareWorks 51 = .ok (.goto 4, 3) := by decide +kernel
theorem dT_compareWorks_54 : decode cT_compareWorks 54 = .ok (.iconst 1, 1) := by decide +kernel
theorem dT_compareWorks_55 : decode cT_compareWorks 55 = .ok (.ireturn, 1) := by decide +kernel
theorem dT_compareWorks_56 : decode cT_compareWorks 56 = .ok (.iinc 3 1, 3) := by decide +kernel
theorem dT_compareWorks_59 : decode cT_compareWorks 59 = .ok (.goto (-57), 3) := by decide +kernel
theorem dT_compareWorks_62 : decode cT_compareWorks 62 = .ok (.iconst 0, 1) := by decide +kernel
theorem dT_compareWorks_63 : decode cT_compareWorks 63 = .ok (.ireturn, 1) := by decide +kernel
theorem dT_append_0 : decode cT_append 0 = .ok (.aload_n 0, 1) := by decide +kernel
theorem dT_append_1 : decode cT_append 1 = .ok (.getfield 70, 3) := by decide +kernel
theorem dT_append_4 : decode cT_append 4 = .ok (.istore 6, 2) := by decide +kernel
theorem dT_append_6 : decode cT_append 6 = .ok (.aload_n 0, 1) := by decide +kernel
theorem dT_append_7 : decode cT_append 7 = .ok (.getfield 13, 3) := by decide +kernel
theorem dT_append_10 : decode cT_append 10 = .ok (.iload 6, 2) := by decide +kernel
theorem dT_append_12 : decode cT_append 12 = .ok (.iload_n 1, 1) := by decide +kernel
theorem dT_append_13 : decode cT_append 13 = .ok (.iastore, 1) := by decide +kernel
theorem dT_append_14 : decode cT_append 14 = .ok (.aload_n 0, 1) := by decide +kernel
theorem dT_append_15 : decode cT_append 15 = .ok (.getfield 17, 3) := by decide +kernel
theorem dT_append_18 : decode cT_append 18 = .ok (.iload 6, 2) := by decide +kernel
theorem dT_append_20 : decode cT_append 20 = .ok (.aload_n 0, 1) := by decide +kernel
theorem dT_append_21 : decode cT_append 21 = .ok (.getfield 17, 3) := by decide +kernel
theorem dT_append_24 : decode cT_append 24 = .ok (.iload_n 1, 1) := by decide +kernel
theorem dT_append_25 : decode cT_append 25 = .ok (.iaload, 1) := by decide +kernel
theorem dT_append_26 : decode cT_append 26 = .ok (.iconst 1, 1) := by decide +kernel
theorem dT_append_27 : decode cT_append 27 = .ok (.iadd, 1) := by decide +kernel
theorem dT_append_28 : decode cT_append 28 = .ok (.iastore, 1) := by decide +kernel
theorem dT_append_29 : decode cT_append 29 = .ok (.aload_n 0, 1) := by decide +kernel
theorem dT_append_30 : decode cT_append 30 = .ok (.getfield 23, 3) := by decide +kernel
theorem dT_append_33 : decode cT_append 33 = .ok (.iload 6, 2) := by decide +kernel
theorem dT_append_35 : decode cT_append 35 = .ok (.lload_n 2, 1) := by decide +kernel
theorem dT_append_36 : decode cT_append 36 = .ok (.lastore, 1) := by decide +kernel
theorem dT_append_37 : decode cT_append 37 = .ok (.aload_n 0, 1) := by decide +kernel
theorem dT_append_38 : decode cT_append 38 = .ok (.getfield 27, 3) := by decide +kernel
theorem dT_append_41 : decode cT_append 41 = .ok (.iload 6, 2) := by decide +kernel
theorem dT_append_43 : decode cT_append 43 = .ok (.lload 4, 2) := by decide +kernel
theorem dT_append_45 : decode cT_append 45 = .ok (.lastore, 1) := by decide +kernel
theorem dT_append_46 : decode cT_append 46 = .ok (.aload_n 0, 1) := by decide +kernel
theorem dT_append_47 : decode cT_append 47 = .ok (.getfield 20, 3) := by decide +kernel
theorem dT_append_50 : decode cT_append 50 = .ok (.iload_n 1, 1) := by decide +kernel
theorem dT_append_51 : decode cT_append 51 = .ok (.dup2, 1) := by decide +kernel
theorem dT_append_52 : decode cT_append 52 = .ok (.iaload, 1) := by decide +kernel
theorem dT_append_53 : decode cT_append 53 = .ok (.iconst 1, 1) := by decide +kernel
theorem dT_append_54 : decode cT_append 54 = .ok (.iadd, 1) := by decide +kernel
theorem dT_append_55 : decode cT_append 55 = .ok (.iastore, 1) := by decide +kernel
theorem dT_append_56 : decode cT_append 56 = .ok (.aload_n 0, 1) := by decide +kernel
theorem dT_append_57 : decode cT_append 57 = .ok (.iload 6, 2) := by decide +kernel
theorem dT_append_59 : decode cT_append 59 = .ok (.iload_n 1, 1) := by decide +kernel
theorem dT_append_60 : decode cT_append 60 = .ok (.aload_n 0, 1) := by decide +kernel
theorem dT_append_61 : decode cT_append 61 = .ok (.getfield 52, 3) := by decide +kernel
theorem dT_append_64 : decode cT_append 64 = .ok (.lload 4, 2) := by decide +kernel
theorem dT_append_66 : decode cT_append 66 = .ok (.invokevirtual 60, 3) := by decide +kernel
theorem dT_append_69 : decode cT_append 69 = .ok (.invokevirtual 136, 3) := by decide +kernel
theorem dT_append_72 : decode cT_append 72 = .ok (.aload_n 0, 1) := by decide +kernel
theorem dT_append_73 : decode cT_append 73 = .ok (.dup, 1) := by decide +kernel
theorem dT_append_74 : decode cT_append 74 = .ok (.getfield 70, 3) := by decide +kernel
theorem dT_append_77 : decode cT_append 77 = .ok (.iconst 1, 1) := by decide +kernel
theorem dT_append_78 : decode cT_append 78 = .ok (.iadd, 1) := by decide +kernel
theorem dT_append_79 : decode cT_append 79 = .ok (.putfield 70, 3) := by decide +kernel
theorem dT_append_82 : decode cT_append 82 = .ok (.aload_n 0, 1) := by decide +kernel
theorem dT_append_83 : decode cT_append 83 = .ok (.iload 6, 2) := by decide +kernel
theorem dT_append_85 : decode cT_append 85 = .ok (.aload_n 0, 1) := by decide +kernel
theorem dT_append_86 : decode cT_append 86 = .ok (.getfield 73, 3) := by decide +kernel
theorem dT_append_89 : decode cT_append 89 = .ok (.invokevirtual 116, 3) := by decide +kernel
theorem dT_append_92 : decode cT_append 92 = .ok (.ifCond .le 9, 3) := by decide +kernel
theorem dT_append_95 : decode cT_append 95 = .ok (.aload_n 0, 1) := by decide +kernel
theorem dT_append_96 : decode cT_append 96 = .ok (.iload 6, 2) := by decide +kernel
theorem dT_append_98 : decode cT_append 98 = .ok (.putfield 73, 3) := by decide +kernel
theorem dT_append_101 : decode cT_append 101 = .ok (.iload 6, 2) := by decide +kernel
theorem dT_append_103 : decode cT_append 103 = .ok (.ireturn, 1) := by decide +kernel
theorem dT_add_0 : decode cT_add 0 = .ok (.aload_n 0, 1) := by decide +kernel
theorem dT_add_1 : decode cT_add 1 = .ok (.iload_n 1, 1) := by decide +kernel
theorem dT_add_2 : decode cT_add 2 = .ok (.invokevirtual 76, 3) := by decide +kernel
theorem dT_add_5 : decode cT_add 5 = .ok (.ifCond .ne 5, 3) := by decide +kernel
theorem dT_add_8 : decode cT_add 8 = .ok (.iconst (-1), 1) := by decide +kernel
theorem dT_add_9 : decode cT_add 9 = .ok (.ireturn, 1) := by decide +kernel
theorem dT_add_10 : decode cT_add 10 = .ok (.aload_n 0, 1) := by decide +kernel
theorem dT_add_11 : decode cT_add 11 = .ok (.getfield 30, 3) := by decide +kernel
theorem dT_add_14 : decode cT_add 14 = .ok (.iload_n 1, 1) := by decide +kernel
theorem dT_add_15 : decode cT_add 15 = .ok (.baload, 1) := by decide +kernel
theorem dT_add_16 : decode cT_add 16 = .ok (.ifCond .eq 6, 3) := by decide +kernel
theorem dT_add_19 : decode cT_add 19 = .ok (.bipush (-2), 2) := by decide +kernel
theorem dT_add_21 : decode cT_add 21 = .ok (.ireturn, 1) := by decide +kernel
theorem dT_add_22 : decode cT_add 22 = .ok (.lload 4, 2) := by decide +kernel
theorem dT_add_24 : decode cT_add 24 = .ok (.aload_n 0, 1) := by decide +kernel
theorem dT_add_25 : decode cT_add 25 = .ok (.iload_n 1, 1) := by decide +kernel
theorem dT_add_26 : decode cT_add 26 = .ok (.invokevirtual 80, 3) := by decide +kernel
theorem dT_add_29 : decode cT_add 29 = .ok (.lcmp, 1) := by decide +kernel
theorem dT_add_30 : decode cT_add 30 = .ok (.ifCond .eq 6, 3) := by decide +kernel
theorem dT_add_33 : decode cT_add 33 = .ok (.bipush (-3), 2) := by decide +kernel
theorem dT_add_35 : decode cT_add 35 = .ok (.ireturn, 1) := by decide +kernel
theorem dT_add_36 : decode cT_add 36 = .ok (.lload_n 2, 1) := by decide +kernel
theorem dT_add_37 : decode cT_add 37 = .ok (.aload_n 0, 1) := by decide +kernel
theorem dT_add_38 : decode cT_add 38 = .ok (.iload_n 1, 1) := by decide +kernel
theorem dT_add_39 : decode cT_add 39 = .ok (.invokevirtual 84, 3) := by decide +kernel
theorem dT_add_42 : decode cT_add 42 = .ok (.lcmp, 1) := by decide +kernel
theorem dT_add_43 : decode cT_add 43 = .ok (.ifCond .le 11, 3) := by decide +kernel
theorem dT_add_46 : decode cT_add 46 = .ok (.lload_n 2, 1) := by decide +kernel
theorem dT_add_47 : decode cT_add 47 = .ok (.ldc2_w 56, 3) := by decide +kernel
theorem dT_add_50 : decode cT_add 50 = .ok (.lcmp, 1) := by decide +kernel
theorem dT_add_51 : decode cT_add 51 = .ok (.ifCond .le 6, 3) := by decide +kernel
theorem dT_add_54 : decode cT_add 54 = .ok (.bipush (-4), 2) := by decide +kernel
theorem dT_add_56 : decode cT_add 56 = .ok (.ireturn, 1) := by decide +kernel
theorem dT_add_57 : decode cT_add 57 = .ok (.aload_n 0, 1) := by decide +kernel
theorem dT_add_58 : decode cT_add 58 = .ok (.getfield 70, 3) := by decide +kernel
theorem dT_add_61 : decode cT_add 61 = .ok (.aload_n 0, 1) := by decide +kernel
theorem dT_add_62 : decode cT_add 62 = .ok (.getfield 9, 3) := by decide +kernel
theorem dT_add_65 : decode cT_add 65 = .ok (.if_icmp .lt 6, 3) := by decide +kernel
theorem dT_add_68 : decode cT_add 68 = .ok (.bipush (-5), 2) := by decide +kernel
theorem dT_add_70 : decode cT_add 70 = .ok (.ireturn, 1) := by decide +kernel
theorem dT_add_71 : decode cT_add 71 = .ok (.aload_n 0, 1) := by decide +kernel
theorem dT_add_72 : decode cT_add 72 = .ok (.iload_n 1, 1) := by decide +kernel
theorem dT_add_73 : decode cT_add 73 = .ok (.lload_n 2, 1) := by decide +kernel
theorem dT_add_74 : decode cT_add 74 = .ok (.lload 4, 2) := by decide +kernel
theorem dT_add_76 : decode cT_add 76 = .ok (.invokevirtual 87, 3) := by decide +kernel
theorem dT_add_79 : decode cT_add 79 = .ok (.ireturn, 1) := by decide +kernel
theorem dT_spoilBehind_0 : decode cT_spoilBehind 0 = .ok (.iconst 0, 1) := by decide +kernel
theorem dT_spoilBehind_1 : decode cT_spoilBehind 1 = .ok (.istore_n 2, 1) := by decide +kernel
theorem dT_spoilBehind_2 : decode cT_spoilBehind 2 = .ok (.iload_n 1, 1) := by decide +kernel
theorem dT_spoilBehind_3 : decode cT_spoilBehind 3 = .ok (.iconst 1, 1) := by decide +kernel
theorem dT_spoilBehind_4 : decode cT_spoilBehind 4 = .ok (.iadd, 1) := by decide +kernel
theorem dT_spoilBehind_5 : decode cT_spoilBehind 5 = .ok (.istore_n 3, 1) := by decide +kernel
theorem dT_spoilBehind_6 : decode cT_spoilBehind 6 = .ok (.iload_n 3, 1) := by decide +kernel
theorem dT_spoilBehind_7 : decode cT_spoilBehind 7 = .ok (.aload_n 0, 1) := by decide +kernel
theorem dT_spoilBehind_8 : decode cT_spoilBehind 8 = .ok (.getfield 70, 3) := by decide +kernel
theorem dT_spoilBehind_11 : decode cT_spoilBehind 11 = .ok (.if_icmp .ge 42, 3) := by decide +kernel
theorem dT_spoilBehind_14 : decode cT_spoilBehind 14 = .ok (.aload_n 0, 1) := by decide +kernel
theorem dT_spoilBehind_15 : decode cT_spoilBehind 15 = .ok (.getfield 30, 3) := by decide +kernel
theorem dT_spoilBehind_18 : decode cT_spoilBehind 18 = .ok (.iload_n 3, 1) := by decide +kernel
theorem dT_spoilBehind_19 : decode cT_spoilBehind 19 = .ok (.baload, 1) := by decide +kernel
theorem dT_spoilBehind_20 : decode cT_spoilBehind 20 = .ok (.ifCond .ne 27, 3) := by decide +kernel
theorem dT_spoilBehind_23 : decode cT_spoilBehind 23 = .ok (.aload_n 0, 1) := by decide +kernel
theorem dT_spoilBehind_24 : decode cT_spoilBehind 24 = .ok (.getfield 30, 3) := by decide +kernel
theorem dT_spoilBehind_27 : decode cT_spoilBehind 27 = .ok (.aload_n 0, 1) := by decide +kernel
theorem dT_spoilBehind_28 : decode cT_spoilBehind 28 = .ok (.getfield 13, 3) := by decide +kernel
theorem dT_spoilBehind_31 : decode cT_spoilBehind 31 = .ok (.iload_n 3, 1) := by decide +kernel
theorem dT_spoilBehind_32 : decode cT_spoilBehind 32 = .ok (.iaload, 1) := by decide +kernel
theorem dT_spoilBehind_33 : decode cT_spoilBehind 33 = .ok (.baload, 1) := by decide +kernel
theorem dT_spoilBehind_34 : decode cT_spoilBehind 34 = .ok (.ifCond .eq 13, 3) := by decide +kernel
theorem dT_spoilBehind_37 : decode cT_spoilBehind 37 = .ok (.aload_n 0, 1) := by decide +kernel
theorem dT_spoilBehind_38 : decode cT_spoilBehind 38 = .ok (.getfield 30, 3) := by decide +kernel
theorem dT_spoilBehind_41 : decode cT_spoilBehind 41 = .ok (.iload_n 3, 1) := by decide +kernel
theorem dT_spoilBehind_42 : decode cT_spoilBehind 42 = .ok (.iconst 1, 1) := by decide +kernel
theorem dT_spoilBehind_43 : decode cT_spoilBehind 43 = .ok (.bastore, 1) := by decide +kernel
theorem dT_spoilBehind_44 : decode cT_spoilBehind 44 = .ok (.iinc 2 1, 3) := by decide +kernel
theorem dT_spoilBehind_47 : decode cT_spoilBehind 47 = .ok (.iinc 3 1, 3) := by decide +kernel
theorem dT_spoilBehind_50 : decode cT_spoilBehind 50 = .ok (.goto (-44), 3) := by decide +kernel
theorem dT_spoilBehind_53 : decode cT_spoilBehind 53 = .ok (.iload_n 2, 1) := by decide +kernel
theorem dT_spoilBehind_54 : decode cT_spoilBehind 54 = .ok (.ireturn, 1) := by decide +kernel
theorem dT_findBest_0 : decode cT_findBest 0 = .ok (.iconst 0, 1) := by decide +kernel
theorem dT_findBest_1 : decode cT_findBest 1 = .ok (.istore_n 1, 1) := by decide +kernel
theorem dT_findBest_2 : decode cT_findBest 2 = .ok (.iconst 1, 1) := by decide +kernel
theorem dT_findBest_3 : decode cT_findBest 3 = .ok (.istore_n 2, 1) := by decide +kernel
theorem dT_findBest_4 : decode cT_findBest 4 = .ok (.iload_n 2, 1) := by decide +kernel
theorem dT_findBest_5 : decode cT_findBest 5 = .ok (.aload_n 0, 1) := by decide +kernel
theorem dT_findBest_6 : decode cT_findBest 6 = .ok (.getfield 70, 3) := by decide +kernel
theorem dT_findBest_9 : decode cT_findBest 9 = .ok (.if_icmp .ge 29, 3) := by decide +kernel
theorem dT_findBest_12 : decode cT_findBest 12 = .ok (.aload_n 0, 1) := by decide +kernel
theorem dT_findBest_13 : decode cT_findBest 13 = .ok (.getfield 30, 3) := by decide +kernel
theorem dT_findBest_16 : decode cT_findBest 16 = .ok (.iload_n 2, 1) := by decide +kernel
theorem dT_findBest_17 : decode cT_findBest 17 = .ok (.baload, 1) := by decide +kernel
theorem dT_findBest_18 : decode cT_findBest 18 = .ok (.ifCond .ne 14, 3) := by decide +kernel
theorem dT_findBest_21 : decode cT_findBest 21 = .ok (.aload_n 0, 1) := by decide +kernel
theorem dT_findBest_22 : decode cT_findBest 22 = .ok (.iload_n 2, 1) := by decide +kernel
theorem dT_findBest_23 : decode cT_findBest 23 = .ok (.iload_n 1, 1) := by decide +kernel
theorem dT_findBest_24 : decode cT_findBest 24 = .ok (.invokevirtual 116, 3) := by decide +kernel
theorem dT_findBest_27 : decode cT_findBest 27 = .ok (.ifCond .le 5, 3) := by decide +kernel
theorem dT_findBest_30 : decode cT_findBest 30 = .ok (.iload_n 2, 1) := by decide +kernel
theorem dT_findBest_31 : decode cT_findBest 31 = .ok (.istore_n 1, 1) := by decide +kernel
theorem dT_findBest_32 : decode cT_findBest 32 = .ok (.iinc 2 1, 3) := by decide +kernel
theorem dT_findBest_35 : decode cT_findBest 35 = .ok (.goto (-31), 3) := by decide +kernel
theorem dT_findBest_38 : decode cT_findBest 38 = .ok (.iload_n 1, 1) := by decide +kernel
theorem dT_findBest_39 : decode cT_findBest 39 = .ok (.ireturn, 1) := by decide +kernel
theorem dT_spoil_0 : decode cT_spoil 0 = .ok (.aload_n 0, 1) := by decide +kernel
theorem dT_spoil_1 : decode cT_spoil 1 = .ok (.iload_n 1, 1) := by decide +kernel
theorem dT_spoil_2 : decode cT_spoil 2 = .ok (.invokevirtual 76, 3) := by decide +kernel
theorem dT_spoil_5 : decode cT_spoil 5 = .ok (.ifCond .eq 16, 3) := by decide +kernel
theorem dT_spoil_8 : decode cT_spoil 8 = .ok (.iload_n 1, 1) := by decide +kernel
theorem dT_spoil_9 : decode cT_spoil 9 = .ok (.ifCond .eq 12, 3) := by decide +kernel
theorem dT_spoil_12 : decode cT_spoil 12 = .ok (.aload_n 0, 1) := by decide +kernel
theorem dT_spoil_13 : decode cT_spoil 13 = .ok (.getfield 30, 3) := by decide +kernel
theorem dT_spoil_16 : decode cT_spoil 16 = .ok (.iload_n 1, 1) := by decide +kernel
theorem dT_spoil_17 : decode cT_spoil 17 = .ok (.baload, 1) := by decide +kernel
theorem dT_spoil_18 : decode cT_spoil 18 = .ok (.ifCond .eq 5, 3) := by decide +kernel
theorem dT_spoil_21 : decode cT_spoil 21 = .ok (.iconst 0, 1) := by decide +kernel
theorem dT_spoil_22 : decode cT_spoil 22 = .ok (.ireturn, 1) := by decide +kernel
theorem dT_spoil_23 : decode cT_spoil 23 = .ok (.aload_n 0, 1) := by decide +kernel
theorem dT_spoil_24 : decode cT_spoil 24 = .ok (.getfield 30, 3) := by decide +kernel
theorem dT_spoil_27 : decode cT_spoil 27 = .ok (.iload_n 1, 1) := by decide +kernel
theorem dT_spoil_28 : decode cT_spoil 28 = .ok (.iconst 1, 1) := by decide +kernel
theorem dT_spoil_29 : decode cT_spoil 29 = .ok (.bastore, 1) := by decide +kernel
theorem dT_spoil_30 : decode cT_spoil 30 = .ok (.iconst 1, 1) := by decide +kernel
theorem dT_spoil_31 : decode cT_spoil 31 = .ok (.aload_n 0, 1) := by decide +kernel
theorem dT_spoil_32 : decode cT_spoil 32 = .ok (.iload_n 1, 1) := by decide +kernel
theorem dT_spoil_33 : decode cT_spoil 33 = .ok (.invokevirtual 91, 3) := by decide +kernel
theorem dT_spoil_36 : decode cT_spoil 36 = .ok (.iadd, 1) := by decide +kernel
theorem dT_spoil_37 : decode cT_spoil 37 = .ok (.istore_n 2, 1) := by decide +kernel
theorem dT_spoil_38 : decode cT_spoil 38 = .ok (.aload_n 0, 1) := by decide +kernel
theorem dT_spoil_39 : decode cT_spoil 39 = .ok (.getfield 30, 3) := by decide +kernel
theorem dT_spoil_42 : decode cT_spoil 42 = .ok (.aload_n 0, 1) := by decide +kernel
theorem dT_spoil_43 : decode cT_spoil 43 = .ok (.getfield 73, 3) := by decide +kernel
theorem dT_spoil_46 : decode cT_spoil 46 = .ok (.baload, 1) := by decide +kernel
theorem dT_spoil_47 : decode cT_spoil 47 = .ok (.ifCond .eq 11, 3) := by decide +kernel
theorem dT_spoil_50 : decode cT_spoil 50 = .ok (.aload_n 0, 1) := by decide +kernel
theorem dT_spoil_51 : decode cT_spoil 51 = .ok (.aload_n 0, 1) := by decide +kernel
theorem dT_spoil_52 : decode cT_spoil 52 = .ok (.invokevirtual 95, 3) := by decide +kernel
theorem dT_spoil_55 : decode cT_spoil 55 = .ok (.putfield 73, 3) := by decide +kernel
theorem dT_spoil_58 : decode cT_spoil 58 = .ok (.iload_n 2, 1) := by decide +kernel
theorem dT_spoil_59 : decode cT_spoil 59 = .ok (.ireturn, 1) := by decide +kernel
theorem dT_look_0 : decode cT_look 0 = .ok (.aload_n 0, 1) := by decide +kernel
theorem dT_look_1 : decode cT_look 1 = .ok (.iload_n 1, 1) := by decide +kernel
theorem dT_look_2 : decode cT_look 2 = .ok (.invokevirtual 76, 3) := by decide +kernel
theorem dT_look_5 : decode cT_look 5 = .ok (.ifCond .ne 7, 3) := by decide +kernel
theorem dT_look_8 : decode cT_look 8 = .ok (.ldc2_w 99, 3) := by decide +kernel
theorem dT_look_11 : decode cT_look 11 = .ok (.lreturn, 1) := by decide +kernel
theorem dT_look_12 : decode cT_look 12 = .ok (.iload_n 2, 1) := by decide +kernel
theorem dT_look_13 : decode cT_look 13 = .ok (.tableswitch 92 0 5 #[39, 47, 55, 62, 69, 84], 39) := by decide +kernel
theorem dT_look_52 : decode cT_look 52 = .ok (.aload_n 0, 1) := by decide +kernel
theorem dT_look_53 : decode cT_look 53 = .ok (.getfield 13, 3) := by decide +kernel
theorem dT_look_56 : decode cT_look 56 = .ok (.iload_n 1, 1) := by decide +kernel
theorem dT_look_57 : decode cT_look 57 = .ok (.iaload, 1) := by decide +kernel
theorem dT_look_58 : decode cT_look 58 = .ok (.i2l, 1) := by decide +kernel
theorem dT_look_59 : decode cT_look 59 = .ok (.lreturn, 1) := by decide +kernel
theorem dT_look_60 : decode cT_look 60 = .ok (.aload_n 0, 1) := by decide +kernel
theorem dT_look_61 : decode cT_look 61 = .ok (.getfield 17, 3) := by decide +kernel
theorem dT_look_64 : decode cT_look 64 = .ok (.iload_n 1, 1) := by decide +kernel
theorem dT_look_65 : decode cT_look 65 = .ok (.iaload, 1) := by decide +kernel
theorem dT_look_66 : decode cT_look 66 = .ok (.i2l, 1) := by decide +kernel
theorem dT_look_67 : decode cT_look 67 = .ok (.lreturn, 1) := by decide +kernel
theorem dT_look_68 : decode cT_look 68 = .ok (.aload_n 0, 1) := by decide +kernel
theorem dT_look_69 : decode cT_look 69 = .ok (.getfield 23, 3) := by decide +kernel
theorem dT_look_72 : decode cT_look 72 = .ok (.iload_n 1, 1) := by decide +kernel
theorem dT_look_73 : decode cT_look 73 = .ok (.laload, 1) := by decide +kernel
theorem dT_look_74 : decode cT_look 74 = .ok (.lreturn, 1) := by decide +kernel
theorem dT_look_75 : decode cT_look 75 = .ok (.aload_n 0, 1) := by decide +kernel
theorem dT_look_76 : decode cT_look 76 = .ok (.getfield 27, 3) := by decide +kernel
theorem dT_look_79 : decode cT_look 79 = .ok (.iload_n 1, 1) := by decide +kernel
theorem dT_look_80 : decode cT_look 80 = .ok (.laload, 1) := by decide +kernel
theorem dT_look_81 : decode cT_look 81 = .ok (.lreturn, 1) := by decide +kernel
theorem dT_look_82 : decode cT_look 82 = .ok (.aload_n 0, 1) := by decide +kernel
theorem dT_look_83 : decode cT_look 83 = .ok (.getfield 30, 3) := by decide +kernel
theorem dT_look_86 : decode cT_look 86 = .ok (.iload_n 1, 1) := by decide +kernel
theorem dT_look_87 : decode cT_look 87 = .ok (.baload, 1) := by decide +kernel
theorem dT_look_88 : decode cT_look 88 = .ok (.ifCond .eq 7, 3) := by decide +kernel
theorem dT_look_91 : decode cT_look 91 = .ok (.lconst 1, 1) := by decide +kernel
theorem dT_look_92 : decode cT_look 92 = .ok (.goto 4, 3) := by decide +kernel
theorem dT_look_95 : decode cT_look 95 = .ok (.lconst 0, 1) := by decide +kernel
theorem dT_look_96 : decode cT_look 96 = .ok (.lreturn, 1) := by decide +kernel
theorem dT_look_97 : decode cT_look 97 = .ok (.aload_n 0, 1) := by decide +kernel
theorem dT_look_98 : decode cT_look 98 = .ok (.getfield 20, 3) := by decide +kernel
theorem dT_look_101 : decode cT_look 101 = .ok (.iload_n 1, 1) := by decide +kernel
theorem dT_look_102 : decode cT_look 102 = .ok (.iaload, 1) := by decide +kernel
theorem dT_look_103 : decode cT_look 103 = .ok (.i2l, 1) := by decide +kernel
theorem dT_look_104 : decode cT_look 104 = .ok (.lreturn, 1) := by decide +kernel
theorem dT_look_105 : decode cT_look 105 = .ok (.ldc2_w 99, 3) := by decide +kernel
theorem dT_look_108 : decode cT_look 108 = .ok (.lreturn, 1) := by decide +kernel
theorem dT_work_0 : decode cT_work 0 = .ok (.aload_n 0, 1) := by decide +kernel
theorem dT_work_1 : decode cT_work 1 = .ok (.iload_n 1, 1) := by decide +kernel
theorem dT_work_2 : decode cT_work 2 = .ok (.invokevirtual 76, 3) := by decide +kernel
theorem dT_work_5 : decode cT_work 5 = .ok (.ifCond .eq 12, 3) := by decide +kernel
theorem dT_work_8 : decode cT_work 8 = .ok (.iload_n 2, 1) := by decide +kernel
theorem dT_work_9 : decode cT_work 9 = .ok (.ifCond .lt 8, 3) := by decide +kernel
theorem dT_work_12 : decode cT_work 12 = .ok (.iload_n 2, 1) := by decide +kernel
theorem dT_work_13 : decode cT_work 13 = .ok (.iconst 4, 1) := by decide +kernel
theorem dT_work_14 : decode cT_work 14 = .ok (.if_icmp .lt 5, 3) := by decide +kernel
theorem dT_work_17 : decode cT_work 17 = .ok (.lconst 0, 1) := by decide +kernel
theorem dT_work_18 : decode cT_work 18 = .ok (.lreturn, 1) := by decide +kernel
theorem dT_work_19 : decode cT_work 19 = .ok (.iload_n 1, 1) := by decide +kernel
theorem dT_work_20 : decode cT_work 20 = .ok (.bipush 8, 2) := by decide +kernel
theorem dT_work_22 : decode cT_work 22 = .ok (.imul, 1) := by decide +kernel
theorem dT_work_23 : decode cT_work 23 = .ok (.iconst 2, 1) := by decide +kernel
theorem dT_work_24 : decode cT_work 24 = .ok (.iload_n 2, 1) := by decide +kernel
theorem dT_work_25 : decode cT_work 25 = .ok (.imul, 1) := by decide +kernel
theorem dT_work_26 : decode cT_work 26 = .ok (.iadd, 1) := by decide +kernel
theorem dT_work_27 : decode cT_work 27 = .ok (.istore_n 3, 1) := by decide +kernel
theorem dT_work_28 : decode cT_work 28 = .ok (.aload_n 0, 1) := by decide +kernel
theorem dT_work_29 : decode cT_work 29 = .ok (.getfield 36, 3) := by decide +kernel
theorem dT_work_32 : decode cT_work 32 = .ok (.iload_n 3, 1) := by decide +kernel
theorem dT_work_33 : decode cT_work 33 = .ok (.laload, 1) := by decide +kernel
theorem dT_work_34 : decode cT_work 34 = .ok (.aload_n 0, 1) := by decide +kernel
theorem dT_work_35 : decode cT_work 35 = .ok (.getfield 36, 3) := by decide +kernel
theorem dT_work_38 : decode cT_work 38 = .ok (.iload_n 3, 1) := by decide +kernel
theorem dT_work_39 : decode cT_work 39 = .ok (.iconst 1, 1) := by decide +kernel
theorem dT_work_40 : decode cT_work 40 = .ok (.iadd, 1) := by decide +kernel
theorem dT_work_41 : decode cT_work 41 = .ok (.laload, 1) := by decide +kernel
theorem dT_work_42 : decode cT_work 42 = .ok (.invokestatic 113, 3) := by decide +kernel
theorem dT_work_45 : decode cT_work 45 = .ok (.lreturn, 1) := by decide +kernel
theorem dT_compare_0 : decode cT_compare 0 = .ok (.aload_n 0, 1) := by decide +kernel
theorem dT_compare_1 : decode cT_compare 1 = .ok (.iload_n 1, 1) := by decide +kernel
theorem dT_compare_2 : decode cT_compare 2 = .ok (.invokevirtual 76, 3) := by decide +kernel
theorem dT_compare_5 : decode cT_compare 5 = .ok (.ifCond .eq 11, 3) := by decide +kernel
theorem dT_compare_8 : decode cT_compare 8 = .ok (.aload_n 0, 1) := by decide +kernel
theorem dT_compare_9 : decode cT_compare 9 = .ok (.iload_n 2, 1) := by decide +kernel
theorem dT_compare_10 : decode cT_compare 10 = .ok (.invokevirtual 76, 3) := by decide +kernel
theorem dT_compare_13 : decode cT_compare 13 = .ok (.ifCond .ne 6, 3) := by decide +kernel
theorem dT_compare_16 : decode cT_compare 16 = .ok (.bipush (-2), 2) := by decide +kernel
theorem dT_compare_18 : decode cT_compare 18 = .ok (.ireturn, 1) := by decide +kernel
theorem dT_compare_19 : decode cT_compare 19 = .ok (.aload_n 0, 1) := by decide +kernel
theorem dT_compare_20 : decode cT_compare 20 = .ok (.iload_n 1, 1) := by decide +kernel
theorem dT_compare_21 : decode cT_compare 21 = .ok (.iload_n 2, 1) := by decide +kernel
theorem dT_compare_22 : decode cT_compare 22 = .ok (.invokevirtual 116, 3) := by decide +kernel
theorem dT_compare_25 : decode cT_compare 25 = .ok (.ireturn, 1) := by decide +kernel
theorem dT_tip_0 : decode cT_tip 0 = .ok (.aload_n 0, 1) := by decide +kernel
theorem dT_tip_1 : decode cT_tip 1 = .ok (.getfield 73, 3) := by decide +kernel
theorem dT_tip_4 : decode cT_tip 4 = .ok (.ireturn, 1) := by decide +kernel
theorem dT_size_0 : decode cT_size 0 = .ok (.aload_n 0, 1) := by decide +kernel
theorem dT_size_1 : decode cT_size 1 = .ok (.getfield 70, 3) := by decide +kernel
theorem dT_size_4 : decode cT_size 4 = .ok (.ireturn, 1) := by decide +kernel
theorem dT_below_0 : decode cT_below 0 = .ok (.aload_n 0, 1) := by decide +kernel
theorem dT_below_1 : decode cT_below 1 = .ok (.iload_n 1, 1) := by decide +kernel
theorem dT_below_2 : decode cT_below 2 = .ok (.invokevirtual 76, 3) := by decide +kernel
theorem dT_below_5 : decode cT_below 5 = .ok (.ifCond .eq 17, 3) := by decide +kernel
theorem dT_below_8 : decode cT_below 8 = .ok (.iload_n 2, 1) := by decide +kernel
theorem dT_below_9 : decode cT_below 9 = .ok (.ifCond .lt 13, 3) := by decide +kernel
theorem dT_below_12 : decode cT_below 12 = .ok (.iload_n 2, 1) := by decide +kernel
theorem dT_below_13 : decode cT_below 13 = .ok (.aload_n 0, 1) := by decide +kernel
theorem dT_below_14 : decode cT_below 14 = .ok (.getfield 17, 3) := by decide +kernel
theorem dT_below_17 : decode cT_below 17 = .ok (.iload_n 1, 1) := by decide +kernel
theorem dT_below_18 : decode cT_below 18 = .ok (.iaload, 1) := by decide +kernel
theorem dT_below_19 : decode cT_below 19 = .ok (.if_icmp .le 5, 3) := by decide +kernel
theorem dT_below_22 : decode cT_below 22 = .ok (.iconst (-1), 1) := by decide +kernel
theorem dT_below_23 : decode cT_below 23 = .ok (.ireturn, 1) := by decide +kernel
theorem dT_below_24 : decode cT_below 24 = .ok (.aload_n 0, 1) := by decide +kernel
theorem dT_below_25 : decode cT_below 25 = .ok (.iload_n 1, 1) := by decide +kernel
theorem dT_below_26 : decode cT_below 26 = .ok (.iload_n 2, 1) := by decide +kernel
theorem dT_below_27 : decode cT_below 27 = .ok (.invokevirtual 101, 3) := by decide +kernel
theorem dT_below_30 : decode cT_below 30 = .ok (.ireturn, 1) := by decide +kernel
theorem dT_fork_0 : decode cT_fork 0 = .ok (.aload_n 0, 1) := by decide +kernel
theorem dT_fork_1 : decode cT_fork 1 = .ok (.iload_n 1, 1) := by decide +kernel
theorem dT_fork_2 : decode cT_fork 2 = .ok (.invokevirtual 76, 3) := by decide +kernel
theorem dT_fork_5 : decode cT_fork 5 = .ok (.ifCond .eq 11, 3) := by decide +kernel
theorem dT_fork_8 : decode cT_fork 8 = .ok (.aload_n 0, 1) := by decide +kernel
theorem dT_fork_9 : decode cT_fork 9 = .ok (.iload_n 2, 1) := by decide +kernel
theorem dT_fork_10 : decode cT_fork 10 = .ok (.invokevirtual 76, 3) := by decide +kernel
theorem dT_fork_13 : decode cT_fork 13 = .ok (.ifCond .ne 5, 3) := by decide +kernel
theorem dT_fork_16 : decode cT_fork 16 = .ok (.iconst (-1), 1) := by decide +kernel
theorem dT_fork_17 : decode cT_fork 17 = .ok (.ireturn, 1) := by decide +kernel
theorem dT_fork_18 : decode cT_fork 18 = .ok (.iload_n 1, 1) := by decide +kernel
theorem dT_fork_19 : decode cT_fork 19 = .ok (.istore_n 3, 1) := by decide +kernel
theorem dT_fork_20 : decode cT_fork 20 = .ok (.iload_n 2, 1) := by decide +kernel
theorem dT_fork_21 : decode cT_fork 21 = .ok (.istore 4, 2) := by decide +kernel
theorem dT_fork_23 : decode cT_fork 23 = .ok (.iconst 2, 1) := by decide +kernel
theorem dT_fork_24 : decode cT_fork 24 = .ok (.aload_n 0, 1) := by decide +kernel
theorem dT_fork_25 : decode cT_fork 25 = .ok (.getfield 70, 3) := by decide +kernel
theorem dT_fork_28 : decode cT_fork 28 = .ok (.imul, 1) := by decide +kernel
theorem dT_fork_29 : decode cT_fork 29 = .ok (.istore 5, 2) := by decide +kernel
theorem dT_fork_31 : decode cT_fork 31 = .ok (.iload 5, 2) := by decide +kernel
theorem dT_fork_33 : decode cT_fork 33 = .ok (.ifCond .le 40, 3) := by decide +kernel
theorem dT_fork_36 : decode cT_fork 36 = .ok (.iload_n 3, 1) := by decide +kernel
theorem dT_fork_37 : decode cT_fork 37 = .ok (.iload 4, 2) := by decide +kernel
theorem dT_fork_39 : decode cT_fork 39 = .ok (.if_icmp .eq 34, 3) := by decide +kernel
theorem dT_fork_42 : decode cT_fork 42 = .ok (.iload_n 3, 1) := by decide +kernel
theorem dT_fork_43 : decode cT_fork 43 = .ok (.iload 4, 2) := by decide +kernel
theorem dT_fork_45 : decode cT_fork 45 = .ok (.if_icmp .le 13, 3) := by decide +kernel
theorem dT_fork_48 : decode cT_fork 48 = .ok (.aload_n 0, 1) := by decide +kernel
theorem dT_fork_49 : decode cT_fork 49 = .ok (.getfield 13, 3) := by decide +kernel
theorem dT_fork_52 : decode cT_fork 52 = .ok (.iload_n 3, 1) := by decide +kernel
theorem dT_fork_53 : decode cT_fork 53 = .ok (.iaload, 1) := by decide +kernel
theorem dT_fork_54 : decode cT_fork 54 = .ok (.istore_n 3, 1) := by decide +kernel
theorem dT_fork_55 : decode cT_fork 55 = .ok (.goto 12, 3) := by decide +kernel
theorem dT_fork_58 : decode cT_fork 58 = .ok (.aload_n 0, 1) := by decide +kernel
theorem dT_fork_59 : decode cT_fork 59 = .ok (.getfield 13, 3) := by decide +kernel
theorem dT_fork_62 : decode cT_fork 62 = .ok (.iload 4, 2) := by decide +kernel
theorem dT_fork_64 : decode cT_fork 64 = .ok (.iaload, 1) := by decide +kernel
theorem dT_fork_65 : decode cT_fork 65 = .ok (.istore 4, 2) := by decide +kernel
theorem dT_fork_67 : decode cT_fork 67 = .ok (.iinc 5 (-1), 3) := by decide +kernel
theorem dT_fork_70 : decode cT_fork 70 = .ok (.goto (-39), 3) := by decide +kernel
theorem dT_fork_73 : decode cT_fork 73 = .ok (.iload_n 3, 1) := by decide +kernel
theorem dT_fork_74 : decode cT_fork 74 = .ok (.ireturn, 1) := by decide +kernel
theorem dT_row_0 : decode cT_row 0 = .ok (.aload_n 0, 1) := by decide +kernel
theorem dT_row_1 : decode cT_row 1 = .ok (.iload_n 1, 1) := by decide +kernel
theorem dT_row_2 : decode cT_row 2 = .ok (.invokevirtual 76, 3) := by decide +kernel
theorem dT_row_5 : decode cT_row 5 = .ok (.ifCond .eq 17, 3) := by decide +kernel
theorem dT_row_8 : decode cT_row 8 = .ok (.iload_n 2, 1) := by decide +kernel
theorem dT_row_9 : decode cT_row 9 = .ok (.ifCond .lt 13, 3) := by decide +kernel
theorem dT_row_12 : decode cT_row 12 = .ok (.iload_n 2, 1) := by decide +kernel
theorem dT_row_13 : decode cT_row 13 = .ok (.aload_n 0, 1) := by decide +kernel
theorem dT_row_14 : decode cT_row 14 = .ok (.getfield 17, 3) := by decide +kernel
theorem dT_row_17 : decode cT_row 17 = .ok (.iload_n 1, 1) := by decide +kernel
theorem dT_row_18 : decode cT_row 18 = .ok (.iaload, 1) := by decide +kernel
theorem dT_row_19 : decode cT_row 19 = .ok (.if_icmp .le 5, 3) := by decide +kernel
theorem dT_row_22 : decode cT_row 22 = .ok (.iconst (-1), 1) := by decide +kernel
theorem dT_row_23 : decode cT_row 23 = .ok (.ireturn, 1) := by decide +kernel
theorem dT_row_24 : decode cT_row 24 = .ok (.aload_n 0, 1) := by decide +kernel
theorem dT_row_25 : decode cT_row 25 = .ok (.getfield 17, 3) := by decide +kernel
theorem dT_row_28 : decode cT_row 28 = .ok (.iload_n 1, 1) := by decide +kernel
theorem dT_row_29 : decode cT_row 29 = .ok (.iaload, 1) := by decide +kernel
theorem dT_row_30 : decode cT_row 30 = .ok (.istore_n 3, 1) := by decide +kernel
theorem dT_row_31 : decode cT_row 31 = .ok (.iconst 1, 1) := by decide +kernel
theorem dT_row_32 : decode cT_row 32 = .ok (.istore 4, 2) := by decide +kernel
theorem dT_row_34 : decode cT_row 34 = .ok (.iconst 1, 1) := by decide +kernel
theorem dT_row_35 : decode cT_row 35 = .ok (.istore 5, 2) := by decide +kernel
theorem dT_row_37 : decode cT_row 37 = .ok (.iload 5, 2) := by decide +kernel
theorem dT_row_39 : decode cT_row 39 = .ok (.iload_n 2, 1) := by decide +kernel
theorem dT_row_40 : decode cT_row 40 = .ok (.if_icmp .gt 37, 3) := by decide +kernel
theorem dT_row_43 : decode cT_row 43 = .ok (.iload_n 3, 1) := by decide +kernel
theorem dT_row_44 : decode cT_row 44 = .ok (.ifCond .ne 5, 3) := by decide +kernel
theorem dT_row_47 : decode cT_row 47 = .ok (.iconst (-1), 1) := by decide +kernel
theorem dT_row_48 : decode cT_row 48 = .ok (.ireturn, 1) := by decide +kernel
theorem dT_row_49 : decode cT_row 49 = .ok (.iload 5, 2) := by decide +kernel
theorem dT_row_51 : decode cT_row 51 = .ok (.bipush 9, 2) := by decide +kernel
theorem dT_row_53 : decode cT_row 53 = .ok (.if_icmp .le 9, 3) := by decide +kernel
theorem dT_row_56 : decode cT_row 56 = .ok (.iload 4, 2) := by decide +kernel
theorem dT_row_58 : decode cT_row 58 = .ok (.iconst 2, 1) := by decide +kernel
theorem dT_row_59 : decode cT_row 59 = .ok (.imul, 1) := by decide +kernel
theorem dT_row_60 : decode cT_row 60 = .ok (.istore 4, 2) := by decide +kernel
theorem dT_row_62 : decode cT_row 62 = .ok (.iconst 0, 1) := by decide +kernel
theorem dT_row_63 : decode cT_row 63 = .ok (.iload_n 3, 1) := by decide +kernel
theorem dT_row_64 : decode cT_row 64 = .ok (.iload 4, 2) := by decide +kernel
theorem dT_row_66 : decode cT_row 66 = .ok (.isub, 1) := by decide +kernel
theorem dT_row_67 : decode cT_row 67 = .ok (.invokestatic 119, 3) := by decide +kernel
theorem dT_row_70 : decode cT_row 70 = .ok (.istore_n 3, 1) := by decide +kernel
theorem dT_row_71 : decode cT_row 71 = .ok (.iinc 5 1, 3) := by decide +kernel
theorem dT_row_74 : decode cT_row 74 = .ok (.goto (-37), 3) := by decide +kernel
theorem dT_row_77 : decode cT_row 77 = .ok (.aload_n 0, 1) := by decide +kernel
theorem dT_row_78 : decode cT_row 78 = .ok (.iload_n 1, 1) := by decide +kernel
theorem dT_row_79 : decode cT_row 79 = .ok (.iload_n 3, 1) := by decide +kernel
theorem dT_row_80 : decode cT_row 80 = .ok (.invokevirtual 101, 3) := by decide +kernel
theorem dT_row_83 : decode cT_row 83 = .ok (.ireturn, 1) := by decide +kernel
theorem dT_fault_0 : decode cT_fault 0 = .ok (.lload_n 1, 1) := by decide +kernel
theorem dT_fault_1 : decode cT_fault 1 = .ok (.invokestatic 124, 3) := by decide +kernel
theorem dT_fault_4 : decode cT_fault 4 = .ok (.ireturn, 1) := by decide +kernel
theorem dT_target_0 : decode cT_target 0 = .ok (.lload_n 1, 1) := by decide +kernel
theorem dT_target_1 : decode cT_target 1 = .ok (.invokestatic 124, 3) := by decide +kernel
theorem dT_target_4 : decode cT_target 4 = .ok (.istore 4, 2) := by decide +kernel
theorem dT_target_6 : decode cT_target 6 = .ok (.iload 4, 2) := by decide +kernel
theorem dT_target_8 : decode cT_target 8 = .ok (.ifCond .eq 9, 3) := by decide +kernel
theorem dT_target_11 : decode cT_target 11 = .ok (.iload 4, 2) := by decide +kernel
theorem dT_target_13 : decode cT_target 13 = .ok (.iconst 4, 1) := by decide +kernel
theorem dT_target_14 : decode cT_target 14 = .ok (.if_icmp .ne 7, 3) := by decide +kernel
theorem dT_target_17 : decode cT_target 17 = .ok (.iconst 1, 1) := by decide +kernel
theorem dT_target_18 : decode cT_target 18 = .ok (.goto 4, 3) := by decide +kernel
theorem dT_target_21 : decode cT_target 21 = .ok (.iconst 0, 1) := by decide +kernel
theorem dT_target_22 : decode cT_target 22 = .ok (.istore 5, 2) := by decide +kernel
theorem dT_target_24 : decode cT_target 24 = .ok (.iload 5, 2) := by decide +kernel
theorem dT_target_26 : decode cT_target 26 = .ok (.ifCond .eq 20, 3) := by decide +kernel
theorem dT_target_29 : decode cT_target 29 = .ok (.iload_n 3, 1) := by decide +kernel
theorem dT_target_30 : decode cT_target 30 = .ok (.ifCond .lt 16, 3) := by decide +kernel
theorem dT_target_33 : decode cT_target 33 = .ok (.iload_n 3, 1) := by decide +kernel
theorem dT_target_34 : decode cT_target 34 = .ok (.iconst 4, 1) := by decide +kernel
theorem dT_target_35 : decode cT_target 35 = .ok (.if_icmp .ge 11, 3) := by decide +kernel
theorem dT_target_38 : decode cT_target 38 = .ok (.lload_n 1, 1) := by decide +kernel
theorem dT_target_39 : decode cT_target 39 = .ok (.iload_n 3, 1) := by decide +kernel
theorem dT_target_40 : decode cT_target 40 = .ok (.invokestatic 128, 3) := by decide +kernel
theorem dT_target_43 : decode cT_target 43 = .ok (.goto 4, 3) := by decide +kernel
theorem dT_target_46 : decode cT_target 46 = .ok (.lconst 0, 1) := by decide +kernel
theorem dT_target_47 : decode cT_target 47 = .ok (.lreturn, 1) := by decide +kernel
theorem dT_compact_0 : decode cT_compact 0 = .ok (.lload_n 1, 1) := by decide +kernel
theorem dT_compact_1 : decode cT_compact 1 = .ok (.lload_n 3, 1) := by decide +kernel
theorem dT_compact_2 : decode cT_compact 2 = .ok (.lload 5, 2) := by decide +kernel
theorem dT_compact_4 : decode cT_compact 4 = .ok (.lload 7, 2) := by decide +kernel
theorem dT_compact_6 : decode cT_compact 6 = .ok (.invokestatic 132, 3) := by decide +kernel
theorem dT_compact_9 : decode cT_compact 9 = .ok (.lreturn, 1) := by decide +kernel
end
section
/-! BASE. Exact contracts: 'ro_C' reads alone (the heap stays the same), 'rw_C' writes in its own world. -/
def ro_P (D : va_G) (cl : List vw_C) (tys : List (ClassId × FieldType)) (av : List Value) (w0 : va_W) : Array Value → State → Prop :=
  va_Pc av (fun U => va_P D cl w0 U.heap ∧ va_K D cl tys U)
def ro_Q (v : Option Value) : Array Value → State → Outcome → State → Prop := fun _ st oc t => oc = .returned v ∧ t.heap = st.heap
abbrev ro_C (l : Launch) (y : MethodName) (ws : List Cond) (rm : Room) (D : va_G) (cl : List vw_C) (tys : List (ClassId × FieldType)) (av : List Value) (w0 : va_W) (v : Option Value) : Prop :=
  Met l y ws rm (ro_P D cl tys av w0) (ro_Q v) 0 0 (fun _ => False)
def rw_P (D : va_G) (cl : List vw_C) (tys : List (ClassId × FieldType)) (av : List Value) (w0 : va_W) (sz : Nat) : Array Value → State → Prop :=
  va_Pc av (fun U => U.heap.size = sz ∧ va_P D cl w0 U.heap ∧ va_K D cl tys U ∧ va_D (fun _ => True) w0)
def rw_Q (D : va_G) (cl : List vw_C) (post : Option Value → va_W → Prop) (A : Nat → Prop) : Array Value → State → Outcome → State → Prop :=
  fun _ st oc t => (∃ (v : Option Value) (w : va_W), oc = .returned v ∧ post v w ∧ va_P D cl w t.heap ∧ va_D A w) ∧ va_F A st t
abbrev rw_C (l : Launch) (y : MethodName) (ws : List Cond) (rm : Room) (D : va_G) (cl : List vw_C) (tys : List (ClassId × FieldType)) (av : List Value) (w0 : va_W) (post : Option Value → va_W → Prop) (mc ms : Nat) : Prop :=
  ∀ sz : Nat, Met l y ws rm (rw_P D cl tys av w0 sz) (rw_Q D cl post (va_A w0 sz)) mc ms (va_A w0 sz)
theorem ro_blind {D : va_G} {cl : List vw_C} {tys : List (ClassId × FieldType)} {av : List Value} {w0 : va_W} : FrameBlind (ro_P D cl tys av w0) := fun a U g mk q => by
  obtain ⟨q0, qP, qK⟩ := q
  exact ⟨q0, qP, va_K.moved (u := U) (U := U.calling g mk a) (Vm.Alike.refl U.vm) qK⟩
theorem rw_blind {D : va_G} {cl : List vw_C} {tys : List (ClassId × FieldType)} {av : List Value} {w0 : va_W} {sz : Nat} : FrameBlind (rw_P D cl tys av w0 sz) := fun a U g mk q => by
  obtain ⟨q0, q1, qP, qK, qD⟩ := q
  exact ⟨q0, q1, qP, va_K.moved (u := U) (U := U.calling g mk a) (Vm.Alike.refl U.vm) qK, qD⟩
theorem ro_preS {s : State} {H : Heap} {D : va_G} {cl : List vw_C} {tys : List (ClassId × FieldType)} {av : List Value} {wc : va_W} (hP : va_P D cl wc H) (hK : va_K D cl tys s) : PreS s H (ro_P D cl tys av wc) av :=
  ⟨ro_blind, fun U hU hW => ⟨rfl, by rw [hU]; exact hP, va_K.moved hW.alike hK⟩⟩
theorem ro_preV {s : State} {H : Heap} {D : va_G} {cl : List vw_C} {tys : List (ClassId × FieldType)} {C : String} {b : Addr} {As : List Value} {wc : va_W} (hP : va_P D cl wc H) (hK : va_K D cl tys s) (hrc : ∃ cell : Cell, H[b]? = some cell ∧ cell.vm.isStatics = false ∧ s.vm.findClass C = some cell.cls) : PreV s H C b (ro_P D cl tys (.ref b :: As) wc) As :=
  ⟨ro_blind, hrc, fun U hU hW => ⟨rfl, by rw [hU]; exact hP, va_K.moved hW.alike hK⟩⟩
theorem rw_preS {s : State} {H : Heap} {D : va_G} {cl : List vw_C} {tys : List (ClassId × FieldType)} {av : List Value} {wc : va_W} {A : Nat → Prop} (hP : va_P D cl wc H) (hK : va_K D cl tys s) (hD : va_D A wc) : PreS s H (rw_P D cl tys av wc H.size) av :=
  ⟨rw_blind, fun U hU hW => ⟨rfl, by rw [hU], by rw [hU]; exact hP, va_K.moved hW.alike hK, hD.weaken (fun _ _ _ _ => trivial)⟩⟩
theorem rw_preV {s : State} {H : Heap} {D : va_G} {cl : List vw_C} {tys : List (ClassId × FieldType)} {C : String} {b : Addr} {As : List Value} {wc : va_W} {A : Nat → Prop} (hP : va_P D cl wc H) (hK : va_K D cl tys s) (hD : va_D A wc) (hrc : ∃ cell : Cell, H[b]? = some cell ∧ cell.vm.isStatics = false ∧ s.vm.findClass C = some cell.cls) : PreV s H C b (rw_P D cl tys (.ref b :: As) wc H.size) As :=
  ⟨rw_blind, hrc, fun U hU hW => ⟨rfl, by rw [hU], by rw [hU]; exact hP, va_K.moved hW.alike hK, hD.weaken (fun _ _ _ _ => trivial)⟩⟩
/-- the entry of a method that reads alone -/
theorem ro_of {l : Launch} {y : MethodName} {ws ws' : List Cond} {rm : Room} {D : va_G} {cl : List vw_C} {tys : List (ClassId × FieldType)} {av : List Value} {w0 : va_W} {v : Option Value} {cc : ByteArray} {maxL : Nat} {ret : Option FieldType}
    (hy : plainName y.cls = true) (hw : ws = Cond.code y cc maxL ret :: ws') (hlen : (lg_sl av).length ≤ maxL)
    (body : ∀ (p : Program) (e : Env) (s : State) (m : MethodId) (args : Array Value) (below : List Frame) (meth : Method) (c : Code) (Q : State → Prop) (ls : Array Slot),
      p.tables.exec = Jvm.exec → c.code = cc → meth.sig.returnType = ret → c.maxLocals = maxL → s.vm.findClass y.cls = some m.cls → (∀ w ∈ ws, w.before args s = true) → meth.locks = false →
      va_K D cl tys s → va_P D cl w0 s.heap → lv_has ls maxL (lv_args 0 av) → Q = MQ below (ro_Q v) args s 0 0 (fun _ => False) →
      W p l e rm s m args below meth c s.heap [] 0 0 Q (F0 m 0 ls [])) : ro_C l y ws rm D cl tys av w0 v := by
  refine Met.ofW (cc := cc) (maxL := maxL) (ret := ret) hy hw ?_
  intro p e s m args below meth c s₁ B hml hv
  obtain ⟨rfl, hP, hK⟩ := hv
  rw [lg_entry_eq]
  exact body p e s m _ below meth c _ _ B.exec B.bytes B.returns hml (findClass_of_methodNamed B.named) (atoms_spec (ws := ws) B.pre) B.notSynchronized hK hP (lv_entry av hlen) rfl
/-- the entry of a method that writes -/
theorem rw_of {l : Launch} {y : MethodName} {ws ws' : List Cond} {rm : Room} {D : va_G} {cl : List vw_C} {tys : List (ClassId × FieldType)} {av : List Value} {w0 : va_W} {post : Option Value → va_W → Prop} {mc ms : Nat} {cc : ByteArray} {maxL : Nat} {ret : Option FieldType}
    (hy : plainName y.cls = true) (hw : ws = Cond.code y cc maxL ret :: ws') (hlen : (lg_sl av).length ≤ maxL)
    (body : ∀ (p : Program) (e : Env) (s : State) (m : MethodId) (args : Array Value) (below : List Frame) (meth : Method) (c : Code) (Q : State → Prop) (A : Nat → Prop) (ls : Array Slot),
      p.tables.exec = Jvm.exec → c.code = cc → meth.sig.returnType = ret → c.maxLocals = maxL → s.vm.findClass y.cls = some m.cls → (∀ w ∈ ws, w.before args s = true) → meth.locks = false → meth.name = y.name →
      va_K D cl tys s → va_P D cl w0 s.heap → va_D A w0 → (∀ q : Nat, s.heap.size ≤ q → A q) → lv_has ls maxL (lv_args 0 av) → Q = MQ below (rw_Q D cl post A) args s mc ms A →
      W p l e rm s m args below meth c s.heap [] 0 0 Q (F0 m 0 ls [])) : rw_C l y ws rm D cl tys av w0 post mc ms := by
  intro sz
  refine Met.ofW (cc := cc) (maxL := maxL) (ret := ret) hy hw ?_
  intro p e s m args below meth c s₁ B hml hv
  obtain ⟨rfl, hsz, hP, hK, hD0⟩ := hv
  subst hsz
  rw [lg_entry_eq]
  exact body p e s m _ below meth c _ (va_A w0 s.heap.size) _ B.exec B.bytes B.returns hml (findClass_of_methodNamed B.named) (atoms_spec (ws := ws) B.pre) B.notSynchronized (name_of_methodNamed B.named B.method).1 hK hP hD0.self (fun q h => Or.inr h) (lv_entry av hlen) rfl
abbrev gT (cI cJ cZ : ClassId) : List (ClassId × FieldType) := [(cI, .int), (cJ, .long), (cZ, .boolean)]
section BASE
variable {p : Program} {l : Launch} {e : Env} {R : Room} {s : State} {m : MethodId} {args : Array Value} {below : List Frame} {meth : Method} {c : Code} {H : Heap} {locs : List Loc} {cells slots : Nat} {Q : State → Prop}
variable {cc : ByteArray} {pc : Nat} {ls : Array Slot} {rest st0 : List Value} {D : va_G} {cl : List vw_C} {A : Nat → Prop} {a : Nat} {tys : List (ClassId × FieldType)} {ws : va_W} {H0 : Heap}
theorem tp_i {x y : Int32} (h : x = y) (k : W p l e R s m args below meth c H locs cells slots Q (F0 m pc ls (.int y :: rest))) : W p l e R s m args below meth c H locs cells slots Q (F0 m pc ls (.int x :: rest)) := h ▸ k
theorem tp_l {x y : Int64} (h : x = y) (k : W p l e R s m args below meth c H locs cells slots Q (F0 m pc ls (.long y :: rest))) : W p l e R s m args below meth c H locs cells slots Q (F0 m pc ls (.long x :: rest)) := h ▸ k
theorem ro_iret {r r' : Int32} (hQ : Q = MQ below (ro_Q (some (.int r'))) args s 0 0 (fun _ => False)) (hx : p.tables.exec = Jvm.exec) (hb : c.code = cc) (hr : meth.sig.returnType = some .int) (hlocks : meth.locks = false) (hdg : decode cc pc = .ok (.ireturn, 1)) (e1 : r = r') : W p l e R s m args below meth c s.heap [] 0 0 Q (F0 m pc ls [.int r]) := by
  subst e1; subst hQ
  exact W.iret hx hb hr (fun t ht _ => ⟨rfl, ht⟩) (fun _ h => by cases h) hdg hlocks
theorem ro_zret {r r' : Int32} (hQ : Q = MQ below (ro_Q (some (.int r'))) args s 0 0 (fun _ => False)) (hx : p.tables.exec = Jvm.exec) (hb : c.code = cc) (hr : meth.sig.returnType = some .boolean) (hlocks : meth.locks = false) (hdg : decode cc pc = .ok (.ireturn, 1)) (hn : narrow .boolean (.int r) = .int r) (e1 : r = r') : W p l e R s m args below meth c s.heap [] 0 0 Q (F0 m pc ls [.int r]) := by
  subst e1; subst hQ
  exact W.zret hx hb hr hn (fun t ht _ => ⟨rfl, ht⟩) (fun _ h => by cases h) hdg hlocks
theorem ro_lret {r r' : Int64} (hQ : Q = MQ below (ro_Q (some (.long r'))) args s 0 0 (fun _ => False)) (hx : p.tables.exec = Jvm.exec) (hb : c.code = cc) (hr : meth.sig.returnType = some .long) (hlocks : meth.locks = false) (hdg : decode cc pc = .ok (.lreturn, 1)) (e1 : r = r') : W p l e R s m args below meth c s.heap [] 0 0 Q (F0 m pc ls [.long r]) := by
  subst e1; subst hQ
  exact W.lret hx hb hr (fun t ht _ => ⟨rfl, ht⟩) (fun _ h => by cases h) hdg hlocks
variable {post : Option Value → va_W → Prop}
theorem rw_vret {w : va_W} (hQ : Q = MQ below (rw_Q D cl post A) args s cells slots A) (hx : p.tables.exec = Jvm.exec) (hb : c.code = cc) (hr : meth.sig.returnType = none) (hlocks : meth.locks = false) (hdg : decode cc pc = .ok (.return_, 1)) (hP : va_P D cl w H) (hD : va_D A w) (hS : va_S A s.heap H locs) (hp : post none w) : W p l e R s m args below meth c H locs cells slots Q (F0 m pc ls []) := by
  subst hQ
  exact W.vret hx hb hr (fun t ht _ => ⟨⟨none, w, rfl, hp, by rw [ht]; exact hP, hD⟩, hS.F ht⟩) hS.2.2 hdg hlocks
theorem rw_iret {w : va_W} {r : Int32} (hQ : Q = MQ below (rw_Q D cl post A) args s cells slots A) (hx : p.tables.exec = Jvm.exec) (hb : c.code = cc) (hr : meth.sig.returnType = some .int) (hlocks : meth.locks = false) (hdg : decode cc pc = .ok (.ireturn, 1)) (hP : va_P D cl w H) (hD : va_D A w) (hS : va_S A s.heap H locs) (hp : post (some (.int r)) w) : W p l e R s m args below meth c H locs cells slots Q (F0 m pc ls [.int r]) := by
  subst hQ
  exact W.iret hx hb hr (fun t ht _ => ⟨⟨_, w, rfl, hp, by rw [ht]; exact hP, hD⟩, hS.F ht⟩) hS.2.2 hdg hlocks
theorem rw_zret {w : va_W} {r : Int32} (hQ : Q = MQ below (rw_Q D cl post A) args s cells slots A) (hx : p.tables.exec = Jvm.exec) (hb : c.code = cc) (hr : meth.sig.returnType = some .boolean) (hlocks : meth.locks = false) (hdg : decode cc pc = .ok (.ireturn, 1)) (hn : narrow .boolean (.int r) = .int r) (hP : va_P D cl w H) (hD : va_D A w) (hS : va_S A s.heap H locs) (hp : post (some (.int r)) w) : W p l e R s m args below meth c H locs cells slots Q (F0 m pc ls [.int r]) := by
  subst hQ
  exact W.zret hx hb hr hn (fun t ht _ => ⟨⟨_, w, rfl, hp, by rw [ht]; exact hP, hD⟩, hS.F ht⟩) hS.2.2 hdg hlocks
theorem rw_lret {w : va_W} {r : Int64} (hQ : Q = MQ below (rw_Q D cl post A) args s cells slots A) (hx : p.tables.exec = Jvm.exec) (hb : c.code = cc) (hr : meth.sig.returnType = some .long) (hlocks : meth.locks = false) (hdg : decode cc pc = .ok (.lreturn, 1)) (hP : va_P D cl w H) (hD : va_D A w) (hS : va_S A s.heap H locs) (hp : post (some (.long r)) w) : W p l e R s m args below meth c H locs cells slots Q (F0 m pc ls [.long r]) := by
  subst hQ
  exact W.lret hx hb hr (fun t ht _ => ⟨⟨_, w, rfl, hp, by rw [ht]; exact hP, hD⟩, hS.F ht⟩) hS.2.2 hdg hlocks
theorem rw_aret {w : va_W} {r : Nat} {rt : FieldType} (hQ : Q = MQ below (rw_Q D cl post A) args s cells slots A) (hx : p.tables.exec = Jvm.exec) (hb : c.code = cc) (hr : meth.sig.returnType = some rt) (hrt : (∃ n, rt = .object n) ∨ ∃ t, rt = .array t) (hlocks : meth.locks = false) (hdg : decode cc pc = .ok (.areturn, 1)) (hP : va_P D cl w H) (hD : va_D A w) (hS : va_S A s.heap H locs) (hp : post (some (.ref r)) w) : W p l e R s m args below meth c H locs cells slots Q (F0 m pc ls [.ref r]) := by
  subst hQ
  exact W.aret hx hb hr hrt (Or.inr ⟨r, rfl⟩) (fun t ht _ => ⟨⟨_, w, rfl, hp, by rw [ht]; exact hP, hD⟩, hS.F ht⟩) hS.2.2 hdg hlocks
/-- behind a call that reads alone: nothing has changed -/
theorem ro_k {v : Option Value} {av : Array Value} {sv : List Value} (hr : va_Run p l e R s m args below meth c H locs cells slots 0 0 (F0 m pc ls st0) rest (ro_Q v av) (fun _ => False)) (hsv : v.toList ++ rest = sv)
    (kk : W p l e R s m args below meth c H locs cells slots Q (F0 m (pc + 3) ls sv)) : W p l e R s m args below meth c H locs cells slots Q (F0 m pc ls st0) := by
  subst hsv
  intro T hT X
  obtain ⟨v', st₀, t, T', L, h0, X', hL, e1, e2, ⟨hv, hh⟩, st⟩ := hr T hT X
  cases hv
  have hL0 : L = [] := by
    cases L with
    | nil => rfl
    | cons a b => exact absurd (hL a List.mem_cons_self) (fun h => h)
  subst hL0
  rw [List.append_nil] at X'
  obtain ⟨t2, a1, b1⟩ := kk T' (by rw [e1, hh, h0]) X'
  exact ⟨t2, st t2 a1, b1⟩
theorem ro_ki {v : Int32} {av : Array Value} (hr : va_Run p l e R s m args below meth c H locs cells slots 0 0 (F0 m pc ls st0) rest (ro_Q (some (.int v)) av) (fun _ => False))
    (kk : W p l e R s m args below meth c H locs cells slots Q (F0 m (pc + 3) ls (.int v :: rest))) : W p l e R s m args below meth c H locs cells slots Q (F0 m pc ls st0) := ro_k hr rfl kk
theorem ro_kl {v : Int64} {av : Array Value} (hr : va_Run p l e R s m args below meth c H locs cells slots 0 0 (F0 m pc ls st0) rest (ro_Q (some (.long v)) av) (fun _ => False))
    (kk : W p l e R s m args below meth c H locs cells slots Q (F0 m (pc + 3) ls (.long v :: rest))) : W p l e R s m args below meth c H locs cells slots Q (F0 m pc ls st0) := ro_k hr rfl kk
/-- behind a call that writes: the callee's new world beside the rest -/
theorem rw_k {av : Array Value} {wc wr : va_W} {mc ms : Nat} (hr : va_Run p l e R s m args below meth c H locs cells slots mc ms (F0 m pc ls st0) rest (rw_Q D cl post (va_A wc H.size) av) (va_A wc H.size))
    (hP : va_P D cl ws H) (hD : va_D A ws) (hS : va_S A H0 H locs) (hA : ∀ q : Nat, H0.size ≤ q → A q) (isC isR : List Nat) (hC : isC.map (fun i => ws[i]?) = wc.map some) (hR : isR.map (fun i => ws[i]?) = wr.map some) (hn : va_nd isR = true) (hdis : ∀ i ∈ isR, i ∉ isC)
    (kk : ∀ (v : Option Value) (w1 : va_W) (H1 : Heap) (locs1 : List Loc), post v w1 → va_P D cl (wr ++ w1) H1 → va_D A (wr ++ w1) → va_S A H0 H1 locs1 → W p l e R s m args below meth c H1 locs1 (cells + mc) (slots + ms) Q (F0 m (pc + 3) ls (v.toList ++ rest))) : W p l e R s m args below meth c H locs cells slots Q (F0 m pc ls st0) := by
  have hFc := va_free (wc := wc) hD hS hA isC hC
  intro T hT X
  obtain ⟨v, st₀, t, T', L, h0, X', hL, e1, e2, ⟨⟨v', w, hv, hp, hPw, hDw⟩, hz, hk⟩, st⟩ := hr T hT X
  cases hv
  rw [h0] at hz hk
  obtain ⟨hP2, hD2⟩ := va_join (wr := wr) (w1 := w) (H1 := t.heap) hP hD isC isR hC hR hn hdis hk hFc hPw hDw
  obtain ⟨t2, a1, b1⟩ := kk v w T'.heap (locs ++ L) hp (by rw [e1]; exact hP2) hD2
    ⟨Nat.le_trans hS.1 (by rw [e1]; exact hz), fun q h1 h2 => by rw [e1, hk q (Nat.lt_of_lt_of_le h1 hS.1) (fun z => h2 (hFc q z))]; exact hS.2.1 q h1 h2, fun q hq => by
      rcases List.mem_append.mp hq with h | h
      · exact hS.2.2 q h
      · exact hFc _ (hL q h)⟩ T' rfl X'
  exact ⟨t2, st t2 a1, b1⟩
/-- arrays at a place that is a Nat -/
theorem ar_ild (hexec : p.tables.exec = Jvm.exec) (hb : c.code = cc) (hK : va_K D cl tys s) (hP : va_P D cl ws H) (q0 t0 : Nat) {cA : ClassId} {n j : Nat} {f : Nat → Int32} (ha : ws[q0]? = some (a, .inl (cA, n, .inl f))) (ht : tys[t0]? = some (cA, .int)) (hdg : decode cc pc = .ok (.iaload, 1)) (hj : j < n) (hn : n < 2 ^ 31)
    (kk : W p l e R s m args below meth c H locs cells slots Q (F0 m (pc + 1) ls (.int (f j) :: rest))) : W p l e R s m args below meth c H locs cells slots Q (F0 m pc ls (.int (nI j) :: .ref a :: rest)) := by
  refine va_iald hexec hb hK hP q0 t0 ha ht (vp_in_nI hj hn) hdg ?_
  rw [nI_clamp (Nat.lt_trans hj hn)]; exact kk
theorem ar_zld (hexec : p.tables.exec = Jvm.exec) (hb : c.code = cc) (hK : va_K D cl tys s) (hP : va_P D cl ws H) (q0 t0 : Nat) {cA : ClassId} {n j : Nat} {f : Nat → Int32} (ha : ws[q0]? = some (a, .inl (cA, n, .inl f))) (ht : tys[t0]? = some (cA, .boolean)) (hdg : decode cc pc = .ok (.baload, 1)) (hj : j < n) (hn : n < 2 ^ 31)
    (kk : W p l e R s m args below meth c H locs cells slots Q (F0 m (pc + 1) ls (.int (f j) :: rest))) : W p l e R s m args below meth c H locs cells slots Q (F0 m pc ls (.int (nI j) :: .ref a :: rest)) := by
  refine va_zald hexec hb hK hP q0 t0 ha ht (vp_in_nI hj hn) hdg ?_
  rw [nI_clamp (Nat.lt_trans hj hn)]; exact kk
theorem ar_lld (hexec : p.tables.exec = Jvm.exec) (hb : c.code = cc) (hK : va_K D cl tys s) (hP : va_P D cl ws H) (q0 t0 : Nat) {cA : ClassId} {n j : Nat} {f : Nat → Int64} (ha : ws[q0]? = some (a, .inl (cA, n, .inr (.inl f)))) (ht : tys[t0]? = some (cA, .long)) (hdg : decode cc pc = .ok (.laload, 1)) (hj : j < n) (hn : n < 2 ^ 31)
    (kk : W p l e R s m args below meth c H locs cells slots Q (F0 m (pc + 1) ls (.long (f j) :: rest))) : W p l e R s m args below meth c H locs cells slots Q (F0 m pc ls (.int (nI j) :: .ref a :: rest)) := by
  refine va_lald hexec hb hK hP q0 t0 ha ht (vp_in_nI hj hn) hdg ?_
  rw [nI_clamp (Nat.lt_trans hj hn)]; exact kk
theorem ar_ist (hexec : p.tables.exec = Jvm.exec) (hb : c.code = cc) (hK : va_K D cl tys s) (hP : va_P D cl ws H) (hD : va_D A ws) (hS : va_S A H0 H locs) (q0 t0 : Nat) {cA : ClassId} {n j : Nat} {f : Nat → Int32} (ha : ws[q0]? = some (a, .inl (cA, n, .inl f))) (ht : tys[t0]? = some (cA, .int)) {x : Int32} (hdg : decode cc pc = .ok (.iastore, 1)) (hj : j < n) (hn : n < 2 ^ 31)
    (kk : ∀ (H1 : Heap) (locs1 : List Loc), va_P D cl (ws.set q0 (a, .inl (cA, n, .inl (upd f j x)))) H1 → va_D A (ws.set q0 (a, .inl (cA, n, .inl (upd f j x)))) → va_S A H0 H1 locs1 → W p l e R s m args below meth c H1 locs1 cells slots Q (F0 m (pc + 1) ls rest)) : W p l e R s m args below meth c H locs cells slots Q (F0 m pc ls (.int x :: .int (nI j) :: .ref a :: rest)) := by
  refine va_iast hexec hb hK hP hD hS q0 t0 ha ht (vp_in_nI hj hn) hdg ?_
  rw [nI_clamp (Nat.lt_trans hj hn)]; exact kk
theorem ar_zst (hexec : p.tables.exec = Jvm.exec) (hb : c.code = cc) (hK : va_K D cl tys s) (hP : va_P D cl ws H) (hD : va_D A ws) (hS : va_S A H0 H locs) (q0 t0 : Nat) {cA : ClassId} {n j : Nat} {f : Nat → Int32} (ha : ws[q0]? = some (a, .inl (cA, n, .inl f))) (ht : tys[t0]? = some (cA, .boolean)) {x x' : Int32} (hdg : decode cc pc = .ok (.bastore, 1)) (hj : j < n) (hn : n < 2 ^ 31) (hx' : vp_nar .boolean x = x')
    (kk : ∀ (H1 : Heap) (locs1 : List Loc), va_P D cl (ws.set q0 (a, .inl (cA, n, .inl (upd f j x')))) H1 → va_D A (ws.set q0 (a, .inl (cA, n, .inl (upd f j x')))) → va_S A H0 H1 locs1 → W p l e R s m args below meth c H1 locs1 cells slots Q (F0 m (pc + 1) ls rest)) : W p l e R s m args below meth c H locs cells slots Q (F0 m pc ls (.int x :: .int (nI j) :: .ref a :: rest)) := by
  subst hx'
  refine va_zast hexec hb hK hP hD hS q0 t0 ha ht (vp_in_nI hj hn) hdg ?_
  rw [nI_clamp (Nat.lt_trans hj hn)]; exact kk
theorem ar_lst (hexec : p.tables.exec = Jvm.exec) (hb : c.code = cc) (hK : va_K D cl tys s) (hP : va_P D cl ws H) (hD : va_D A ws) (hS : va_S A H0 H locs) (q0 t0 : Nat) {cA : ClassId} {n j : Nat} {f : Nat → Int64} (ha : ws[q0]? = some (a, .inl (cA, n, .inr (.inl f)))) (ht : tys[t0]? = some (cA, .long)) {x : Int64} (hdg : decode cc pc = .ok (.lastore, 1)) (hj : j < n) (hn : n < 2 ^ 31)
    (kk : ∀ (H1 : Heap) (locs1 : List Loc), va_P D cl (ws.set q0 (a, .inl (cA, n, .inr (.inl (vp_updL f j x))))) H1 → va_D A (ws.set q0 (a, .inl (cA, n, .inr (.inl (vp_updL f j x))))) → va_S A H0 H1 locs1 → W p l e R s m args below meth c H1 locs1 cells slots Q (F0 m (pc + 1) ls rest)) : W p l e R s m args below meth c H locs cells slots Q (F0 m pc ls (.long x :: .int (nI j) :: .ref a :: rest)) := by
  refine va_last hexec hb hK hP hD hS q0 t0 ha ht (vp_in_nI hj hn) hdg ?_
  rw [nI_clamp (Nat.lt_trans hj hn)]; exact kk
/-- a long compared and a branch, in one -/
theorem lc_eq (hexec : p.tables.exec = Jvm.exec) (hb : c.code = cc) {x y : Int64} {off : Int} {tgt : Nat} (hd1 : decode cc pc = .ok (.lcmp, 1)) (hdg : decode cc (pc + 1) = .ok (.ifCond .eq off, 3)) (ht : ((pc + 1 : Nat) : Int) + off = (tgt : Int))
    (kt : x = y → W p l e R s m args below meth c H locs cells slots Q (F0 m tgt ls rest)) (kf : ¬ x = y → W p l e R s m args below meth c H locs cells slots Q (F0 m (pc + 4) ls rest)) : W p l e R s m args below meth c H locs cells slots Q (F0 m pc ls (.long y :: .long x :: rest)) :=
  W.lcmp hexec hb hd1 (lv_if_eq hexec hb hdg ht (fun h => kt ((lg_cmp_eq x y).mp h)) (fun h => kf (fun h2 => h ((lg_cmp_eq x y).mpr h2))))
theorem lc_ne (hexec : p.tables.exec = Jvm.exec) (hb : c.code = cc) {x y : Int64} {off : Int} {tgt : Nat} (hd1 : decode cc pc = .ok (.lcmp, 1)) (hdg : decode cc (pc + 1) = .ok (.ifCond .ne off, 3)) (ht : ((pc + 1 : Nat) : Int) + off = (tgt : Int))
    (kt : ¬ x = y → W p l e R s m args below meth c H locs cells slots Q (F0 m tgt ls rest)) (kf : x = y → W p l e R s m args below meth c H locs cells slots Q (F0 m (pc + 4) ls rest)) : W p l e R s m args below meth c H locs cells slots Q (F0 m pc ls (.long y :: .long x :: rest)) :=
  W.lcmp hexec hb hd1 (lv_if_ne hexec hb hdg ht (fun h => kt (fun h2 => h ((lg_cmp_eq x y).mpr h2))) (fun h => kf ((lg_cmp_eq x y).mp h)))
theorem lc_lt (hexec : p.tables.exec = Jvm.exec) (hb : c.code = cc) {x y : Int64} {off : Int} {tgt : Nat} (hd1 : decode cc pc = .ok (.lcmp, 1)) (hdg : decode cc (pc + 1) = .ok (.ifCond .lt off, 3)) (ht : ((pc + 1 : Nat) : Int) + off = (tgt : Int))
    (kt : x < y → W p l e R s m args below meth c H locs cells slots Q (F0 m tgt ls rest)) (kf : ¬ x < y → W p l e R s m args below meth c H locs cells slots Q (F0 m (pc + 4) ls rest)) : W p l e R s m args below meth c H locs cells slots Q (F0 m pc ls (.long y :: .long x :: rest)) :=
  W.lcmp hexec hb hd1 (lv_if_lt hexec hb hdg ht (fun h => kt ((lg_cmp_lt x y).mp h)) (fun h => kf (fun h2 => h ((lg_cmp_lt x y).mpr h2))))
theorem lc_ge (hexec : p.tables.exec = Jvm.exec) (hb : c.code = cc) {x y : Int64} {off : Int} {tgt : Nat} (hd1 : decode cc pc = .ok (.lcmp, 1)) (hdg : decode cc (pc + 1) = .ok (.ifCond .ge off, 3)) (ht : ((pc + 1 : Nat) : Int) + off = (tgt : Int))
    (kt : y ≤ x → W p l e R s m args below meth c H locs cells slots Q (F0 m tgt ls rest)) (kf : ¬ y ≤ x → W p l e R s m args below meth c H locs cells slots Q (F0 m (pc + 4) ls rest)) : W p l e R s m args below meth c H locs cells slots Q (F0 m pc ls (.long y :: .long x :: rest)) :=
  W.lcmp hexec hb hd1 (lv_if_ge hexec hb hdg ht (fun h => kt ((lg_cmp_ge x y).mp h)) (fun h => kf (fun h2 => h ((lg_cmp_ge x y).mpr h2))))
theorem lc_gt (hexec : p.tables.exec = Jvm.exec) (hb : c.code = cc) {x y : Int64} {off : Int} {tgt : Nat} (hd1 : decode cc pc = .ok (.lcmp, 1)) (hdg : decode cc (pc + 1) = .ok (.ifCond .gt off, 3)) (ht : ((pc + 1 : Nat) : Int) + off = (tgt : Int))
    (kt : y < x → W p l e R s m args below meth c H locs cells slots Q (F0 m tgt ls rest)) (kf : ¬ y < x → W p l e R s m args below meth c H locs cells slots Q (F0 m (pc + 4) ls rest)) : W p l e R s m args below meth c H locs cells slots Q (F0 m pc ls (.long y :: .long x :: rest)) :=
  W.lcmp hexec hb hd1 (lv_if_gt hexec hb hdg ht (fun h => kt ((lg_cmp_gt x y).mp h)) (fun h => kf (fun h2 => h ((lg_cmp_gt x y).mpr h2))))
theorem lc_le (hexec : p.tables.exec = Jvm.exec) (hb : c.code = cc) {x y : Int64} {off : Int} {tgt : Nat} (hd1 : decode cc pc = .ok (.lcmp, 1)) (hdg : decode cc (pc + 1) = .ok (.ifCond .le off, 3)) (ht : ((pc + 1 : Nat) : Int) + off = (tgt : Int))
    (kt : x ≤ y → W p l e R s m args below meth c H locs cells slots Q (F0 m tgt ls rest)) (kf : ¬ x ≤ y → W p l e R s m args below meth c H locs cells slots Q (F0 m (pc + 4) ls rest)) : W p l e R s m args below meth c H locs cells slots Q (F0 m pc ls (.long y :: .long x :: rest)) :=
  W.lcmp hexec hb hd1 (lv_if_le hexec hb hdg ht (fun h => kt ((lg_cmp_le x y).mp h)) (fun h => kf (fun h2 => h ((lg_cmp_le x y).mpr h2))))
/-- new arrays: their class is the one that the tables have -/
theorem ar_newJ {cI cJ cZ : ClassId} (hexec : p.tables.exec = Jvm.exec) (hb : c.code = cc) (harr : (Cond.arrayClass .long).before args s = true) (hK : va_K D cl (gT cI cJ cZ) s) (hP : va_P D cl ws H) (hD : va_D A ws) (hS : va_S A H0 H locs) (hA : ∀ q : Nat, H0.size ≤ q → A q) {N' : Nat} (hdg : decode cc pc = .ok (.newarray .long, 2)) (hN : N' < 2 ^ 20) (hcells : cells + 1 ≤ R.cells) (hslots : slots + N' ≤ R.slots)
    (kk : ∀ (q : Nat) (H1 : Heap), va_P D cl (ws ++ [(q, .inl (cJ, N', .inr (.inl (fun _ => 0))))]) H1 → va_D A (ws ++ [(q, .inl (cJ, N', .inr (.inl (fun _ => 0))))]) → va_S A H0 H1 locs → W p l e R s m args below meth c H1 locs (cells + 1) (slots + N') Q (F0 m (pc + 2) ls (.ref q :: rest))) : W p l e R s m args below meth c H locs cells slots Q (F0 m pc ls (.int (nI N') :: rest)) := by
  refine va_newa hexec hb (atype := .long) harr (ty := .long) rfl hK hP hD hS hA (a0 := (N', .inr (.inl (fun _ => 0)))) (fun _ => rfl) (nI_pos (by omega)) (nI_clamp (by omega)) (by show N' * 8 ≤ _; omega) hcells hslots hdg (fun q cA H1 hK1 hP1 hD1 hS1 => ?_)
  have a1 : s.vm.findClass ("[" ++ FieldType.long.toString) = some cA := (hK1.2 3 _ rfl).2
  have a2 : s.vm.findClass ("[" ++ FieldType.long.toString) = some cJ := (hK.2 1 _ rfl).2
  have e1 : cA = cJ := Option.some.inj (a1.symm.trans a2)
  subst e1
  exact kk q H1 hP1 hD1 hS1
theorem ar_newI {cI cJ cZ : ClassId} (hexec : p.tables.exec = Jvm.exec) (hb : c.code = cc) (harr : (Cond.arrayClass .int).before args s = true) (hK : va_K D cl (gT cI cJ cZ) s) (hP : va_P D cl ws H) (hD : va_D A ws) (hS : va_S A H0 H locs) (hA : ∀ q : Nat, H0.size ≤ q → A q) {N' : Nat} (hdg : decode cc pc = .ok (.newarray .int, 2)) (hN : N' < 2 ^ 20) (hcells : cells + 1 ≤ R.cells) (hslots : slots + N' ≤ R.slots)
    (kk : ∀ (q : Nat) (H1 : Heap), va_P D cl (ws ++ [(q, .inl (cI, N', .inl (fun _ => 0)))]) H1 → va_D A (ws ++ [(q, .inl (cI, N', .inl (fun _ => 0)))]) → va_S A H0 H1 locs → W p l e R s m args below meth c H1 locs (cells + 1) (slots + N') Q (F0 m (pc + 2) ls (.ref q :: rest))) : W p l e R s m args below meth c H locs cells slots Q (F0 m pc ls (.int (nI N') :: rest)) := by
  refine va_newa hexec hb (atype := .int) harr (ty := .int) rfl hK hP hD hS hA (a0 := (N', .inl (fun _ => 0))) (fun _ => rfl) (nI_pos (by omega)) (nI_clamp (by omega)) (by show N' * 4 ≤ _; omega) hcells hslots hdg (fun q cA H1 hK1 hP1 hD1 hS1 => ?_)
  have a1 : s.vm.findClass ("[" ++ FieldType.int.toString) = some cA := (hK1.2 3 _ rfl).2
  have a2 : s.vm.findClass ("[" ++ FieldType.int.toString) = some cI := (hK.2 0 _ rfl).2
  have e1 : cA = cI := Option.some.inj (a1.symm.trans a2)
  subst e1
  exact kk q H1 hP1 hD1 hS1
theorem ar_newZ {cI cJ cZ : ClassId} (hexec : p.tables.exec = Jvm.exec) (hb : c.code = cc) (harr : (Cond.arrayClass .boolean).before args s = true) (hK : va_K D cl (gT cI cJ cZ) s) (hP : va_P D cl ws H) (hD : va_D A ws) (hS : va_S A H0 H locs) (hA : ∀ q : Nat, H0.size ≤ q → A q) {N' : Nat} (hdg : decode cc pc = .ok (.newarray .boolean, 2)) (hN : N' < 2 ^ 20) (hcells : cells + 1 ≤ R.cells) (hslots : slots + N' ≤ R.slots)
    (kk : ∀ (q : Nat) (H1 : Heap), va_P D cl (ws ++ [(q, .inl (cZ, N', .inl (fun _ => 0)))]) H1 → va_D A (ws ++ [(q, .inl (cZ, N', .inl (fun _ => 0)))]) → va_S A H0 H1 locs → W p l e R s m args below meth c H1 locs (cells + 1) (slots + N') Q (F0 m (pc + 2) ls (.ref q :: rest))) : W p l e R s m args below meth c H locs cells slots Q (F0 m pc ls (.int (nI N') :: rest)) := by
  refine va_newa hexec hb (atype := .boolean) harr (ty := .boolean) rfl hK hP hD hS hA (a0 := (N', .inl (fun _ => 0))) (fun _ => rfl) (nI_pos (by omega)) (nI_clamp (by omega)) (by show N' * 1 ≤ _; omega) hcells hslots hdg (fun q cA H1 hK1 hP1 hD1 hS1 => ?_)
  have a1 : s.vm.findClass ("[" ++ FieldType.boolean.toString) = some cA := (hK1.2 3 _ rfl).2
  have a2 : s.vm.findClass ("[" ++ FieldType.boolean.toString) = some cZ := (hK.2 2 _ rfl).2
  have e1 : cA = cZ := Option.some.inj (a1.symm.trans a2)
  subst e1
  exact kk q H1 hP1 hD1 hS1
end BASE
theorem n_lt {a b : Nat} (h : nI a < nI b) (ha : a < 2 ^ 31) (hb : b < 2 ^ 31) : a < b := (nI_ltI ha hb).mp h
theorem n_nlt {a b : Nat} (h : ¬ nI a < nI b) (ha : a < 2 ^ 31) (hb : b < 2 ^ 31) : b ≤ a := Nat.not_lt.mp (fun q => h ((nI_ltI ha hb).mpr q))
theorem n_le {a b : Nat} (h : nI a ≤ nI b) (ha : a < 2 ^ 31) (hb : b < 2 ^ 31) : a ≤ b := (nI_leI ha hb).mp h
theorem n_nle {a b : Nat} (h : ¬ nI a ≤ nI b) (ha : a < 2 ^ 31) (hb : b < 2 ^ 31) : b < a := Nat.not_le.mp (fun q => h ((nI_leI ha hb).mpr q))
theorem n_eq {a b : Nat} (h : nI a = nI b) (ha : a < 2 ^ 31) (hb : b < 2 ^ 31) : a = b := (nI_eq ha hb).mp h
theorem n_ne {a b : Nat} (h : ¬ nI a = nI b) : ¬ a = b := fun q => h (by rw [q])
def j_shl (x : Int64) (y : Int32) : Int64 := x <<< (y.toInt64 &&& 63)
def j_shr (x : Int64) (y : Int32) : Int64 := x >>> (y.toInt64 &&& 63)
def j_ushr (x : Int64) (y : Int32) : Int64 := (x.toUInt64 >>> (y.toInt64.toUInt64 &&& Int64.toUInt64 63)).toInt64
def j_iushr (x y : Int32) : Int32 := (x.toUInt32 >>> (y.toUInt32 &&& Int32.toUInt32 31)).toInt32
theorem met_mono {l : Launch} {y : MethodName} {ws : List Cond} {rm : Room} {Pc Pc' : Array Value → State → Prop} {Qc Qc' : Array Value → State → Outcome → State → Prop} {mc ms : Nat} {free free' : Addr → Prop} (h : Met l y ws rm Pc Qc mc ms free)
    (hp : ∀ a s, Pc' a s → Pc a s) (hq : ∀ a s o t, Pc' a s → Qc a s o t → Qc' a s o t) (hf : ∀ q, free q → free' q) : Met l y ws rm Pc' Qc' mc ms free' := by
  intro p e ha hc hk s m args below hf1 happ hP hK
  obtain ⟨n, o, h1, h2, h3, hQ, L, hL, hLf⟩ := h p e ha hc hk s m args below hf1 happ (hp _ _ hP) hK
  exact ⟨n, o, h1, h2, h3, hq _ _ _ _ hP hQ, L, hL, fun q hq' => hf _ (hLf q hq')⟩
theorem rw_mono {l : Launch} {y : MethodName} {ws : List Cond} {rm : Room} {D : va_G} {cl : List vw_C} {tys : List (ClassId × FieldType)} {av : List Value} {w0 : va_W} {post post' : Option Value → va_W → Prop} {mc ms : Nat} (h : rw_C l y ws rm D cl tys av w0 post mc ms) (hq : ∀ v w, post v w → post' v w) : rw_C l y ws rm D cl tys av w0 post' mc ms := fun sz =>
  met_mono (h sz) (fun _ _ h => h) (fun _ _ _ _ _ h => ⟨by obtain ⟨v, w, h1, h2, h3⟩ := h.1; exact ⟨v, w, h1, hq v w h2, h3⟩, h.2⟩) (fun _ h => h)
theorem rw_of_ro {l : Launch} {y : MethodName} {ws : List Cond} {rm : Room} {D : va_G} {cl : List vw_C} {tys : List (ClassId × FieldType)} {av : List Value} {w0 : va_W} {v : Option Value} (h : ro_C l y ws rm D cl tys av w0 v) : rw_C l y ws rm D cl tys av w0 (fun v' w => v' = v ∧ w = w0) 0 0 := fun sz =>
  met_mono h (fun _ _ q => ⟨q.1, q.2.2.1, q.2.2.2.1⟩) (fun a s o t q h => by
    obtain ⟨q1, q2, q3, q4, q5⟩ := q
    exact ⟨⟨v, w0, h.1, ⟨rfl, rfl⟩, by rw [h.2]; exact q3, q5.self⟩, by rw [h.2]; exact Nat.le_refl _, fun _ _ _ => by rw [h.2]⟩) (fun _ h => h.elim)
end
section
/-! MIRRORS: what each method of the class answers, word for word, as functions. -/
def m_shift (b : Int64) : Int32 := nI 8 * ((j_ushr b (nI 24)).toInt32 - nI 3)
def m_join (x y : Int64) : Int64 := j_shl x (nI 32) ||| y
def m_byte (a b c d : Int64) (k : Int32) : Int64 := if 0 ≤ k then j_ushr (if nI 8 ≤ k then (if nI 16 ≤ k then (if nI 24 ≤ k then a else b) else c) else d) (nI 8 * (k - k / nI 8 * nI 8)) &&& 255 else 0
def m_nz (t k a : Int32) (p : Int32 × Int32) : Int32 × Int32 := if p.2 < t then p else (p.1 + a, j_iushr p.2 k)
def m_nlzi (i : Int32) : Int32 :=
  if 0 < i then (m_nz (nI 4) (nI 2) (-2) (m_nz (nI 16) (nI 4) (-4) (m_nz (nI 256) (nI 8) (-8) (m_nz (nI 65536) (nI 16) (-16) (nI 31, i))))).1 - j_iushr (m_nz (nI 4) (nI 2) (-2) (m_nz (nI 16) (nI 4) (-4) (m_nz (nI 256) (nI 8) (-8) (m_nz (nI 65536) (nI 16) (-16) (nI 31, i))))).2 (nI 1)
  else if i = 0 then nI 32 else nI 0
def m_nlz (x : Int64) : Int32 := if (j_ushr x (nI 32)).toInt32 = 0 then nI 32 + m_nlzi x.toInt32 else m_nlzi (j_ushr x (nI 32)).toInt32
def m_len (x : Int64) : Int32 := nI 64 - m_nlz x
def m_tp (b : Int64) (k : Int32) : Int64 :=
  if nI 64 ≤ m_shift b - nI 64 * (nI 3 - k) then 0 else if -64 < m_shift b - nI 64 * (nI 3 - k) then
    (if m_shift b - nI 64 * (nI 3 - k) < 0 then j_ushr (b &&& 8388607) (-(m_shift b - nI 64 * (nI 3 - k))) else j_shl (b &&& 8388607) (m_shift b - nI 64 * (nI 3 - k))) else 0
def m_th (b : Int64) (i : Nat) : Int64 := if i % 2 = 0 then j_ushr (m_tp b (nI (i / 2))) (nI 32) else m_tp b (nI (i / 2)) &&& 4294967295
def m_fault (b : Int64) : Int32 :=
  if b < 0 then -1 else if b ≤ 4294967295 then
    (if (b &&& 8388608 = 0) ∨ (b &&& 8388607 = 0) then
      (if (b &&& 8388607 = 0) ∨ (¬ 0 ≤ m_shift b ∧ j_ushr (b &&& 8388607) (-(m_shift b)) = 0) then nI 2
       else if m_shift b + m_len (b &&& 8388607) ≤ nI 256 then
         (if m_tp b (nI 0) < 0 then nI 4 else if m_tp b (nI 0) ≤ 9223370937343148032 then nI 0 else nI 4)
       else nI 3)
     else nI 1)
  else -1
def m_size (a b c d : Int64) : Nat → Nat
  | 0 => 0
  | k + 1 => if m_byte a b c d (nI k) = 0 then m_size a b c d k else k + 1
theorem m_size_s {a b c d : Int64} {k : Nat} (h : 0 < k) (e : m_byte a b c d (nI (k - 1)) = 0) : m_size a b c d (k - 1) = m_size a b c d k := by
  cases k with
  | zero => omega
  | succ k => rw [Nat.add_sub_cancel] at e ⊢; simp [m_size, e]
theorem m_size_e {a b c d : Int64} {k : Nat} (h : 0 < k) (e : ¬ m_byte a b c d (nI (k - 1)) = 0) : m_size a b c d k = k := by
  cases k with
  | zero => omega
  | succ k => rw [Nat.add_sub_cancel] at e; simp [m_size, e]
theorem m_size_0 {a b c d : Int64} {k : Nat} (h : k ≤ 0) : m_size a b c d k = k := by
  have : k = 0 := by omega
  subst this; rfl
def m_num (a b c d : Int64) (z : Nat) : Int64 := j_shl (j_shl (j_shl 0 (nI 8) ||| m_byte a b c d (nI z - nI 1)) (nI 8) ||| m_byte a b c d (nI z - nI 2)) (nI 8) ||| m_byte a b c d (nI z - nI 3)
def m_short (a b c d : Int64) : Int64 :=
  if m_num a b c d (m_size a b c d 32) &&& 8388608 = 0 then j_shl (nI (m_size a b c d 32)).toInt64 (nI 24) ||| m_num a b c d (m_size a b c d 32)
  else j_shl (nI (m_size a b c d 32 + 1)).toInt64 (nI 24) ||| j_ushr (m_num a b c d (m_size a b c d 32)) (nI 8)
def m_mulL (b t : Int64) : Nat → (Nat → Int64) → Int64 → (Nat → Int64)
  | 0, g, cy => vp_updL g 0 cy
  | k + 1, g, cy => m_mulL b t k (vp_updL g (k + 1) ((m_th b k * t + cy) &&& 4294967295)) (j_ushr (m_th b k * t + cy) (nI 32))
def m_mul (b t : Int64) (f : Nat → Int64) : Nat → Int64 := m_mulL b t 8 f 0
def m_divU : Nat → Nat → (Nat → Int64) → Int64 → (Nat → Int64)
  | 0, _, g, _ => g
  | d + 1, i, g, r => m_divU d (i + 1) (vp_updL g i (m_join r (g i) / 4800)) (m_join r (g i) - m_join r (g i) / 4800 * 4800)
def m_div (f : Nat → Int64) : Nat → Int64 := m_divU 9 0 f 0
def m_clamp (t : Int64) : Int64 := if (if t < 19200 then t else 19200) < 1200 then 1200 else (if t < 19200 then t else 19200)
def m_pr (b t : Int64) (f : Nat → Int64) : Nat → Int64 := m_div (m_mul b (m_clamp t) f)
def m_next (g : Nat → Int64) : Int64 :=
  if g 0 = 0 then (if m_join (g 1) (g 2) < 0 then 545259519 else if m_join (g 1) (g 2) < 9223370937343148032 then m_short (m_join (g 1) (g 2)) (m_join (g 3) (g 4)) (m_join (g 5) (g 6)) (m_join (g 7) (g 8)) else 545259519) else 545259519
def m_setL (b : Int64) : Nat → (Nat → Int64) → Int64 → (Nat → Int64)
  | 0, g, _ => g
  | k + 1, g, cy => m_setL b k (vp_updL g k ((m_th b k + cy) &&& 4294967295)) (j_ushr (m_th b k + cy) (nI 32))
def m_set (b : Int64) (f : Nat → Int64) : Nat → Int64 := m_setL b 8 f 1
def m_dlen (f : Nat → Int64) : Nat → Nat → Int32
  | 0, _ => nI 0
  | d + 1, i => if f i = 0 then m_dlen f d (i + 1) else nI (32 * (7 - i)) + m_len (f i)
def m_twL : Nat → (Nat → Int64) → Int64 → (Nat → Int64)
  | 0, g, _ => g
  | k + 1, g, cy => m_twL k (vp_updL g k ((j_shl (g k) (nI 1) ||| cy) &&& 4294967295)) (j_ushr (j_shl (g k) (nI 1) ||| cy) (nI 32))
def m_tw (f : Nat → Int64) (x : Int64) : Nat → Int64 := m_twL 8 f x
def m_hold (r d : Nat → Int64) : Nat → Nat → Int32
  | 0, _ => nI 1
  | n + 1, i => if r i = d i then m_hold r d n (i + 1) else if r i ≤ d i then nI 0 else nI 1
def m_subL (d : Nat → Int64) : Nat → (Nat → Int64) → Int64 → (Nat → Int64)
  | 0, g, _ => g
  | k + 1, g, bo => m_subL d k (vp_updL g k ((g k - d k - bo) &&& 4294967295)) (if 0 ≤ g k - d k - bo then 0 else 1)
def m_sub (r d : Nat → Int64) : Nat → Int64 := m_subL d 8 r 0
def m_fill (f : Nat → Int64) (n : Nat) (v : Int64) : Nat → Int64 := fun j => if j < n then v else f j
theorem m_fill_0 (f : Nat → Int64) (v : Int64) : m_fill f 0 v = f := by funext j; simp [m_fill]
theorem m_fill_s (f : Nat → Int64) (v : Int64) (i : Nat) : vp_updL (m_fill f i v) i v = m_fill f (i + 1) v := by
  funext j
  unfold vp_updL m_fill
  by_cases h : j = i
  · subst h; simp
  · by_cases h2 : j < i
    · have : j < i + 1 := by omega
      simp [h, h2, this]
    · have : ¬ j < i + 1 := by omega
      simp [h, h2, this]
def m_dvL (d : Nat → Int64) : Nat → (Nat → Int64) → (Nat → Int64) → (Nat → Int64) × (Nat → Int64)
  | 0, r, q => (r, q)
  | n + 1, r, q => if m_hold (m_tw r 0) d 8 0 = 0 then m_dvL d n (m_tw r 0) (m_tw q 0) else m_dvL d n (m_sub (m_tw r 0) d) (m_tw q 1)
def m_dv (d r q : Nat → Int64) (P : Nat) : (Nat → Int64) × (Nat → Int64) := m_dvL d (256 - P) (vp_updL (m_fill r 8 0) (7 - P / 32) (j_shl 1 (nI (P % 32)))) (m_fill q 8 0)
theorem dn_s {i : Int32} {k : Nat} (hi : i = nI k + (-1)) (c : ¬ i < 0) : ∃ j : Nat, k = j + 1 ∧ i = nI j := by
  cases k with
  | zero => exact absurd (by rw [hi]; decide) c
  | succ k => exact ⟨k, rfl, by rw [hi, pk_m1]⟩
theorem dn_0 {i : Int32} {k : Nat} (hi : i = nI k + (-1)) (c : i < 0) (hk : k < 2 ^ 31) : k = 0 := by
  cases k with
  | zero => rfl
  | succ k => rw [hi, pk_m1] at c; exact absurd c (nI_pos (by omega))
def nF (h : Nat → Nat) : Nat → Int32 := fun x => nI (h x)
def pF (h : Nat → Nat) : Nat → Int32 := fun x => if x = 0 then -1 else nI (h x)
def updN (h : Nat → Nat) (k v : Nat) : Nat → Nat := fun x => if x = k then v else h x
theorem pF_s {h : Nat → Nat} {x : Nat} (hx : 0 < x) : pF h x = nI (h x) := by unfold pF; rw [if_neg (by omega)]
theorem nF_u (h : Nat → Nat) (k v : Nat) : upd (nF h) k (nI v) = nF (updN h k v) := by
  funext x; unfold upd nF updN; by_cases e : x = k
  · rw [if_pos e, if_pos e]
  · rw [if_neg e, if_neg e]
theorem pF_u (h : Nat → Nat) {k : Nat} (v : Nat) (hk : 0 < k) : upd (pF h) k (nI v) = pF (updN h k v) := by
  funext x; unfold upd pF updN; by_cases e : x = k
  · subst e; rw [if_pos rfl, if_neg (by omega), if_pos rfl]
  · rw [if_neg e, if_neg e]
def m_cmp (W : Nat → Int64) (x y : Nat) : Nat → Nat → Int32
  | 0, _ => nI 0
  | d + 1, i => if W (x * 8 + i) = W (y * 8 + i) then m_cmp W x y d (i + 1) else if W (y * 8 + i) ≤ W (x * 8 + i) then nI 1 else -1
def m_anc (P : Nat → Nat) : Nat → Nat → Nat
  | 0, x => x
  | d + 1, x => if x = 0 then 0 else m_anc P d (P x)
theorem m_anc_s {P : Nat → Nat} {d x : Nat} (hd : 0 < d) (hx : 0 < x) : m_anc P (d - 1) (P x) = m_anc P d x := by
  cases d with
  | zero => omega
  | succ d => rw [Nat.add_sub_cancel, m_anc, if_neg (by omega)]
theorem m_anc_d {P : Nat → Nat} {d x : Nat} (hd : d ≤ 0) : m_anc P d x = x := by
  have : d = 0 := by omega
  subst this; rfl
theorem m_anc_0 {P : Nat → Nat} {d x : Nat} (hx : x ≤ 0) : m_anc P d x = x := by
  have : x = 0 := by omega
  subst this
  cases d with
  | zero => rfl
  | succ d => rw [m_anc, if_pos rfl]
def m_fork (P : Nat → Nat) : Nat → Nat → Nat → Nat
  | 0, u, _ => u
  | d + 1, u, v => if u = v then u else if u ≤ v then m_fork P d u (P v) else m_fork P d (P u) v
theorem m_fork_l {P : Nat → Nat} {d u v : Nat} (hd : 0 < d) (h : v < u) : m_fork P (d - 1) (P u) v = m_fork P d u v := by
  cases d with
  | zero => omega
  | succ d => rw [Nat.add_sub_cancel, m_fork, if_neg (by omega), if_neg (by omega)]
theorem m_fork_r {P : Nat → Nat} {d u v : Nat} (hd : 0 < d) (h : u ≤ v) (hn : ¬ u = v) : m_fork P (d - 1) u (P v) = m_fork P d u v := by
  cases d with
  | zero => omega
  | succ d => rw [Nat.add_sub_cancel, m_fork, if_neg hn, if_pos h]
theorem m_fork_0 {P : Nat → Nat} {d u v : Nat} (hd : d ≤ 0) : m_fork P d u v = u := by
  have : d = 0 := by omega
  subst this; rfl
theorem m_fork_e {P : Nat → Nat} {d u v : Nat} (h : u = v) : m_fork P d u v = u := by
  cases d with
  | zero => rfl
  | succ d => rw [m_fork, if_pos h]
def m_target (b : Int64) (k : Int32) : Int64 := if m_fault b = 0 ∨ m_fault b = nI 4 then (if k < 0 then 0 else if nI 4 ≤ k then 0 else m_tp b k) else 0
def m_best (Z : Nat → Nat) (W : Nat → Int64) : Nat → Nat → Nat → Nat
  | 0, _, x => x
  | d + 1, i, x => if Z i = 0 then (if m_cmp W i x 8 0 ≤ 0 then m_best Z W d (i + 1) x else m_best Z W d (i + 1) i) else m_best Z W d (i + 1) x
theorem mx_0 {a : Nat} (h : a < 2 ^ 31) : (if nI 0 < nI a then nI a else nI 0) = nI a := by
  by_cases h0 : a = 0
  · subst h0; simp
  · rw [if_pos (nI_lt (by omega) h)]
def m_row : Nat → Nat → Nat → Nat → Option Nat
  | 0, hh, _, _ => some hh
  | d + 1, hh, st, i => if hh = 0 then none else if i ≤ 9 then m_row d (hh - st) st (i + 1) else m_row d (hh - st * 2) (st * 2) (i + 1)
def m_rowR (P Hh : Nat → Nat) (j : Nat) : Option Nat → Int32
  | none => -1
  | some h => nI (m_anc P (Hh j - h) j)
theorem mx_s {a b : Nat} (ha : a < 2 ^ 30) (hb : b < 2 ^ 30) : (if nI 0 < nI a - nI b then nI a - nI b else nI 0) = nI (a - b) := by
  by_cases h : b ≤ a
  · rw [pk_sub h]; exact mx_0 (by omega)
  · have h1 : nI a - nI b < 0 := pk_sneg hb (by omega)
    have h2 : a - b = 0 := by omega
    rw [if_neg, h2]
    intro h3
    rw [nI_0] at h3
    rw [Int32.lt_iff_toInt_lt] at h1 h3
    omega
def m_rank (t : Int64) : Nat → (Nat → Int64) → (Nat → Int64)
  | 0, g => vp_updL g 0 t
  | k + 1, g => if g k ≤ t then vp_updL g (k + 1) t else m_rank t k (vp_updL g (k + 1) (g k))
def m_pn (P : Nat → Nat) (x : Nat) : Nat := if x = 0 then 0 else P x + 1
theorem m_pn_I (P : Nat → Nat) (x : Nat) : pF P x = nI (m_pn P x) + (-1) := by
  unfold pF m_pn
  by_cases h : x = 0
  · rw [if_pos h, if_pos h]; decide
  · rw [if_neg h, if_neg h, pk_m1]
def m_med (P : Nat → Nat) (T : Nat → Int64) : Nat → Nat → Nat → (Nat → Int64) → (Nat → Int64) × Nat
  | 0, c, _, g => (g, c)
  | _ + 1, c, 0, g => (g, c)
  | d + 1, c, x + 1, g => m_med P T d (c + 1) (m_pn P x) (m_rank (T x) c g)
def m_sumL (F : Nat → Int64) (x y : Nat) : Nat → (Nat → Int64) → Int64 → (Nat → Int64)
  | 0, g, _ => g
  | k + 1, g, cy => m_sumL F x y k (vp_updL g (x * 8 + k) ((g (y * 8 + k) + F k + cy) &&& 4294967295)) (j_ushr (g (y * 8 + k) + F k + cy) (nI 32))
def m_sum (F : Nat → Int64) (x y : Nat) (g : Nat → Int64) : Nat → Int64 := m_sumL F x y 8 g 0
def m_spb (P : Nat → Nat) : Nat → Nat → Nat → (Nat → Nat) → (Nat → Nat) × Nat
  | 0, _, s, z => (z, s)
  | d + 1, i, s, z => if z i = 0 then (if z (P i) = 0 then m_spb P d (i + 1) s z else m_spb P d (i + 1) (s + 1) (updN z i 1)) else m_spb P d (i + 1) s z
theorem updN_2 {z : Nat → Nat} {i : Nat} (h : ∀ x : Nat, z x < 2) : ∀ x : Nat, updN z i 1 x < 2 := by
  intro x; unfold updN; by_cases e : x = i
  · rw [if_pos e]; omega
  · rw [if_neg e]; exact h x
theorem m_pn_le {P : Nat → Nat} {n x : Nat} (hp : ∀ x : Nat, 0 < x → x < n → P x < x) (hx : x < n) : m_pn P x ≤ n := by
  unfold m_pn; by_cases e : x = 0
  · rw [if_pos e]; omega
  · rw [if_neg e]; have := hp x (by omega) hx; omega
theorem m_anc_lt {P : Nat → Nat} {n : Nat} (hp : ∀ x : Nat, 0 < x → x < n → P x < x) : ∀ {d x : Nat}, x < n → m_anc P d x < n := by
  intro d
  induction d with
  | zero => intro x hx; exact hx
  | succ d ih =>
    intro x hx
    rw [m_anc]
    by_cases e : x = 0
    · rw [if_pos e]; omega
    · rw [if_neg e]; exact ih (by have := hp x (by omega) hx; omega)
theorem m_spb_2 {P : Nat → Nat} : ∀ {d i s : Nat} {z : Nat → Nat}, (∀ x : Nat, z x < 2) → ∀ x : Nat, (m_spb P d i s z).1 x < 2 := by
  intro d
  induction d with
  | zero => intro i s z hz x; exact hz x
  | succ d ih =>
    intro i s z hz x
    rw [m_spb]
    by_cases h : z i = 0
    · rw [if_pos h]
      by_cases h2 : z (P i) = 0
      · rw [if_pos h2]; exact ih hz x
      · rw [if_neg h2]; exact ih (updN_2 hz) x
    · rw [if_neg h]; exact ih hz x
end
section
abbrev rm_c_J_nlzi : Room := { frames := 0, cells := 0, slots := 0, locals := 0 }
set_option maxRecDepth 100000 in
set_option maxHeartbeats 4000000 in
theorem c_J_nlzi (l : Launch) (D : va_G) (cI cJ cZ : ClassId) (i : Int32)  : ro_C l yJI_numberOfLeadingZeros wJI_numberOfLeadingZeros rm_c_J_nlzi D vwCl (gT cI cJ cZ) [.int i] [] (some (.int (m_nlzi i))) := by
  refine ro_of (cc := cJI_numberOfLeadingZeros) (maxL := 2) (ret := some .int) (by decide) rfl (Nat.le_of_ble_eq_true rfl) ?_
  intro p e s m args below meth c Q ls hx hb hr hml hown hts hlocks hK hP hl hQ
  have hl : lv_has ls 2 [(0, .int i)] := hl
  have hown : s.vm.findClass RJI = some m.cls := hown
  refine lv_iload_n hx hb dJI_numberOfLeadingZeros_0 rfl (lv_at hl 0 rfl) ?_
  refine lv_if_gt (tgt := 15) hx hb dJI_numberOfLeadingZeros_1 (by decide) (fun c_1 => ?_) (fun c_1 => ?_)
  · skip
    refine lv_bipush (v := nI 31) hx hb dJI_numberOfLeadingZeros_15 (by decide) ?_
    refine lv_istore_n (lv' := [(1, .int (nI 31)), (0, .int i)]) hx hb dJI_numberOfLeadingZeros_17 rfl hl (by decide) rfl (fun ls hl => ?_)
    refine lv_iload_n hx hb dJI_numberOfLeadingZeros_18 rfl (lv_at hl 1 rfl) ?_
    refine lv_ldcw (v := nI 65536) hx hb hown (hts (.constant RJI 264 65536) (by decide +kernel)) dJI_numberOfLeadingZeros_19 ?_
    refine lv_icmp_lt (tgt := 33) hx hb dJI_numberOfLeadingZeros_22 (by decide) (fun c_22 => ?_) (fun c_22 => ?_)
    · skip
      refine lv_iload_n hx hb dJI_numberOfLeadingZeros_33 rfl (lv_at hl 1 rfl) ?_
      refine lv_sipush (v := nI 256) hx hb dJI_numberOfLeadingZeros_34 (by decide) ?_
      refine lv_icmp_lt (tgt := 48) hx hb dJI_numberOfLeadingZeros_37 (by decide) (fun c_37 => ?_) (fun c_37 => ?_)
      · skip
        refine lv_iload_n hx hb dJI_numberOfLeadingZeros_48 rfl (lv_at hl 1 rfl) ?_
        refine lv_bipush (v := nI 16) hx hb dJI_numberOfLeadingZeros_49 (by decide) ?_
        refine lv_icmp_lt (tgt := 61) hx hb dJI_numberOfLeadingZeros_51 (by decide) (fun c_51 => ?_) (fun c_51 => ?_)
        · skip
          refine lv_iload_n hx hb dJI_numberOfLeadingZeros_61 rfl (lv_at hl 1 rfl) ?_
          refine lv_iconst (v := nI 4) hx hb dJI_numberOfLeadingZeros_62 (by decide) ?_
          refine lv_icmp_lt (tgt := 73) hx hb dJI_numberOfLeadingZeros_63 (by decide) (fun c_63 => ?_) (fun c_63 => ?_)
          · skip
            refine lv_iload_n hx hb dJI_numberOfLeadingZeros_73 rfl (lv_at hl 0 rfl) ?_
            refine lv_iload_n hx hb dJI_numberOfLeadingZeros_74 rfl (lv_at hl 1 rfl) ?_
            refine lv_iconst (v := nI 1) hx hb dJI_numberOfLeadingZeros_75 (by decide) ?_
            refine lv_iushr (v := j_iushr i (nI 1)) hx hb dJI_numberOfLeadingZeros_76 rfl ?_
            refine lv_isub hx hb dJI_numberOfLeadingZeros_77 ?_
            exact ro_iret hQ hx hb hr hlocks dJI_numberOfLeadingZeros_78 (by simp [m_nlzi, m_nz, c_1, c_22, c_37, c_51, c_63])
          · skip
            refine lv_iinc (v := (nI 31) + (-2)) (lv' := [(1, .int ((nI 31) + (-2))), (0, .int i)]) hx hb dJI_numberOfLeadingZeros_66 hl (k := 0) rfl rfl (by decide) rfl (fun ls hl => ?_)
            refine lv_iload_n hx hb dJI_numberOfLeadingZeros_69 rfl (lv_at hl 1 rfl) ?_
            refine lv_iconst (v := nI 2) hx hb dJI_numberOfLeadingZeros_70 (by decide) ?_
            refine lv_iushr (v := j_iushr i (nI 2)) hx hb dJI_numberOfLeadingZeros_71 rfl ?_
            refine lv_istore_n (lv' := [(0, .int (j_iushr i (nI 2))), (1, .int ((nI 31) + (-2)))]) hx hb dJI_numberOfLeadingZeros_72 rfl hl (by decide) rfl (fun ls hl => ?_)
            refine lv_iload_n hx hb dJI_numberOfLeadingZeros_73 rfl (lv_at hl 1 rfl) ?_
            refine lv_iload_n hx hb dJI_numberOfLeadingZeros_74 rfl (lv_at hl 0 rfl) ?_
            refine lv_iconst (v := nI 1) hx hb dJI_numberOfLeadingZeros_75 (by decide) ?_
            refine lv_iushr (v := j_iushr (j_iushr i (nI 2)) (nI 1)) hx hb dJI_numberOfLeadingZeros_76 rfl ?_
            refine lv_isub hx hb dJI_numberOfLeadingZeros_77 ?_
            exact ro_iret hQ hx hb hr hlocks dJI_numberOfLeadingZeros_78 (by simp [m_nlzi, m_nz, c_1, c_22, c_37, c_51, c_63])
        · skip
          refine lv_iinc (v := (nI 31) + (-4)) (lv' := [(1, .int ((nI 31) + (-4))), (0, .int i)]) hx hb dJI_numberOfLeadingZeros_54 hl (k := 0) rfl rfl (by decide) rfl (fun ls hl => ?_)
          refine lv_iload_n hx hb dJI_numberOfLeadingZeros_57 rfl (lv_at hl 1 rfl) ?_
          refine lv_iconst (v := nI 4) hx hb dJI_numberOfLeadingZeros_58 (by decide) ?_
          refine lv_iushr (v := j_iushr i (nI 4)) hx hb dJI_numberOfLeadingZeros_59 rfl ?_
          refine lv_istore_n (lv' := [(0, .int (j_iushr i (nI 4))), (1, .int ((nI 31) + (-4)))]) hx hb dJI_numberOfLeadingZeros_60 rfl hl (by decide) rfl (fun ls hl => ?_)
          refine lv_iload_n hx hb dJI_numberOfLeadingZeros_61 rfl (lv_at hl 0 rfl) ?_
          refine lv_iconst (v := nI 4) hx hb dJI_numberOfLeadingZeros_62 (by decide) ?_
          refine lv_icmp_lt (tgt := 73) hx hb dJI_numberOfLeadingZeros_63 (by decide) (fun c_63 => ?_) (fun c_63 => ?_)
          · skip
            refine lv_iload_n hx hb dJI_numberOfLeadingZeros_73 rfl (lv_at hl 1 rfl) ?_
            refine lv_iload_n hx hb dJI_numberOfLeadingZeros_74 rfl (lv_at hl 0 rfl) ?_
            refine lv_iconst (v := nI 1) hx hb dJI_numberOfLeadingZeros_75 (by decide) ?_
            refine lv_iushr (v := j_iushr (j_iushr i (nI 4)) (nI 1)) hx hb dJI_numberOfLeadingZeros_76 rfl ?_
            refine lv_isub hx hb dJI_numberOfLeadingZeros_77 ?_
            exact ro_iret hQ hx hb hr hlocks dJI_numberOfLeadingZeros_78 (by simp [m_nlzi, m_nz, c_1, c_22, c_37, c_51, c_63])
          · skip
            refine lv_iinc (v := ((nI 31) + (-4)) + (-2)) (lv' := [(1, .int (((nI 31) + (-4)) + (-2))), (0, .int (j_iushr i (nI 4)))]) hx hb dJI_numberOfLeadingZeros_66 hl (k := 1) rfl rfl (by decide) rfl (fun ls hl => ?_)
            refine lv_iload_n hx hb dJI_numberOfLeadingZeros_69 rfl (lv_at hl 1 rfl) ?_
            refine lv_iconst (v := nI 2) hx hb dJI_numberOfLeadingZeros_70 (by decide) ?_
            refine lv_iushr (v := j_iushr (j_iushr i (nI 4)) (nI 2)) hx hb dJI_numberOfLeadingZeros_71 rfl ?_
            refine lv_istore_n (lv' := [(0, .int (j_iushr (j_iushr i (nI 4)) (nI 2))), (1, .int (((nI 31) + (-4)) + (-2)))]) hx hb dJI_numberOfLeadingZeros_72 rfl hl (by decide) rfl (fun ls hl => ?_)
            refine lv_iload_n hx hb dJI_numberOfLeadingZeros_73 rfl (lv_at hl 1 rfl) ?_
            refine lv_iload_n hx hb dJI_numberOfLeadingZeros_74 rfl (lv_at hl 0 rfl) ?_
            refine lv_iconst (v := nI 1) hx hb dJI_numberOfLeadingZeros_75 (by decide) ?_
            refine lv_iushr (v := j_iushr (j_iushr (j_iushr i (nI 4)) (nI 2)) (nI 1)) hx hb dJI_numberOfLeadingZeros_76 rfl ?_
            refine lv_isub hx hb dJI_numberOfLeadingZeros_77 ?_
            exact ro_iret hQ hx hb hr hlocks dJI_numberOfLeadingZeros_78 (by simp [m_nlzi, m_nz, c_1, c_22, c_37, c_51, c_63])
      · skip
        refine lv_iinc (v := (nI 31) + (-8)) (lv' := [(1, .int ((nI 31) + (-8))), (0, .int i)]) hx hb dJI_numberOfLeadingZeros_40 hl (k := 0) rfl rfl (by decide) rfl (fun ls hl => ?_)
        refine lv_iload_n hx hb dJI_numberOfLeadingZeros_43 rfl (lv_at hl 1 rfl) ?_
        refine lv_bipush (v := nI 8) hx hb dJI_numberOfLeadingZeros_44 (by decide) ?_
        refine lv_iushr (v := j_iushr i (nI 8)) hx hb dJI_numberOfLeadingZeros_46 rfl ?_
        refine lv_istore_n (lv' := [(0, .int (j_iushr i (nI 8))), (1, .int ((nI 31) + (-8)))]) hx hb dJI_numberOfLeadingZeros_47 rfl hl (by decide) rfl (fun ls hl => ?_)
        refine lv_iload_n hx hb dJI_numberOfLeadingZeros_48 rfl (lv_at hl 0 rfl) ?_
        refine lv_bipush (v := nI 16) hx hb dJI_numberOfLeadingZeros_49 (by decide) ?_
        refine lv_icmp_lt (tgt := 61) hx hb dJI_numberOfLeadingZeros_51 (by decide) (fun c_51 => ?_) (fun c_51 => ?_)
        · skip
          refine lv_iload_n hx hb dJI_numberOfLeadingZeros_61 rfl (lv_at hl 0 rfl) ?_
          refine lv_iconst (v := nI 4) hx hb dJI_numberOfLeadingZeros_62 (by decide) ?_
          refine lv_icmp_lt (tgt := 73) hx hb dJI_numberOfLeadingZeros_63 (by decide) (fun c_63 => ?_) (fun c_63 => ?_)
          · skip
            refine lv_iload_n hx hb dJI_numberOfLeadingZeros_73 rfl (lv_at hl 1 rfl) ?_
            refine lv_iload_n hx hb dJI_numberOfLeadingZeros_74 rfl (lv_at hl 0 rfl) ?_
            refine lv_iconst (v := nI 1) hx hb dJI_numberOfLeadingZeros_75 (by decide) ?_
            refine lv_iushr (v := j_iushr (j_iushr i (nI 8)) (nI 1)) hx hb dJI_numberOfLeadingZeros_76 rfl ?_
            refine lv_isub hx hb dJI_numberOfLeadingZeros_77 ?_
            exact ro_iret hQ hx hb hr hlocks dJI_numberOfLeadingZeros_78 (by simp [m_nlzi, m_nz, c_1, c_22, c_37, c_51, c_63])
          · skip
            refine lv_iinc (v := ((nI 31) + (-8)) + (-2)) (lv' := [(1, .int (((nI 31) + (-8)) + (-2))), (0, .int (j_iushr i (nI 8)))]) hx hb dJI_numberOfLeadingZeros_66 hl (k := 1) rfl rfl (by decide) rfl (fun ls hl => ?_)
            refine lv_iload_n hx hb dJI_numberOfLeadingZeros_69 rfl (lv_at hl 1 rfl) ?_
            refine lv_iconst (v := nI 2) hx hb dJI_numberOfLeadingZeros_70 (by decide) ?_
            refine lv_iushr (v := j_iushr (j_iushr i (nI 8)) (nI 2)) hx hb dJI_numberOfLeadingZeros_71 rfl ?_
            refine lv_istore_n (lv' := [(0, .int (j_iushr (j_iushr i (nI 8)) (nI 2))), (1, .int (((nI 31) + (-8)) + (-2)))]) hx hb dJI_numberOfLeadingZeros_72 rfl hl (by decide) rfl (fun ls hl => ?_)
            refine lv_iload_n hx hb dJI_numberOfLeadingZeros_73 rfl (lv_at hl 1 rfl) ?_
            refine lv_iload_n hx hb dJI_numberOfLeadingZeros_74 rfl (lv_at hl 0 rfl) ?_
            refine lv_iconst (v := nI 1) hx hb dJI_numberOfLeadingZeros_75 (by decide) ?_
            refine lv_iushr (v := j_iushr (j_iushr (j_iushr i (nI 8)) (nI 2)) (nI 1)) hx hb dJI_numberOfLeadingZeros_76 rfl ?_
            refine lv_isub hx hb dJI_numberOfLeadingZeros_77 ?_
            exact ro_iret hQ hx hb hr hlocks dJI_numberOfLeadingZeros_78 (by simp [m_nlzi, m_nz, c_1, c_22, c_37, c_51, c_63])
        · skip
          refine lv_iinc (v := ((nI 31) + (-8)) + (-4)) (lv' := [(1, .int (((nI 31) + (-8)) + (-4))), (0, .int (j_iushr i (nI 8)))]) hx hb dJI_numberOfLeadingZeros_54 hl (k := 1) rfl rfl (by decide) rfl (fun ls hl => ?_)
          refine lv_iload_n hx hb dJI_numberOfLeadingZeros_57 rfl (lv_at hl 1 rfl) ?_
          refine lv_iconst (v := nI 4) hx hb dJI_numberOfLeadingZeros_58 (by decide) ?_
          refine lv_iushr (v := j_iushr (j_iushr i (nI 8)) (nI 4)) hx hb dJI_numberOfLeadingZeros_59 rfl ?_
          refine lv_istore_n (lv' := [(0, .int (j_iushr (j_iushr i (nI 8)) (nI 4))), (1, .int (((nI 31) + (-8)) + (-4)))]) hx hb dJI_numberOfLeadingZeros_60 rfl hl (by decide) rfl (fun ls hl => ?_)
          refine lv_iload_n hx hb dJI_numberOfLeadingZeros_61 rfl (lv_at hl 0 rfl) ?_
          refine lv_iconst (v := nI 4) hx hb dJI_numberOfLeadingZeros_62 (by decide) ?_
          refine lv_icmp_lt (tgt := 73) hx hb dJI_numberOfLeadingZeros_63 (by decide) (fun c_63 => ?_) (fun c_63 => ?_)
          · skip
            refine lv_iload_n hx hb dJI_numberOfLeadingZeros_73 rfl (lv_at hl 1 rfl) ?_
            refine lv_iload_n hx hb dJI_numberOfLeadingZeros_74 rfl (lv_at hl 0 rfl) ?_
            refine lv_iconst (v := nI 1) hx hb dJI_numberOfLeadingZeros_75 (by decide) ?_
            refine lv_iushr (v := j_iushr (j_iushr (j_iushr i (nI 8)) (nI 4)) (nI 1)) hx hb dJI_numberOfLeadingZeros_76 rfl ?_
            refine lv_isub hx hb dJI_numberOfLeadingZeros_77 ?_
            exact ro_iret hQ hx hb hr hlocks dJI_numberOfLeadingZeros_78 (by simp [m_nlzi, m_nz, c_1, c_22, c_37, c_51, c_63])
          · skip
            refine lv_iinc (v := (((nI 31) + (-8)) + (-4)) + (-2)) (lv' := [(1, .int ((((nI 31) + (-8)) + (-4)) + (-2))), (0, .int (j_iushr (j_iushr i (nI 8)) (nI 4)))]) hx hb dJI_numberOfLeadingZeros_66 hl (k := 1) rfl rfl (by decide) rfl (fun ls hl => ?_)
            refine lv_iload_n hx hb dJI_numberOfLeadingZeros_69 rfl (lv_at hl 1 rfl) ?_
            refine lv_iconst (v := nI 2) hx hb dJI_numberOfLeadingZeros_70 (by decide) ?_
            refine lv_iushr (v := j_iushr (j_iushr (j_iushr i (nI 8)) (nI 4)) (nI 2)) hx hb dJI_numberOfLeadingZeros_71 rfl ?_
            refine lv_istore_n (lv' := [(0, .int (j_iushr (j_iushr (j_iushr i (nI 8)) (nI 4)) (nI 2))), (1, .int ((((nI 31) + (-8)) + (-4)) + (-2)))]) hx hb dJI_numberOfLeadingZeros_72 rfl hl (by decide) rfl (fun ls hl => ?_)
            refine lv_iload_n hx hb dJI_numberOfLeadingZeros_73 rfl (lv_at hl 1 rfl) ?_
            refine lv_iload_n hx hb dJI_numberOfLeadingZeros_74 rfl (lv_at hl 0 rfl) ?_
            refine lv_iconst (v := nI 1) hx hb dJI_numberOfLeadingZeros_75 (by decide) ?_
            refine lv_iushr (v := j_iushr (j_iushr (j_iushr (j_iushr i (nI 8)) (nI 4)) (nI 2)) (nI 1)) hx hb dJI_numberOfLeadingZeros_76 rfl ?_
            refine lv_isub hx hb dJI_numberOfLeadingZeros_77 ?_
            exact ro_iret hQ hx hb hr hlocks dJI_numberOfLeadingZeros_78 (by simp [m_nlzi, m_nz, c_1, c_22, c_37, c_51, c_63])
    · skip
      refine lv_iinc (v := (nI 31) + (-16)) (lv' := [(1, .int ((nI 31) + (-16))), (0, .int i)]) hx hb dJI_numberOfLeadingZeros_25 hl (k := 0) rfl rfl (by decide) rfl (fun ls hl => ?_)
      refine lv_iload_n hx hb dJI_numberOfLeadingZeros_28 rfl (lv_at hl 1 rfl) ?_
      refine lv_bipush (v := nI 16) hx hb dJI_numberOfLeadingZeros_29 (by decide) ?_
      refine lv_iushr (v := j_iushr i (nI 16)) hx hb dJI_numberOfLeadingZeros_31 rfl ?_
      refine lv_istore_n (lv' := [(0, .int (j_iushr i (nI 16))), (1, .int ((nI 31) + (-16)))]) hx hb dJI_numberOfLeadingZeros_32 rfl hl (by decide) rfl (fun ls hl => ?_)
      refine lv_iload_n hx hb dJI_numberOfLeadingZeros_33 rfl (lv_at hl 0 rfl) ?_
      refine lv_sipush (v := nI 256) hx hb dJI_numberOfLeadingZeros_34 (by decide) ?_
      refine lv_icmp_lt (tgt := 48) hx hb dJI_numberOfLeadingZeros_37 (by decide) (fun c_37 => ?_) (fun c_37 => ?_)
      · skip
        refine lv_iload_n hx hb dJI_numberOfLeadingZeros_48 rfl (lv_at hl 0 rfl) ?_
        refine lv_bipush (v := nI 16) hx hb dJI_numberOfLeadingZeros_49 (by decide) ?_
        refine lv_icmp_lt (tgt := 61) hx hb dJI_numberOfLeadingZeros_51 (by decide) (fun c_51 => ?_) (fun c_51 => ?_)
        · skip
          refine lv_iload_n hx hb dJI_numberOfLeadingZeros_61 rfl (lv_at hl 0 rfl) ?_
          refine lv_iconst (v := nI 4) hx hb dJI_numberOfLeadingZeros_62 (by decide) ?_
          refine lv_icmp_lt (tgt := 73) hx hb dJI_numberOfLeadingZeros_63 (by decide) (fun c_63 => ?_) (fun c_63 => ?_)
          · skip
            refine lv_iload_n hx hb dJI_numberOfLeadingZeros_73 rfl (lv_at hl 1 rfl) ?_
            refine lv_iload_n hx hb dJI_numberOfLeadingZeros_74 rfl (lv_at hl 0 rfl) ?_
            refine lv_iconst (v := nI 1) hx hb dJI_numberOfLeadingZeros_75 (by decide) ?_
            refine lv_iushr (v := j_iushr (j_iushr i (nI 16)) (nI 1)) hx hb dJI_numberOfLeadingZeros_76 rfl ?_
            refine lv_isub hx hb dJI_numberOfLeadingZeros_77 ?_
            exact ro_iret hQ hx hb hr hlocks dJI_numberOfLeadingZeros_78 (by simp [m_nlzi, m_nz, c_1, c_22, c_37, c_51, c_63])
          · skip
            refine lv_iinc (v := ((nI 31) + (-16)) + (-2)) (lv' := [(1, .int (((nI 31) + (-16)) + (-2))), (0, .int (j_iushr i (nI 16)))]) hx hb dJI_numberOfLeadingZeros_66 hl (k := 1) rfl rfl (by decide) rfl (fun ls hl => ?_)
            refine lv_iload_n hx hb dJI_numberOfLeadingZeros_69 rfl (lv_at hl 1 rfl) ?_
            refine lv_iconst (v := nI 2) hx hb dJI_numberOfLeadingZeros_70 (by decide) ?_
            refine lv_iushr (v := j_iushr (j_iushr i (nI 16)) (nI 2)) hx hb dJI_numberOfLeadingZeros_71 rfl ?_
            refine lv_istore_n (lv' := [(0, .int (j_iushr (j_iushr i (nI 16)) (nI 2))), (1, .int (((nI 31) + (-16)) + (-2)))]) hx hb dJI_numberOfLeadingZeros_72 rfl hl (by decide) rfl (fun ls hl => ?_)
            refine lv_iload_n hx hb dJI_numberOfLeadingZeros_73 rfl (lv_at hl 1 rfl) ?_
            refine lv_iload_n hx hb dJI_numberOfLeadingZeros_74 rfl (lv_at hl 0 rfl) ?_
            refine lv_iconst (v := nI 1) hx hb dJI_numberOfLeadingZeros_75 (by decide) ?_
            refine lv_iushr (v := j_iushr (j_iushr (j_iushr i (nI 16)) (nI 2)) (nI 1)) hx hb dJI_numberOfLeadingZeros_76 rfl ?_
            refine lv_isub hx hb dJI_numberOfLeadingZeros_77 ?_
            exact ro_iret hQ hx hb hr hlocks dJI_numberOfLeadingZeros_78 (by simp [m_nlzi, m_nz, c_1, c_22, c_37, c_51, c_63])
        · skip
          refine lv_iinc (v := ((nI 31) + (-16)) + (-4)) (lv' := [(1, .int (((nI 31) + (-16)) + (-4))), (0, .int (j_iushr i (nI 16)))]) hx hb dJI_numberOfLeadingZeros_54 hl (k := 1) rfl rfl (by decide) rfl (fun ls hl => ?_)
          refine lv_iload_n hx hb dJI_numberOfLeadingZeros_57 rfl (lv_at hl 1 rfl) ?_
          refine lv_iconst (v := nI 4) hx hb dJI_numberOfLeadingZeros_58 (by decide) ?_
          refine lv_iushr (v := j_iushr (j_iushr i (nI 16)) (nI 4)) hx hb dJI_numberOfLeadingZeros_59 rfl ?_
          refine lv_istore_n (lv' := [(0, .int (j_iushr (j_iushr i (nI 16)) (nI 4))), (1, .int (((nI 31) + (-16)) + (-4)))]) hx hb dJI_numberOfLeadingZeros_60 rfl hl (by decide) rfl (fun ls hl => ?_)
          refine lv_iload_n hx hb dJI_numberOfLeadingZeros_61 rfl (lv_at hl 0 rfl) ?_
          refine lv_iconst (v := nI 4) hx hb dJI_numberOfLeadingZeros_62 (by decide) ?_
          refine lv_icmp_lt (tgt := 73) hx hb dJI_numberOfLeadingZeros_63 (by decide) (fun c_63 => ?_) (fun c_63 => ?_)
          · skip
            refine lv_iload_n hx hb dJI_numberOfLeadingZeros_73 rfl (lv_at hl 1 rfl) ?_
            refine lv_iload_n hx hb dJI_numberOfLeadingZeros_74 rfl (lv_at hl 0 rfl) ?_
            refine lv_iconst (v := nI 1) hx hb dJI_numberOfLeadingZeros_75 (by decide) ?_
            refine lv_iushr (v := j_iushr (j_iushr (j_iushr i (nI 16)) (nI 4)) (nI 1)) hx hb dJI_numberOfLeadingZeros_76 rfl ?_
            refine lv_isub hx hb dJI_numberOfLeadingZeros_77 ?_
            exact ro_iret hQ hx hb hr hlocks dJI_numberOfLeadingZeros_78 (by simp [m_nlzi, m_nz, c_1, c_22, c_37, c_51, c_63])
          · skip
            refine lv_iinc (v := (((nI 31) + (-16)) + (-4)) + (-2)) (lv' := [(1, .int ((((nI 31) + (-16)) + (-4)) + (-2))), (0, .int (j_iushr (j_iushr i (nI 16)) (nI 4)))]) hx hb dJI_numberOfLeadingZeros_66 hl (k := 1) rfl rfl (by decide) rfl (fun ls hl => ?_)
            refine lv_iload_n hx hb dJI_numberOfLeadingZeros_69 rfl (lv_at hl 1 rfl) ?_
            refine lv_iconst (v := nI 2) hx hb dJI_numberOfLeadingZeros_70 (by decide) ?_
            refine lv_iushr (v := j_iushr (j_iushr (j_iushr i (nI 16)) (nI 4)) (nI 2)) hx hb dJI_numberOfLeadingZeros_71 rfl ?_
            refine lv_istore_n (lv' := [(0, .int (j_iushr (j_iushr (j_iushr i (nI 16)) (nI 4)) (nI 2))), (1, .int ((((nI 31) + (-16)) + (-4)) + (-2)))]) hx hb dJI_numberOfLeadingZeros_72 rfl hl (by decide) rfl (fun ls hl => ?_)
            refine lv_iload_n hx hb dJI_numberOfLeadingZeros_73 rfl (lv_at hl 1 rfl) ?_
            refine lv_iload_n hx hb dJI_numberOfLeadingZeros_74 rfl (lv_at hl 0 rfl) ?_
            refine lv_iconst (v := nI 1) hx hb dJI_numberOfLeadingZeros_75 (by decide) ?_
            refine lv_iushr (v := j_iushr (j_iushr (j_iushr (j_iushr i (nI 16)) (nI 4)) (nI 2)) (nI 1)) hx hb dJI_numberOfLeadingZeros_76 rfl ?_
            refine lv_isub hx hb dJI_numberOfLeadingZeros_77 ?_
            exact ro_iret hQ hx hb hr hlocks dJI_numberOfLeadingZeros_78 (by simp [m_nlzi, m_nz, c_1, c_22, c_37, c_51, c_63])
      · skip
        refine lv_iinc (v := ((nI 31) + (-16)) + (-8)) (lv' := [(1, .int (((nI 31) + (-16)) + (-8))), (0, .int (j_iushr i (nI 16)))]) hx hb dJI_numberOfLeadingZeros_40 hl (k := 1) rfl rfl (by decide) rfl (fun ls hl => ?_)
        refine lv_iload_n hx hb dJI_numberOfLeadingZeros_43 rfl (lv_at hl 1 rfl) ?_
        refine lv_bipush (v := nI 8) hx hb dJI_numberOfLeadingZeros_44 (by decide) ?_
        refine lv_iushr (v := j_iushr (j_iushr i (nI 16)) (nI 8)) hx hb dJI_numberOfLeadingZeros_46 rfl ?_
        refine lv_istore_n (lv' := [(0, .int (j_iushr (j_iushr i (nI 16)) (nI 8))), (1, .int (((nI 31) + (-16)) + (-8)))]) hx hb dJI_numberOfLeadingZeros_47 rfl hl (by decide) rfl (fun ls hl => ?_)
        refine lv_iload_n hx hb dJI_numberOfLeadingZeros_48 rfl (lv_at hl 0 rfl) ?_
        refine lv_bipush (v := nI 16) hx hb dJI_numberOfLeadingZeros_49 (by decide) ?_
        refine lv_icmp_lt (tgt := 61) hx hb dJI_numberOfLeadingZeros_51 (by decide) (fun c_51 => ?_) (fun c_51 => ?_)
        · skip
          refine lv_iload_n hx hb dJI_numberOfLeadingZeros_61 rfl (lv_at hl 0 rfl) ?_
          refine lv_iconst (v := nI 4) hx hb dJI_numberOfLeadingZeros_62 (by decide) ?_
          refine lv_icmp_lt (tgt := 73) hx hb dJI_numberOfLeadingZeros_63 (by decide) (fun c_63 => ?_) (fun c_63 => ?_)
          · skip
            refine lv_iload_n hx hb dJI_numberOfLeadingZeros_73 rfl (lv_at hl 1 rfl) ?_
            refine lv_iload_n hx hb dJI_numberOfLeadingZeros_74 rfl (lv_at hl 0 rfl) ?_
            refine lv_iconst (v := nI 1) hx hb dJI_numberOfLeadingZeros_75 (by decide) ?_
            refine lv_iushr (v := j_iushr (j_iushr (j_iushr i (nI 16)) (nI 8)) (nI 1)) hx hb dJI_numberOfLeadingZeros_76 rfl ?_
            refine lv_isub hx hb dJI_numberOfLeadingZeros_77 ?_
            exact ro_iret hQ hx hb hr hlocks dJI_numberOfLeadingZeros_78 (by simp [m_nlzi, m_nz, c_1, c_22, c_37, c_51, c_63])
          · skip
            refine lv_iinc (v := (((nI 31) + (-16)) + (-8)) + (-2)) (lv' := [(1, .int ((((nI 31) + (-16)) + (-8)) + (-2))), (0, .int (j_iushr (j_iushr i (nI 16)) (nI 8)))]) hx hb dJI_numberOfLeadingZeros_66 hl (k := 1) rfl rfl (by decide) rfl (fun ls hl => ?_)
            refine lv_iload_n hx hb dJI_numberOfLeadingZeros_69 rfl (lv_at hl 1 rfl) ?_
            refine lv_iconst (v := nI 2) hx hb dJI_numberOfLeadingZeros_70 (by decide) ?_
            refine lv_iushr (v := j_iushr (j_iushr (j_iushr i (nI 16)) (nI 8)) (nI 2)) hx hb dJI_numberOfLeadingZeros_71 rfl ?_
            refine lv_istore_n (lv' := [(0, .int (j_iushr (j_iushr (j_iushr i (nI 16)) (nI 8)) (nI 2))), (1, .int ((((nI 31) + (-16)) + (-8)) + (-2)))]) hx hb dJI_numberOfLeadingZeros_72 rfl hl (by decide) rfl (fun ls hl => ?_)
            refine lv_iload_n hx hb dJI_numberOfLeadingZeros_73 rfl (lv_at hl 1 rfl) ?_
            refine lv_iload_n hx hb dJI_numberOfLeadingZeros_74 rfl (lv_at hl 0 rfl) ?_
            refine lv_iconst (v := nI 1) hx hb dJI_numberOfLeadingZeros_75 (by decide) ?_
            refine lv_iushr (v := j_iushr (j_iushr (j_iushr (j_iushr i (nI 16)) (nI 8)) (nI 2)) (nI 1)) hx hb dJI_numberOfLeadingZeros_76 rfl ?_
            refine lv_isub hx hb dJI_numberOfLeadingZeros_77 ?_
            exact ro_iret hQ hx hb hr hlocks dJI_numberOfLeadingZeros_78 (by simp [m_nlzi, m_nz, c_1, c_22, c_37, c_51, c_63])
        · skip
          refine lv_iinc (v := (((nI 31) + (-16)) + (-8)) + (-4)) (lv' := [(1, .int ((((nI 31) + (-16)) + (-8)) + (-4))), (0, .int (j_iushr (j_iushr i (nI 16)) (nI 8)))]) hx hb dJI_numberOfLeadingZeros_54 hl (k := 1) rfl rfl (by decide) rfl (fun ls hl => ?_)
          refine lv_iload_n hx hb dJI_numberOfLeadingZeros_57 rfl (lv_at hl 1 rfl) ?_
          refine lv_iconst (v := nI 4) hx hb dJI_numberOfLeadingZeros_58 (by decide) ?_
          refine lv_iushr (v := j_iushr (j_iushr (j_iushr i (nI 16)) (nI 8)) (nI 4)) hx hb dJI_numberOfLeadingZeros_59 rfl ?_
          refine lv_istore_n (lv' := [(0, .int (j_iushr (j_iushr (j_iushr i (nI 16)) (nI 8)) (nI 4))), (1, .int ((((nI 31) + (-16)) + (-8)) + (-4)))]) hx hb dJI_numberOfLeadingZeros_60 rfl hl (by decide) rfl (fun ls hl => ?_)
          refine lv_iload_n hx hb dJI_numberOfLeadingZeros_61 rfl (lv_at hl 0 rfl) ?_
          refine lv_iconst (v := nI 4) hx hb dJI_numberOfLeadingZeros_62 (by decide) ?_
          refine lv_icmp_lt (tgt := 73) hx hb dJI_numberOfLeadingZeros_63 (by decide) (fun c_63 => ?_) (fun c_63 => ?_)
          · skip
            refine lv_iload_n hx hb dJI_numberOfLeadingZeros_73 rfl (lv_at hl 1 rfl) ?_
            refine lv_iload_n hx hb dJI_numberOfLeadingZeros_74 rfl (lv_at hl 0 rfl) ?_
            refine lv_iconst (v := nI 1) hx hb dJI_numberOfLeadingZeros_75 (by decide) ?_
            refine lv_iushr (v := j_iushr (j_iushr (j_iushr (j_iushr i (nI 16)) (nI 8)) (nI 4)) (nI 1)) hx hb dJI_numberOfLeadingZeros_76 rfl ?_
            refine lv_isub hx hb dJI_numberOfLeadingZeros_77 ?_
            exact ro_iret hQ hx hb hr hlocks dJI_numberOfLeadingZeros_78 (by simp [m_nlzi, m_nz, c_1, c_22, c_37, c_51, c_63])
          · skip
            refine lv_iinc (v := ((((nI 31) + (-16)) + (-8)) + (-4)) + (-2)) (lv' := [(1, .int (((((nI 31) + (-16)) + (-8)) + (-4)) + (-2))), (0, .int (j_iushr (j_iushr (j_iushr i (nI 16)) (nI 8)) (nI 4)))]) hx hb dJI_numberOfLeadingZeros_66 hl (k := 1) rfl rfl (by decide) rfl (fun ls hl => ?_)
            refine lv_iload_n hx hb dJI_numberOfLeadingZeros_69 rfl (lv_at hl 1 rfl) ?_
            refine lv_iconst (v := nI 2) hx hb dJI_numberOfLeadingZeros_70 (by decide) ?_
            refine lv_iushr (v := j_iushr (j_iushr (j_iushr (j_iushr i (nI 16)) (nI 8)) (nI 4)) (nI 2)) hx hb dJI_numberOfLeadingZeros_71 rfl ?_
            refine lv_istore_n (lv' := [(0, .int (j_iushr (j_iushr (j_iushr (j_iushr i (nI 16)) (nI 8)) (nI 4)) (nI 2))), (1, .int (((((nI 31) + (-16)) + (-8)) + (-4)) + (-2)))]) hx hb dJI_numberOfLeadingZeros_72 rfl hl (by decide) rfl (fun ls hl => ?_)
            refine lv_iload_n hx hb dJI_numberOfLeadingZeros_73 rfl (lv_at hl 1 rfl) ?_
            refine lv_iload_n hx hb dJI_numberOfLeadingZeros_74 rfl (lv_at hl 0 rfl) ?_
            refine lv_iconst (v := nI 1) hx hb dJI_numberOfLeadingZeros_75 (by decide) ?_
            refine lv_iushr (v := j_iushr (j_iushr (j_iushr (j_iushr (j_iushr i (nI 16)) (nI 8)) (nI 4)) (nI 2)) (nI 1)) hx hb dJI_numberOfLeadingZeros_76 rfl ?_
            refine lv_isub hx hb dJI_numberOfLeadingZeros_77 ?_
            exact ro_iret hQ hx hb hr hlocks dJI_numberOfLeadingZeros_78 (by simp [m_nlzi, m_nz, c_1, c_22, c_37, c_51, c_63])
  · skip
    refine lv_iload_n hx hb dJI_numberOfLeadingZeros_4 rfl (lv_at hl 0 rfl) ?_
    refine lv_if_ne (tgt := 13) hx hb dJI_numberOfLeadingZeros_5 (by decide) (fun c_5 => ?_) (fun c_5 => ?_)
    · skip
      refine lv_iconst (v := nI 0) hx hb dJI_numberOfLeadingZeros_13 (by decide) ?_
      exact ro_iret hQ hx hb hr hlocks dJI_numberOfLeadingZeros_14 (by simp [m_nlzi, m_nz, c_1, c_5])
    · skip
      refine lv_bipush (v := nI 32) hx hb dJI_numberOfLeadingZeros_8 (by decide) ?_
      refine lv_goto (tgt := 14) hx hb dJI_numberOfLeadingZeros_10 (by decide) ?_
      exact ro_iret hQ hx hb hr hlocks dJI_numberOfLeadingZeros_14 (by simp [m_nlzi, m_nz, c_1, c_5])

abbrev rm_c_J_nlz : Room := { frames := 1, cells := 0, slots := 0, locals := 21 }
set_option maxRecDepth 100000 in
set_option maxHeartbeats 4000000 in
theorem c_J_nlz (l : Launch) (D : va_G) (cI cJ cZ : ClassId) (x : Int64)  : ro_C l yJL_numberOfLeadingZeros wJL_numberOfLeadingZeros rm_c_J_nlz D vwCl (gT cI cJ cZ) [.long x] [] (some (.int (m_nlz x))) := by
  refine ro_of (cc := cJL_numberOfLeadingZeros) (maxL := 3) (ret := some .int) (by decide) rfl (Nat.le_of_ble_eq_true rfl) ?_
  intro p e s m args below meth c Q ls hx hb hr hml hown hts hlocks hK hP hl hQ
  have hl : lv_has ls 3 [(0, .long x)] := hl
  have hown : s.vm.findClass RJL = some m.cls := hown
  refine lv_lload_n hx hb dJL_numberOfLeadingZeros_0 rfl (lv_at hl 0 rfl) ?_
  refine lv_bipush (v := nI 32) hx hb dJL_numberOfLeadingZeros_1 (by decide) ?_
  refine lv_lushr (v := j_ushr x (nI 32)) hx hb dJL_numberOfLeadingZeros_3 rfl ?_
  refine lv_l2i (v := (j_ushr x (nI 32)).toInt32) hx hb dJL_numberOfLeadingZeros_4 rfl ?_
  refine lv_istore_n (lv' := [(2, .int ((j_ushr x (nI 32)).toInt32)), (0, .long x)]) hx hb dJL_numberOfLeadingZeros_5 rfl hl (by decide) rfl (fun ls hl => ?_)
  refine lv_iload_n hx hb dJL_numberOfLeadingZeros_6 rfl (lv_at hl 0 rfl) ?_
  refine lv_if_ne (tgt := 21) hx hb dJL_numberOfLeadingZeros_7 (by decide) (fun c_7 => ?_) (fun c_7 => ?_)
  · skip
    refine lv_iload_n hx hb dJL_numberOfLeadingZeros_21 rfl (lv_at hl 0 rfl) ?_
    refine ro_ki (va_runS (As := [.int ((j_ushr x (nI 32)).toInt32)]) (rest := []) ⟨hx, hb, hml, hown, hts⟩ (c_J_nlzi l D cI cJ cZ ((j_ushr x (nI 32)).toInt32)) (va_cwS 1 hts gJL_numberOfLeadingZeros_JI_numberOfLeadingZeros_308 rfl rfl rfl (by decide +kernel) ⟨Nat.le_of_ble_eq_true rfl, Nat.le_of_ble_eq_true rfl⟩) (ro_preS (hP.sub [] rfl) hK) rfl rfl hl.1 rfl (lv_room (Nat.le_of_ble_eq_true rfl)) dJL_numberOfLeadingZeros_22 ⟨Nat.le_of_ble_eq_true rfl, Nat.le_of_ble_eq_true rfl⟩) ?_
    exact ro_iret hQ hx hb hr hlocks dJL_numberOfLeadingZeros_25 (by simp [m_nlz, c_7])
  · skip
    refine lv_bipush (v := nI 32) hx hb dJL_numberOfLeadingZeros_10 (by decide) ?_
    refine lv_lload_n hx hb dJL_numberOfLeadingZeros_12 rfl (lv_at hl 1 rfl) ?_
    refine lv_l2i (v := x.toInt32) hx hb dJL_numberOfLeadingZeros_13 rfl ?_
    refine ro_ki (va_runS (As := [.int x.toInt32]) (rest := [.int (nI 32)]) ⟨hx, hb, hml, hown, hts⟩ (c_J_nlzi l D cI cJ cZ x.toInt32) (va_cwS 1 hts gJL_numberOfLeadingZeros_JI_numberOfLeadingZeros_308 rfl rfl rfl (by decide +kernel) ⟨Nat.le_of_ble_eq_true rfl, Nat.le_of_ble_eq_true rfl⟩) (ro_preS (hP.sub [] rfl) hK) rfl rfl hl.1 rfl (lv_room (Nat.le_of_ble_eq_true rfl)) dJL_numberOfLeadingZeros_14 ⟨Nat.le_of_ble_eq_true rfl, Nat.le_of_ble_eq_true rfl⟩) ?_
    refine lv_iadd hx hb dJL_numberOfLeadingZeros_17 ?_
    refine lv_goto (tgt := 25) hx hb dJL_numberOfLeadingZeros_18 (by decide) ?_
    exact ro_iret hQ hx hb hr hlocks dJL_numberOfLeadingZeros_25 (by simp [m_nlz, c_7])

abbrev rm_c_J_fill : Room := { frames := 0, cells := 0, slots := 0, locals := 0 }
set_option maxRecDepth 100000 in
set_option maxHeartbeats 4000000 in
theorem c_J_fill (l : Launch) (D : va_G) (cI cJ cZ : ClassId) (a : Nat) (N : Nat) (f : Nat → Int64) (v : Int64) (hN : N < 2 ^ 31) : rw_C l yJA_fill wJA_fill rm_c_J_fill D vwCl (gT cI cJ cZ) [.ref a, .long v] [(a, .inl (cJ, N, .inr (.inl f)))] (fun v9 w9 => v9 = none ∧ w9 = [(a, .inl (cJ, N, .inr (.inl (m_fill f N v))))]) 0 0 := by
  refine rw_of (cc := cJA_fill) (maxL := 5) (ret := none) (by decide) rfl (Nat.le_of_ble_eq_true rfl) ?_
  intro p e s m args below meth c Q A ls hx hb hr hml hown hts hlocks hin hK hP hD hA hl hQ
  have hS : va_S A s.heap s.heap [] := va_S.rf
  have hl : lv_has ls 5 [(0, .ref a), (1, .long v)] := hl
  have hown : s.vm.findClass RJA = some m.cls := hown
  obtain ⟨H, hHe⟩ : ∃ H : Heap, H = s.heap := ⟨_, rfl⟩
  rw [← hHe] at hP
  have hS : va_S A s.heap H [] := by rw [hHe]; exact va_S.rf
  suffices h9 : W p l e rm_c_J_fill s m args below meth c H [] 0 0 Q (F0 m 0 ls []) by rw [hHe] at h9; exact h9
  clear hHe
  refine lv_iconst (v := nI 0) hx hb dJA_fill_0 (by decide) ?_
  refine lv_istore_n (lv' := [(3, .int (nI 0)), (0, .ref a), (1, .long v)]) hx hb dJA_fill_1 rfl hl (by decide) rfl (fun ls hl => ?_)
  refine lv_aload_n hx hb dJA_fill_2 rfl (lv_at hl 1 rfl) ?_
  refine va_alen (v := nI N) hx hb hK hP 0 1 rfl rfl rfl dJA_fill_3 ?_
  refine lv_istore (lv' := [(4, .int (nI N)), (3, .int (nI 0)), (0, .ref a), (1, .long v)]) hx hb dJA_fill_4 hl (by decide) rfl (fun ls hl => ?_)
  have e_w4 : f = m_fill f 0 v := (m_fill_0 f v).symm
  rw [e_w4] at hP hD
  have lp_6 : ∀ (n_6 : Nat) (d i : Nat), (d < n_6) → (i + d = N) → ∀ (H : Heap) (locs : List Loc), va_P D vwCl [(a, .inl (cJ, N, .inr (.inl (m_fill f i v))))] H → va_D A [(a, .inl (cJ, N, .inr (.inl (m_fill f i v))))] → va_S A s.heap H locs → ∀ (ls : Array Slot), lv_has ls 5 [(0, .ref a), (1, .long v), (3, .int (nI i)), (4, .int (nI N))] → W p l e rm_c_J_fill s m args below meth c H locs 0 0 Q (F0 m 6 ls []) := by
    intro n_6
    induction n_6 with
    | zero => intro d i hn hd H locs hP hD hS ls hl; exact absurd hn (by omega)
    | succ n_6 ih_6 =>
      intro d i hn hd H locs hP hD hS ls hl
      refine lv_iload_n hx hb dJA_fill_6 rfl (lv_at hl 2 rfl) ?_
      refine lv_iload hx hb dJA_fill_7 (lv_at hl 3 rfl) ?_
      refine lv_icmp_ge (tgt := 22) hx hb dJA_fill_9 (by decide) (fun c_9 => ?_) (fun c_9 => ?_)
      · skip
        have c_9 : N ≤ i := n_le c_9 (by omega) (by omega)
        exact rw_vret (w := [(a, .inl (cJ, N, .inr (.inl (m_fill f i v))))]) hQ hx hb hr hlocks dJA_fill_22 (hP.sub [0] rfl) (hD.sub [0] (by decide) rfl) hS ⟨rfl, by rw [show i = N by omega]⟩
      · skip
        have c_9 : i < N := n_nle c_9 (by omega) (by omega)
        obtain ⟨d, rfl⟩ : ∃ d' : Nat, d = d' + 1 := ⟨d - 1, by omega⟩
        refine lv_aload_n hx hb dJA_fill_12 rfl (lv_at hl 0 rfl) ?_
        refine lv_iload_n hx hb dJA_fill_13 rfl (lv_at hl 2 rfl) ?_
        refine lv_lload_n hx hb dJA_fill_14 rfl (lv_at hl 1 rfl) ?_
        refine ar_lst (j := i) hx hb hK hP hD hS 0 1 rfl rfl dJA_fill_15 (by omega) (by omega) (fun H locs hP hD hS => ?_)
        have hP : va_P D vwCl [(a, .inl (cJ, N, .inr (.inl (vp_updL (m_fill f i v) i v))))] H := hP
        have hD : va_D A [(a, .inl (cJ, N, .inr (.inl (vp_updL (m_fill f i v) i v))))] := hD
        have e_w15 : vp_updL (m_fill f i v) i v = m_fill f (i + 1) v := m_fill_s f v i
        rw [e_w15] at hP hD
        refine lv_iinc (v := nI (i + 1)) (lv' := [(3, .int (nI (i + 1))), (0, .ref a), (1, .long v), (4, .int (nI N))]) hx hb dJA_fill_16 hl (k := 2) rfl (nI_add _ 1) (by decide) rfl (fun ls hl => ?_)
        refine lv_goto (tgt := 6) hx hb dJA_fill_19 (by decide) ?_
        exact ih_6 d (i + 1) (by omega) (by omega) _ _ (hP.sub [0] rfl) (hD.sub [0] (by decide) rfl) hS ls (lv_sub hl [1, 2, 0, 3] rfl)
  exact lp_6 (N + 1) N 0 (by omega) (by omega) _ _ (hP.sub [0] rfl) (hD.sub [0] (by decide) rfl) hS ls (lv_sub hl [2, 3, 1, 0] rfl)

abbrev rm_c_B_shiftOf : Room := { frames := 0, cells := 0, slots := 0, locals := 0 }
set_option maxRecDepth 100000 in
set_option maxHeartbeats 4000000 in
theorem c_B_shiftOf (l : Launch) (D : va_G) (cI cJ cZ : ClassId) (b : Int64)  : ro_C l yB_shiftOf wB_shiftOf rm_c_B_shiftOf D vwCl (gT cI cJ cZ) [.long b] [] (some (.int (m_shift b))) := by
  refine ro_of (cc := cB_shiftOf) (maxL := 2) (ret := some .int) (by decide) rfl (Nat.le_of_ble_eq_true rfl) ?_
  intro p e s m args below meth c Q ls hx hb hr hml hown hts hlocks hK hP hl hQ
  have hl : lv_has ls 2 [(0, .long b)] := hl
  have hown : s.vm.findClass RB = some m.cls := hown
  refine lv_bipush (v := nI 8) hx hb dB_shiftOf_0 (by decide) ?_
  refine lv_lload_n hx hb dB_shiftOf_2 rfl (lv_at hl 0 rfl) ?_
  refine lv_bipush (v := nI 24) hx hb dB_shiftOf_3 (by decide) ?_
  refine lv_lushr (v := j_ushr b (nI 24)) hx hb dB_shiftOf_5 rfl ?_
  refine lv_l2i (v := (j_ushr b (nI 24)).toInt32) hx hb dB_shiftOf_6 rfl ?_
  refine lv_iconst (v := nI 3) hx hb dB_shiftOf_7 (by decide) ?_
  refine lv_isub hx hb dB_shiftOf_8 ?_
  refine lv_imul hx hb dB_shiftOf_9 ?_
  exact ro_iret hQ hx hb hr hlocks dB_shiftOf_10 rfl

abbrev rm_c_B_join : Room := { frames := 0, cells := 0, slots := 0, locals := 0 }
set_option maxRecDepth 100000 in
set_option maxHeartbeats 4000000 in
theorem c_B_join (l : Launch) (D : va_G) (cI cJ cZ : ClassId) (x : Int64) (y : Int64)  : ro_C l yB_join wB_join rm_c_B_join D vwCl (gT cI cJ cZ) [.long x, .long y] [] (some (.long (m_join x y))) := by
  refine ro_of (cc := cB_join) (maxL := 4) (ret := some .long) (by decide) rfl (Nat.le_of_ble_eq_true rfl) ?_
  intro p e s m args below meth c Q ls hx hb hr hml hown hts hlocks hK hP hl hQ
  have hl : lv_has ls 4 [(0, .long x), (2, .long y)] := hl
  have hown : s.vm.findClass RB = some m.cls := hown
  refine lv_lload_n hx hb dB_join_0 rfl (lv_at hl 0 rfl) ?_
  refine lv_bipush (v := nI 32) hx hb dB_join_1 (by decide) ?_
  refine lv_lshl (v := j_shl x (nI 32)) hx hb dB_join_3 rfl ?_
  refine lv_lload_n hx hb dB_join_4 rfl (lv_at hl 1 rfl) ?_
  refine lv_lor hx hb dB_join_5 ?_
  exact ro_lret hQ hx hb hr hlocks dB_join_6 rfl

abbrev rm_c_B_byteAt : Room := { frames := 0, cells := 0, slots := 0, locals := 0 }
set_option maxRecDepth 100000 in
set_option maxHeartbeats 4000000 in
theorem c_B_byteAt (l : Launch) (D : va_G) (cI cJ cZ : ClassId) (a : Int64) (b : Int64) (c0 : Int64) (d : Int64) (k : Int32)  : ro_C l yB_byteAt wB_byteAt rm_c_B_byteAt D vwCl (gT cI cJ cZ) [.long a, .long b, .long c0, .long d, .int k] [] (some (.long (m_byte a b c0 d k))) := by
  refine ro_of (cc := cB_byteAt) (maxL := 11) (ret := some .long) (by decide) rfl (Nat.le_of_ble_eq_true rfl) ?_
  intro p e s m args below meth c Q ls hx hb hr hml hown hts hlocks hK hP hl hQ
  have hl : lv_has ls 11 [(0, .long a), (2, .long b), (4, .long c0), (6, .long d), (8, .int k)] := hl
  have hown : s.vm.findClass RB = some m.cls := hown
  refine lv_iload hx hb dB_byteAt_0 (lv_at hl 4 rfl) ?_
  refine lv_if_ge (tgt := 7) hx hb dB_byteAt_2 (by decide) (fun c_2 => ?_) (fun c_2 => ?_)
  · skip
    refine lv_iload hx hb dB_byteAt_7 (lv_at hl 4 rfl) ?_
    refine lv_bipush (v := nI 8) hx hb dB_byteAt_9 (by decide) ?_
    refine lv_icmp_ge (tgt := 19) hx hb dB_byteAt_11 (by decide) (fun c_11 => ?_) (fun c_11 => ?_)
    · skip
      refine lv_iload hx hb dB_byteAt_19 (lv_at hl 4 rfl) ?_
      refine lv_bipush (v := nI 16) hx hb dB_byteAt_21 (by decide) ?_
      refine lv_icmp_ge (tgt := 31) hx hb dB_byteAt_23 (by decide) (fun c_23 => ?_) (fun c_23 => ?_)
      · skip
        refine lv_iload hx hb dB_byteAt_31 (lv_at hl 4 rfl) ?_
        refine lv_bipush (v := nI 24) hx hb dB_byteAt_33 (by decide) ?_
        refine lv_icmp_ge (tgt := 42) hx hb dB_byteAt_35 (by decide) (fun c_35 => ?_) (fun c_35 => ?_)
        · skip
          refine lv_lload_n hx hb dB_byteAt_42 rfl (lv_at hl 0 rfl) ?_
          refine lv_lstore (lv' := [(9, .long a), (0, .long a), (2, .long b), (4, .long c0), (6, .long d), (8, .int k)]) hx hb dB_byteAt_43 hl (by decide) rfl (fun ls hl => ?_)
          refine lv_lload hx hb dB_byteAt_45 (lv_at hl 0 rfl) ?_
          refine lv_bipush (v := nI 8) hx hb dB_byteAt_47 (by decide) ?_
          refine lv_iload hx hb dB_byteAt_49 (lv_at hl 5 rfl) ?_
          refine lv_bipush (v := nI 8) hx hb dB_byteAt_51 (by decide) ?_
          refine lv_irem hx hb dB_byteAt_53 (by decide) ?_
          refine lv_imul hx hb dB_byteAt_54 ?_
          refine lv_lushr (v := j_ushr a ((nI 8) * (k - k / (nI 8) * (nI 8)))) hx hb dB_byteAt_55 rfl ?_
          refine lv_ldc2 (v := 255) hx hb hown (hts (.constantLong RB 37 255) (by decide +kernel)) dB_byteAt_56 ?_
          refine lv_land hx hb dB_byteAt_59 ?_
          exact ro_lret hQ hx hb hr hlocks dB_byteAt_60 (by simp [m_byte, c_2, c_11, c_23, c_35])
        · skip
          refine lv_lload_n hx hb dB_byteAt_38 rfl (lv_at hl 1 rfl) ?_
          refine lv_goto (tgt := 43) hx hb dB_byteAt_39 (by decide) ?_
          refine lv_lstore (lv' := [(9, .long b), (0, .long a), (2, .long b), (4, .long c0), (6, .long d), (8, .int k)]) hx hb dB_byteAt_43 hl (by decide) rfl (fun ls hl => ?_)
          refine lv_lload hx hb dB_byteAt_45 (lv_at hl 0 rfl) ?_
          refine lv_bipush (v := nI 8) hx hb dB_byteAt_47 (by decide) ?_
          refine lv_iload hx hb dB_byteAt_49 (lv_at hl 5 rfl) ?_
          refine lv_bipush (v := nI 8) hx hb dB_byteAt_51 (by decide) ?_
          refine lv_irem hx hb dB_byteAt_53 (by decide) ?_
          refine lv_imul hx hb dB_byteAt_54 ?_
          refine lv_lushr (v := j_ushr b ((nI 8) * (k - k / (nI 8) * (nI 8)))) hx hb dB_byteAt_55 rfl ?_
          refine lv_ldc2 (v := 255) hx hb hown (hts (.constantLong RB 37 255) (by decide +kernel)) dB_byteAt_56 ?_
          refine lv_land hx hb dB_byteAt_59 ?_
          exact ro_lret hQ hx hb hr hlocks dB_byteAt_60 (by simp [m_byte, c_2, c_11, c_23, c_35])
      · skip
        refine lv_lload hx hb dB_byteAt_26 (lv_at hl 2 rfl) ?_
        refine lv_goto (tgt := 43) hx hb dB_byteAt_28 (by decide) ?_
        refine lv_lstore (lv' := [(9, .long c0), (0, .long a), (2, .long b), (4, .long c0), (6, .long d), (8, .int k)]) hx hb dB_byteAt_43 hl (by decide) rfl (fun ls hl => ?_)
        refine lv_lload hx hb dB_byteAt_45 (lv_at hl 0 rfl) ?_
        refine lv_bipush (v := nI 8) hx hb dB_byteAt_47 (by decide) ?_
        refine lv_iload hx hb dB_byteAt_49 (lv_at hl 5 rfl) ?_
        refine lv_bipush (v := nI 8) hx hb dB_byteAt_51 (by decide) ?_
        refine lv_irem hx hb dB_byteAt_53 (by decide) ?_
        refine lv_imul hx hb dB_byteAt_54 ?_
        refine lv_lushr (v := j_ushr c0 ((nI 8) * (k - k / (nI 8) * (nI 8)))) hx hb dB_byteAt_55 rfl ?_
        refine lv_ldc2 (v := 255) hx hb hown (hts (.constantLong RB 37 255) (by decide +kernel)) dB_byteAt_56 ?_
        refine lv_land hx hb dB_byteAt_59 ?_
        exact ro_lret hQ hx hb hr hlocks dB_byteAt_60 (by simp [m_byte, c_2, c_11, c_23])
    · skip
      refine lv_lload hx hb dB_byteAt_14 (lv_at hl 3 rfl) ?_
      refine lv_goto (tgt := 43) hx hb dB_byteAt_16 (by decide) ?_
      refine lv_lstore (lv' := [(9, .long d), (0, .long a), (2, .long b), (4, .long c0), (6, .long d), (8, .int k)]) hx hb dB_byteAt_43 hl (by decide) rfl (fun ls hl => ?_)
      refine lv_lload hx hb dB_byteAt_45 (lv_at hl 0 rfl) ?_
      refine lv_bipush (v := nI 8) hx hb dB_byteAt_47 (by decide) ?_
      refine lv_iload hx hb dB_byteAt_49 (lv_at hl 5 rfl) ?_
      refine lv_bipush (v := nI 8) hx hb dB_byteAt_51 (by decide) ?_
      refine lv_irem hx hb dB_byteAt_53 (by decide) ?_
      refine lv_imul hx hb dB_byteAt_54 ?_
      refine lv_lushr (v := j_ushr d ((nI 8) * (k - k / (nI 8) * (nI 8)))) hx hb dB_byteAt_55 rfl ?_
      refine lv_ldc2 (v := 255) hx hb hown (hts (.constantLong RB 37 255) (by decide +kernel)) dB_byteAt_56 ?_
      refine lv_land hx hb dB_byteAt_59 ?_
      exact ro_lret hQ hx hb hr hlocks dB_byteAt_60 (by simp [m_byte, c_2, c_11])
  · skip
    refine lv_lconst (v := 0) hx hb dB_byteAt_5 (by decide) ?_
    exact ro_lret hQ hx hb hr hlocks dB_byteAt_6 (by simp [m_byte, c_2])

abbrev rm_c_B_lengthOf : Room := { frames := 2, cells := 0, slots := 0, locals := 43 }
set_option maxRecDepth 100000 in
set_option maxHeartbeats 4000000 in
theorem c_B_lengthOf (l : Launch) (D : va_G) (cI cJ cZ : ClassId) (x : Int64)  : ro_C l yB_lengthOf wB_lengthOf rm_c_B_lengthOf D vwCl (gT cI cJ cZ) [.long x] [] (some (.int (m_len x))) := by
  refine ro_of (cc := cB_lengthOf) (maxL := 2) (ret := some .int) (by decide) rfl (Nat.le_of_ble_eq_true rfl) ?_
  intro p e s m args below meth c Q ls hx hb hr hml hown hts hlocks hK hP hl hQ
  have hl : lv_has ls 2 [(0, .long x)] := hl
  have hown : s.vm.findClass RB = some m.cls := hown
  refine lv_bipush (v := nI 64) hx hb dB_lengthOf_0 (by decide) ?_
  refine lv_lload_n hx hb dB_lengthOf_2 rfl (lv_at hl 0 rfl) ?_
  refine ro_ki (va_runS (As := [.long x]) (rest := [.int (nI 64)]) ⟨hx, hb, hml, hown, hts⟩ (c_J_nlz l D cI cJ cZ x) (va_cwS 1 hts gB_lengthOf_JL_numberOfLeadingZeros_28 rfl rfl rfl (by decide +kernel) ⟨Nat.le_of_ble_eq_true rfl, Nat.le_of_ble_eq_true rfl⟩) (ro_preS (hP.sub [] rfl) hK) rfl rfl hl.1 rfl (lv_room (Nat.le_of_ble_eq_true rfl)) dB_lengthOf_3 ⟨Nat.le_of_ble_eq_true rfl, Nat.le_of_ble_eq_true rfl⟩) ?_
  refine lv_isub hx hb dB_lengthOf_6 ?_
  exact ro_iret hQ hx hb hr hlocks dB_lengthOf_7 rfl

abbrev rm_c_B_targetPart : Room := { frames := 1, cells := 0, slots := 0, locals := 21 }
set_option maxRecDepth 100000 in
set_option maxHeartbeats 4000000 in
theorem c_B_targetPart (l : Launch) (D : va_G) (cI cJ cZ : ClassId) (b : Int64) (k : Int32)  : ro_C l yB_targetPart wB_targetPart rm_c_B_targetPart D vwCl (gT cI cJ cZ) [.long b, .int k] [] (some (.long (m_tp b k))) := by
  refine ro_of (cc := cB_targetPart) (maxL := 6) (ret := some .long) (by decide) rfl (Nat.le_of_ble_eq_true rfl) ?_
  intro p e s m args below meth c Q ls hx hb hr hml hown hts hlocks hK hP hl hQ
  have hl : lv_has ls 6 [(0, .long b), (2, .int k)] := hl
  have hown : s.vm.findClass RB = some m.cls := hown
  refine lv_lload_n hx hb dB_targetPart_0 rfl (lv_at hl 0 rfl) ?_
  refine lv_ldc2 (v := 8388607) hx hb hown (hts (.constantLong RB 11 8388607) (by decide +kernel)) dB_targetPart_1 ?_
  refine lv_land hx hb dB_targetPart_4 ?_
  refine lv_lstore_n (lv' := [(3, .long (b &&& 8388607)), (0, .long b), (2, .int k)]) hx hb dB_targetPart_5 rfl hl (by decide) rfl (fun ls hl => ?_)
  refine lv_lload_n hx hb dB_targetPart_6 rfl (lv_at hl 1 rfl) ?_
  refine ro_ki (va_runS (As := [.long b]) (rest := []) ⟨hx, hb, hml, hown, hts⟩ (c_B_shiftOf l D cI cJ cZ b) (va_cwS 1 hts gB_targetPart_B_shiftOf_15 rfl rfl rfl (by decide +kernel) ⟨Nat.le_of_ble_eq_true rfl, Nat.le_of_ble_eq_true rfl⟩) (ro_preS (hP.sub [] rfl) hK) rfl rfl hl.1 rfl (lv_room (Nat.le_of_ble_eq_true rfl)) dB_targetPart_7 ⟨Nat.le_of_ble_eq_true rfl, Nat.le_of_ble_eq_true rfl⟩) ?_
  refine lv_bipush (v := nI 64) hx hb dB_targetPart_10 (by decide) ?_
  refine lv_iconst (v := nI 3) hx hb dB_targetPart_12 (by decide) ?_
  refine lv_iload_n hx hb dB_targetPart_13 rfl (lv_at hl 2 rfl) ?_
  refine lv_isub hx hb dB_targetPart_14 ?_
  refine lv_imul hx hb dB_targetPart_15 ?_
  refine lv_isub hx hb dB_targetPart_16 ?_
  refine lv_istore (lv' := [(5, .int ((m_shift b) - ((nI 64) * ((nI 3) - k)))), (3, .long (b &&& 8388607)), (0, .long b), (2, .int k)]) hx hb dB_targetPart_17 hl (by decide) rfl (fun ls hl => ?_)
  refine lv_iload hx hb dB_targetPart_19 (lv_at hl 0 rfl) ?_
  refine lv_bipush (v := nI 64) hx hb dB_targetPart_21 (by decide) ?_
  refine lv_icmp_ge (tgt := 33) hx hb dB_targetPart_23 (by decide) (fun c_23 => ?_) (fun c_23 => ?_)
  · skip
    refine lv_lconst (v := 0) hx hb dB_targetPart_33 (by decide) ?_
    exact ro_lret hQ hx hb hr hlocks dB_targetPart_34 (by simp [m_tp, c_23])
  · skip
    refine lv_iload hx hb dB_targetPart_26 (lv_at hl 0 rfl) ?_
    refine lv_bipush (v := (-64)) hx hb dB_targetPart_28 (by decide) ?_
    refine lv_icmp_gt (tgt := 35) hx hb dB_targetPart_30 (by decide) (fun c_30 => ?_) (fun c_30 => ?_)
    · skip
      refine lv_iload hx hb dB_targetPart_35 (lv_at hl 0 rfl) ?_
      refine lv_if_lt (tgt := 47) hx hb dB_targetPart_37 (by decide) (fun c_37 => ?_) (fun c_37 => ?_)
      · skip
        refine lv_lload_n hx hb dB_targetPart_47 rfl (lv_at hl 1 rfl) ?_
        refine lv_iload hx hb dB_targetPart_48 (lv_at hl 0 rfl) ?_
        refine lv_ineg hx hb dB_targetPart_50 ?_
        refine lv_lushr (v := j_ushr (b &&& 8388607) (-((m_shift b) - ((nI 64) * ((nI 3) - k))))) hx hb dB_targetPart_51 rfl ?_
        exact ro_lret hQ hx hb hr hlocks dB_targetPart_52 (by simp [m_tp, c_23, c_30, c_37])
      · skip
        refine lv_lload_n hx hb dB_targetPart_40 rfl (lv_at hl 1 rfl) ?_
        refine lv_iload hx hb dB_targetPart_41 (lv_at hl 0 rfl) ?_
        refine lv_lshl (v := j_shl (b &&& 8388607) ((m_shift b) - ((nI 64) * ((nI 3) - k)))) hx hb dB_targetPart_43 rfl ?_
        refine lv_goto (tgt := 52) hx hb dB_targetPart_44 (by decide) ?_
        exact ro_lret hQ hx hb hr hlocks dB_targetPart_52 (by simp [m_tp, c_23, c_30, c_37])
    · skip
      refine lv_lconst (v := 0) hx hb dB_targetPart_33 (by decide) ?_
      exact ro_lret hQ hx hb hr hlocks dB_targetPart_34 (by simp [m_tp, c_23, c_30])

abbrev rm_c_B_targetHalf : Room := { frames := 2, cells := 0, slots := 0, locals := 46 }
set_option maxRecDepth 100000 in
set_option maxHeartbeats 4000000 in
theorem c_B_targetHalf (l : Launch) (D : va_G) (cI cJ cZ : ClassId) (b : Int64) (i : Nat) (hi : i < 8) : ro_C l yB_targetHalf wB_targetHalf rm_c_B_targetHalf D vwCl (gT cI cJ cZ) [.long b, .int (nI i)] [] (some (.long (m_th b i))) := by
  refine ro_of (cc := cB_targetHalf) (maxL := 5) (ret := some .long) (by decide) rfl (Nat.le_of_ble_eq_true rfl) ?_
  intro p e s m args below meth c Q ls hx hb hr hml hown hts hlocks hK hP hl hQ
  have hl : lv_has ls 5 [(0, .long b), (2, .int (nI i))] := hl
  have hown : s.vm.findClass RB = some m.cls := hown
  refine lv_lload_n hx hb dB_targetHalf_0 rfl (lv_at hl 0 rfl) ?_
  refine lv_iload_n hx hb dB_targetHalf_1 rfl (lv_at hl 1 rfl) ?_
  refine lv_iconst (v := nI 2) hx hb dB_targetHalf_2 (by decide) ?_
  refine lv_idiv hx hb dB_targetHalf_3 (nI_ne0 (by omega) (by omega)) ?_
  refine tp_i (y := nI (i / 2)) (pk_div (by omega) (by omega) (by omega)) ?_
  refine ro_kl (va_runS (As := [.long b, .int (nI (i / 2))]) (rest := []) ⟨hx, hb, hml, hown, hts⟩ (c_B_targetPart l D cI cJ cZ b (nI (i / 2))) (va_cwS 2 hts gB_targetHalf_B_targetPart_22 rfl rfl rfl (by decide +kernel) ⟨Nat.le_of_ble_eq_true rfl, Nat.le_of_ble_eq_true rfl⟩) (ro_preS (hP.sub [] rfl) hK) rfl rfl hl.1 rfl (lv_room (Nat.le_of_ble_eq_true rfl)) dB_targetHalf_4 ⟨Nat.le_of_ble_eq_true rfl, Nat.le_of_ble_eq_true rfl⟩) ?_
  refine lv_lstore_n (lv' := [(3, .long (m_tp b (nI (i / 2)))), (0, .long b), (2, .int (nI i))]) hx hb dB_targetHalf_7 rfl hl (by decide) rfl (fun ls hl => ?_)
  refine lv_iload_n hx hb dB_targetHalf_8 rfl (lv_at hl 2 rfl) ?_
  refine lv_iconst (v := nI 2) hx hb dB_targetHalf_9 (by decide) ?_
  refine lv_irem hx hb dB_targetHalf_10 (nI_ne0 (by omega) (by omega)) ?_
  refine tp_i (y := nI (i % 2)) (pk_rem (by omega) (by omega) (by omega)) ?_
  refine lv_if_ne (tgt := 21) hx hb dB_targetHalf_11 (by decide) (fun c_11 => ?_) (fun c_11 => ?_)
  · skip
    rw [← nI_0] at c_11
    have c_11 : ¬ (i % 2) = 0 := n_ne c_11
    refine lv_lload_n hx hb dB_targetHalf_21 rfl (lv_at hl 0 rfl) ?_
    refine lv_ldc2 (v := 4294967295) hx hb hown (hts (.constantLong RB 9 4294967295) (by decide +kernel)) dB_targetHalf_22 ?_
    refine lv_land hx hb dB_targetHalf_25 ?_
    exact ro_lret hQ hx hb hr hlocks dB_targetHalf_26 (by simp [m_th, c_11])
  · skip
    rw [← nI_0] at c_11
    have c_11 : (i % 2) = 0 := n_eq c_11 (by omega) (by omega)
    refine lv_lload_n hx hb dB_targetHalf_14 rfl (lv_at hl 0 rfl) ?_
    refine lv_bipush (v := nI 32) hx hb dB_targetHalf_15 (by decide) ?_
    refine lv_lushr (v := j_ushr (m_tp b (nI (i / 2))) (nI 32)) hx hb dB_targetHalf_17 rfl ?_
    refine lv_goto (tgt := 26) hx hb dB_targetHalf_18 (by decide) ?_
    exact ro_lret hQ hx hb hr hlocks dB_targetHalf_26 (by simp [m_th, c_11])

abbrev rm_c_B_faultOf : Room := { frames := 3, cells := 0, slots := 0, locals := 64 }
set_option maxRecDepth 100000 in
set_option maxHeartbeats 4000000 in
theorem c_B_faultOf (l : Launch) (D : va_G) (cI cJ cZ : ClassId) (b : Int64)  : ro_C l yB_faultOf wB_faultOf rm_c_B_faultOf D vwCl (gT cI cJ cZ) [.long b] [] (some (.int (m_fault b))) := by
  refine ro_of (cc := cB_faultOf) (maxL := 7) (ret := some .int) (by decide) rfl (Nat.le_of_ble_eq_true rfl) ?_
  intro p e s m args below meth c Q ls hx hb hr hml hown hts hlocks hK hP hl hQ
  have hl : lv_has ls 7 [(0, .long b)] := hl
  have hown : s.vm.findClass RB = some m.cls := hown
  refine lv_lload_n hx hb dB_faultOf_0 rfl (lv_at hl 0 rfl) ?_
  refine lv_lconst (v := 0) hx hb dB_faultOf_1 (by decide) ?_
  refine lc_lt (tgt := 14) hx hb dB_faultOf_2 dB_faultOf_3 (by decide) (fun c_3 => ?_) (fun c_3 => ?_)
  · skip
    refine lv_iconst (v := (-1)) hx hb dB_faultOf_14 (by decide) ?_
    exact ro_iret hQ hx hb hr hlocks dB_faultOf_15 (by simp [m_fault, c_3])
  · skip
    refine lv_lload_n hx hb dB_faultOf_6 rfl (lv_at hl 0 rfl) ?_
    refine lv_ldc2 (v := 4294967295) hx hb hown (hts (.constantLong RB 9 4294967295) (by decide +kernel)) dB_faultOf_7 ?_
    refine lc_le (tgt := 16) hx hb dB_faultOf_10 dB_faultOf_11 (by decide) (fun c_11 => ?_) (fun c_11 => ?_)
    · skip
      refine lv_lload_n hx hb dB_faultOf_16 rfl (lv_at hl 0 rfl) ?_
      refine lv_ldc2 (v := 8388607) hx hb hown (hts (.constantLong RB 11 8388607) (by decide +kernel)) dB_faultOf_17 ?_
      refine lv_land hx hb dB_faultOf_20 ?_
      refine lv_lstore_n (lv' := [(2, .long (b &&& 8388607)), (0, .long b)]) hx hb dB_faultOf_21 rfl hl (by decide) rfl (fun ls hl => ?_)
      refine lv_lload_n hx hb dB_faultOf_22 rfl (lv_at hl 1 rfl) ?_
      refine lv_ldc2 (v := 8388608) hx hb hown (hts (.constantLong RB 13 8388608) (by decide +kernel)) dB_faultOf_23 ?_
      refine lv_land hx hb dB_faultOf_26 ?_
      refine lv_lconst (v := 0) hx hb dB_faultOf_27 (by decide) ?_
      refine lc_eq (tgt := 40) hx hb dB_faultOf_28 dB_faultOf_29 (by decide) (fun c_29 => ?_) (fun c_29 => ?_)
      · skip
        refine lv_lload_n hx hb dB_faultOf_40 rfl (lv_at hl 1 rfl) ?_
        refine ro_ki (va_runS (As := [.long b]) (rest := []) ⟨hx, hb, hml, hown, hts⟩ (c_B_shiftOf l D cI cJ cZ b) (va_cwS 1 hts gB_faultOf_B_shiftOf_15 rfl rfl rfl (by decide +kernel) ⟨Nat.le_of_ble_eq_true rfl, Nat.le_of_ble_eq_true rfl⟩) (ro_preS (hP.sub [] rfl) hK) rfl rfl hl.1 rfl (lv_room (Nat.le_of_ble_eq_true rfl)) dB_faultOf_41 ⟨Nat.le_of_ble_eq_true rfl, Nat.le_of_ble_eq_true rfl⟩) ?_
        refine lv_istore (lv' := [(4, .int (m_shift b)), (2, .long (b &&& 8388607)), (0, .long b)]) hx hb dB_faultOf_44 hl (by decide) rfl (fun ls hl => ?_)
        refine lv_lload_n hx hb dB_faultOf_46 rfl (lv_at hl 1 rfl) ?_
        refine lv_lconst (v := 0) hx hb dB_faultOf_47 (by decide) ?_
        refine lc_eq (tgt := 67) hx hb dB_faultOf_48 dB_faultOf_49 (by decide) (fun c_49 => ?_) (fun c_49 => ?_)
        · skip
          refine lv_iconst (v := nI 2) hx hb dB_faultOf_67 (by decide) ?_
          exact ro_iret hQ hx hb hr hlocks dB_faultOf_68 (by simp [m_fault, c_3, c_11, c_29, c_49])
        · skip
          refine lv_iload hx hb dB_faultOf_52 (lv_at hl 0 rfl) ?_
          refine lv_if_ge (tgt := 69) hx hb dB_faultOf_54 (by decide) (fun c_54 => ?_) (fun c_54 => ?_)
          · skip
            refine lv_iload hx hb dB_faultOf_69 (lv_at hl 0 rfl) ?_
            refine lv_lload_n hx hb dB_faultOf_71 rfl (lv_at hl 1 rfl) ?_
            refine ro_ki (va_runS (As := [.long (b &&& 8388607)]) (rest := [.int (m_shift b)]) ⟨hx, hb, hml, hown, hts⟩ (c_B_lengthOf l D cI cJ cZ (b &&& 8388607)) (va_cwS 1 hts gB_faultOf_B_lengthOf_19 rfl rfl rfl (by decide +kernel) ⟨Nat.le_of_ble_eq_true rfl, Nat.le_of_ble_eq_true rfl⟩) (ro_preS (hP.sub [] rfl) hK) rfl rfl hl.1 rfl (lv_room (Nat.le_of_ble_eq_true rfl)) dB_faultOf_72 ⟨Nat.le_of_ble_eq_true rfl, Nat.le_of_ble_eq_true rfl⟩) ?_
            refine lv_iadd hx hb dB_faultOf_75 ?_
            refine lv_sipush (v := nI 256) hx hb dB_faultOf_76 (by decide) ?_
            refine lv_icmp_le (tgt := 84) hx hb dB_faultOf_79 (by decide) (fun c_79 => ?_) (fun c_79 => ?_)
            · skip
              refine lv_lload_n hx hb dB_faultOf_84 rfl (lv_at hl 2 rfl) ?_
              refine lv_iconst (v := nI 0) hx hb dB_faultOf_85 (by decide) ?_
              refine ro_kl (va_runS (As := [.long b, .int (nI 0)]) (rest := []) ⟨hx, hb, hml, hown, hts⟩ (c_B_targetPart l D cI cJ cZ b (nI 0)) (va_cwS 2 hts gB_faultOf_B_targetPart_22 rfl rfl rfl (by decide +kernel) ⟨Nat.le_of_ble_eq_true rfl, Nat.le_of_ble_eq_true rfl⟩) (ro_preS (hP.sub [] rfl) hK) rfl rfl hl.1 rfl (lv_room (Nat.le_of_ble_eq_true rfl)) dB_faultOf_86 ⟨Nat.le_of_ble_eq_true rfl, Nat.le_of_ble_eq_true rfl⟩) ?_
              refine lv_lstore (lv' := [(5, .long (m_tp b (nI 0))), (4, .int (m_shift b)), (2, .long (b &&& 8388607)), (0, .long b)]) hx hb dB_faultOf_89 hl (by decide) rfl (fun ls hl => ?_)
              refine lv_lload hx hb dB_faultOf_91 (lv_at hl 0 rfl) ?_
              refine lv_lconst (v := 0) hx hb dB_faultOf_93 (by decide) ?_
              refine lc_lt (tgt := 107) hx hb dB_faultOf_94 dB_faultOf_95 (by decide) (fun c_95 => ?_) (fun c_95 => ?_)
              · skip
                refine lv_iconst (v := nI 4) hx hb dB_faultOf_107 (by decide) ?_
                refine lv_goto (tgt := 112) hx hb dB_faultOf_108 (by decide) ?_
                exact ro_iret hQ hx hb hr hlocks dB_faultOf_112 (by simp [m_fault, c_3, c_11, c_29, c_49, c_54, c_79, c_95])
              · skip
                refine lv_lload hx hb dB_faultOf_98 (lv_at hl 0 rfl) ?_
                refine lv_ldc2 (v := 9223370937343148032) hx hb hown (hts (.constantLong RB 26 9223370937343148032) (by decide +kernel)) dB_faultOf_100 ?_
                refine lc_le (tgt := 111) hx hb dB_faultOf_103 dB_faultOf_104 (by decide) (fun c_104 => ?_) (fun c_104 => ?_)
                · skip
                  refine lv_iconst (v := nI 0) hx hb dB_faultOf_111 (by decide) ?_
                  exact ro_iret hQ hx hb hr hlocks dB_faultOf_112 (by simp [m_fault, c_3, c_11, c_29, c_49, c_54, c_79, c_95, c_104])
                · skip
                  refine lv_iconst (v := nI 4) hx hb dB_faultOf_107 (by decide) ?_
                  refine lv_goto (tgt := 112) hx hb dB_faultOf_108 (by decide) ?_
                  exact ro_iret hQ hx hb hr hlocks dB_faultOf_112 (by simp [m_fault, c_3, c_11, c_29, c_49, c_54, c_79, c_95, c_104])
            · skip
              refine lv_iconst (v := nI 3) hx hb dB_faultOf_82 (by decide) ?_
              exact ro_iret hQ hx hb hr hlocks dB_faultOf_83 (by simp [m_fault, c_3, c_11, c_29, c_49, c_54, c_79])
          · skip
            refine lv_lload_n hx hb dB_faultOf_57 rfl (lv_at hl 1 rfl) ?_
            refine lv_iload hx hb dB_faultOf_58 (lv_at hl 0 rfl) ?_
            refine lv_ineg hx hb dB_faultOf_60 ?_
            refine lv_lushr (v := j_ushr (b &&& 8388607) (-(m_shift b))) hx hb dB_faultOf_61 rfl ?_
            refine lv_lconst (v := 0) hx hb dB_faultOf_62 (by decide) ?_
            refine lc_ne (tgt := 69) hx hb dB_faultOf_63 dB_faultOf_64 (by decide) (fun c_64 => ?_) (fun c_64 => ?_)
            · skip
              refine lv_iload hx hb dB_faultOf_69 (lv_at hl 0 rfl) ?_
              refine lv_lload_n hx hb dB_faultOf_71 rfl (lv_at hl 1 rfl) ?_
              refine ro_ki (va_runS (As := [.long (b &&& 8388607)]) (rest := [.int (m_shift b)]) ⟨hx, hb, hml, hown, hts⟩ (c_B_lengthOf l D cI cJ cZ (b &&& 8388607)) (va_cwS 1 hts gB_faultOf_B_lengthOf_19 rfl rfl rfl (by decide +kernel) ⟨Nat.le_of_ble_eq_true rfl, Nat.le_of_ble_eq_true rfl⟩) (ro_preS (hP.sub [] rfl) hK) rfl rfl hl.1 rfl (lv_room (Nat.le_of_ble_eq_true rfl)) dB_faultOf_72 ⟨Nat.le_of_ble_eq_true rfl, Nat.le_of_ble_eq_true rfl⟩) ?_
              refine lv_iadd hx hb dB_faultOf_75 ?_
              refine lv_sipush (v := nI 256) hx hb dB_faultOf_76 (by decide) ?_
              refine lv_icmp_le (tgt := 84) hx hb dB_faultOf_79 (by decide) (fun c_79 => ?_) (fun c_79 => ?_)
              · skip
                refine lv_lload_n hx hb dB_faultOf_84 rfl (lv_at hl 2 rfl) ?_
                refine lv_iconst (v := nI 0) hx hb dB_faultOf_85 (by decide) ?_
                refine ro_kl (va_runS (As := [.long b, .int (nI 0)]) (rest := []) ⟨hx, hb, hml, hown, hts⟩ (c_B_targetPart l D cI cJ cZ b (nI 0)) (va_cwS 2 hts gB_faultOf_B_targetPart_22 rfl rfl rfl (by decide +kernel) ⟨Nat.le_of_ble_eq_true rfl, Nat.le_of_ble_eq_true rfl⟩) (ro_preS (hP.sub [] rfl) hK) rfl rfl hl.1 rfl (lv_room (Nat.le_of_ble_eq_true rfl)) dB_faultOf_86 ⟨Nat.le_of_ble_eq_true rfl, Nat.le_of_ble_eq_true rfl⟩) ?_
                refine lv_lstore (lv' := [(5, .long (m_tp b (nI 0))), (4, .int (m_shift b)), (2, .long (b &&& 8388607)), (0, .long b)]) hx hb dB_faultOf_89 hl (by decide) rfl (fun ls hl => ?_)
                refine lv_lload hx hb dB_faultOf_91 (lv_at hl 0 rfl) ?_
                refine lv_lconst (v := 0) hx hb dB_faultOf_93 (by decide) ?_
                refine lc_lt (tgt := 107) hx hb dB_faultOf_94 dB_faultOf_95 (by decide) (fun c_95 => ?_) (fun c_95 => ?_)
                · skip
                  refine lv_iconst (v := nI 4) hx hb dB_faultOf_107 (by decide) ?_
                  refine lv_goto (tgt := 112) hx hb dB_faultOf_108 (by decide) ?_
                  exact ro_iret hQ hx hb hr hlocks dB_faultOf_112 (by simp [m_fault, c_3, c_11, c_29, c_49, c_54, c_64, c_79, c_95])
                · skip
                  refine lv_lload hx hb dB_faultOf_98 (lv_at hl 0 rfl) ?_
                  refine lv_ldc2 (v := 9223370937343148032) hx hb hown (hts (.constantLong RB 26 9223370937343148032) (by decide +kernel)) dB_faultOf_100 ?_
                  refine lc_le (tgt := 111) hx hb dB_faultOf_103 dB_faultOf_104 (by decide) (fun c_104 => ?_) (fun c_104 => ?_)
                  · skip
                    refine lv_iconst (v := nI 0) hx hb dB_faultOf_111 (by decide) ?_
                    exact ro_iret hQ hx hb hr hlocks dB_faultOf_112 (by simp [m_fault, c_3, c_11, c_29, c_49, c_54, c_64, c_79, c_95, c_104])
                  · skip
                    refine lv_iconst (v := nI 4) hx hb dB_faultOf_107 (by decide) ?_
                    refine lv_goto (tgt := 112) hx hb dB_faultOf_108 (by decide) ?_
                    exact ro_iret hQ hx hb hr hlocks dB_faultOf_112 (by simp [m_fault, c_3, c_11, c_29, c_49, c_54, c_64, c_79, c_95, c_104])
              · skip
                refine lv_iconst (v := nI 3) hx hb dB_faultOf_82 (by decide) ?_
                exact ro_iret hQ hx hb hr hlocks dB_faultOf_83 (by simp [m_fault, c_3, c_11, c_29, c_49, c_54, c_64, c_79])
            · skip
              refine lv_iconst (v := nI 2) hx hb dB_faultOf_67 (by decide) ?_
              exact ro_iret hQ hx hb hr hlocks dB_faultOf_68 (by simp [m_fault, c_3, c_11, c_29, c_49, c_54, c_64])
      · skip
        refine lv_lload_n hx hb dB_faultOf_32 rfl (lv_at hl 0 rfl) ?_
        refine lv_lconst (v := 0) hx hb dB_faultOf_33 (by decide) ?_
        refine lc_eq (tgt := 40) hx hb dB_faultOf_34 dB_faultOf_35 (by decide) (fun c_35 => ?_) (fun c_35 => ?_)
        · skip
          refine lv_lload_n hx hb dB_faultOf_40 rfl (lv_at hl 1 rfl) ?_
          refine ro_ki (va_runS (As := [.long b]) (rest := []) ⟨hx, hb, hml, hown, hts⟩ (c_B_shiftOf l D cI cJ cZ b) (va_cwS 1 hts gB_faultOf_B_shiftOf_15 rfl rfl rfl (by decide +kernel) ⟨Nat.le_of_ble_eq_true rfl, Nat.le_of_ble_eq_true rfl⟩) (ro_preS (hP.sub [] rfl) hK) rfl rfl hl.1 rfl (lv_room (Nat.le_of_ble_eq_true rfl)) dB_faultOf_41 ⟨Nat.le_of_ble_eq_true rfl, Nat.le_of_ble_eq_true rfl⟩) ?_
          refine lv_istore (lv' := [(4, .int (m_shift b)), (2, .long (b &&& 8388607)), (0, .long b)]) hx hb dB_faultOf_44 hl (by decide) rfl (fun ls hl => ?_)
          refine lv_lload_n hx hb dB_faultOf_46 rfl (lv_at hl 1 rfl) ?_
          refine lv_lconst (v := 0) hx hb dB_faultOf_47 (by decide) ?_
          refine lc_eq (tgt := 67) hx hb dB_faultOf_48 dB_faultOf_49 (by decide) (fun c_49 => ?_) (fun c_49 => ?_)
          · skip
            refine lv_iconst (v := nI 2) hx hb dB_faultOf_67 (by decide) ?_
            exact ro_iret hQ hx hb hr hlocks dB_faultOf_68 (by simp [m_fault, c_3, c_11, c_29, c_35, c_49])
          · skip
            exact absurd c_35 c_49
        · skip
          refine lv_iconst (v := nI 1) hx hb dB_faultOf_38 (by decide) ?_
          exact ro_iret hQ hx hb hr hlocks dB_faultOf_39 (by simp [m_fault, c_3, c_11, c_29, c_35])
    · skip
      refine lv_iconst (v := (-1)) hx hb dB_faultOf_14 (by decide) ?_
      exact ro_iret hQ hx hb hr hlocks dB_faultOf_15 (by simp [m_fault, c_3, c_11])

abbrev rm_c_B_shorten : Room := { frames := 1, cells := 0, slots := 0, locals := 30 }
set_option maxRecDepth 100000 in
set_option maxHeartbeats 4000000 in
theorem c_B_shorten (l : Launch) (D : va_G) (cI cJ cZ : ClassId) (a : Int64) (b : Int64) (c0 : Int64) (d : Int64)  : ro_C l yB_shorten wB_shorten rm_c_B_shorten D vwCl (gT cI cJ cZ) [.long a, .long b, .long c0, .long d] [] (some (.long (m_short a b c0 d))) := by
  refine ro_of (cc := cB_shorten) (maxL := 12) (ret := some .long) (by decide) rfl (Nat.le_of_ble_eq_true rfl) ?_
  intro p e s m args below meth c Q ls hx hb hr hml hown hts hlocks hK hP hl hQ
  have hl : lv_has ls 12 [(0, .long a), (2, .long b), (4, .long c0), (6, .long d)] := hl
  have hown : s.vm.findClass RB = some m.cls := hown
  refine lv_bipush (v := nI 32) hx hb dB_shorten_0 (by decide) ?_
  refine lv_istore (lv' := [(8, .int (nI 32)), (0, .long a), (2, .long b), (4, .long c0), (6, .long d)]) hx hb dB_shorten_2 hl (by decide) rfl (fun ls hl => ?_)
  have lp_4 : ∀ (n_4 : Nat) (k : Nat), (k < n_4) → (k ≤ 32) → (m_size a b c0 d k = m_size a b c0 d 32) → ∀ (ls : Array Slot), lv_has ls 12 [(0, .long a), (2, .long b), (4, .long c0), (6, .long d), (8, .int (nI k))] → W p l e rm_c_B_shorten s m args below meth c s.heap [] 0 0 Q (F0 m 4 ls []) := by
    intro n_4
    induction n_4 with
    | zero => intro k hn h32 hk ls hl; exact absurd hn (by omega)
    | succ n_4 ih_4 =>
      intro k hn h32 hk ls hl
      refine lv_iload hx hb dB_shorten_4 (lv_at hl 4 rfl) ?_
      refine lv_if_le (tgt := 33) hx hb dB_shorten_6 (by decide) (fun c_6 => ?_) (fun c_6 => ?_)
      · skip
        rw [← nI_0] at c_6
        have c_6 : k ≤ 0 := n_le c_6 (by omega) (by omega)
        have hz : m_size a b c0 d 32 = k := by rw [← hk]; exact m_size_0 (by omega)
        refine lv_lconst (v := 0) hx hb dB_shorten_33 (by decide) ?_
        refine lv_lstore (lv' := [(9, .long 0), (0, .long a), (2, .long b), (4, .long c0), (6, .long d), (8, .int (nI k))]) hx hb dB_shorten_34 hl (by decide) rfl (fun ls hl => ?_)
        refine lv_iconst (v := nI 1) hx hb dB_shorten_36 (by decide) ?_
        refine lv_istore (lv' := [(11, .int (nI 1)), (9, .long 0), (0, .long a), (2, .long b), (4, .long c0), (6, .long d), (8, .int (nI k))]) hx hb dB_shorten_37 hl (by decide) rfl (fun ls hl => ?_)
        refine lv_iload hx hb dB_shorten_39 (lv_at hl 0 rfl) ?_
        refine lv_iconst (v := nI 3) hx hb dB_shorten_41 (by decide) ?_
        refine lv_icmp_gt (tgt := 73) hx hb dB_shorten_42 (by decide) (fun c_42 => ?_) (fun c_42 => ?_)
        · skip
          have c_42 : 3 < 1 := n_lt c_42 (by omega) (by omega)
          omega
        · skip
          have c_42 : 1 ≤ 3 := n_nlt c_42 (by omega) (by omega)
          refine lv_lload hx hb dB_shorten_45 (lv_at hl 1 rfl) ?_
          refine lv_bipush (v := nI 8) hx hb dB_shorten_47 (by decide) ?_
          refine lv_lshl (v := j_shl 0 (nI 8)) hx hb dB_shorten_49 rfl ?_
          refine lv_lload_n hx hb dB_shorten_50 rfl (lv_at hl 2 rfl) ?_
          refine lv_lload_n hx hb dB_shorten_51 rfl (lv_at hl 3 rfl) ?_
          refine lv_lload hx hb dB_shorten_52 (lv_at hl 4 rfl) ?_
          refine lv_lload hx hb dB_shorten_54 (lv_at hl 5 rfl) ?_
          refine lv_iload hx hb dB_shorten_56 (lv_at hl 6 rfl) ?_
          refine lv_iload hx hb dB_shorten_58 (lv_at hl 0 rfl) ?_
          refine lv_isub hx hb dB_shorten_60 ?_
          refine ro_kl (va_runS (As := [.long a, .long b, .long c0, .long d, .int ((nI k) - (nI 1))]) (rest := [.long (j_shl 0 (nI 8))]) ⟨hx, hb, hml, hown, hts⟩ (c_B_byteAt l D cI cJ cZ a b c0 d ((nI k) - (nI 1))) (va_cwS 5 hts gB_shorten_B_byteAt_33 rfl rfl rfl (by decide +kernel) ⟨Nat.le_of_ble_eq_true rfl, Nat.le_of_ble_eq_true rfl⟩) (ro_preS (hP.sub [] rfl) hK) rfl rfl hl.1 rfl (lv_room (Nat.le_of_ble_eq_true rfl)) dB_shorten_61 ⟨Nat.le_of_ble_eq_true rfl, Nat.le_of_ble_eq_true rfl⟩) ?_
          refine lv_lor hx hb dB_shorten_64 ?_
          refine lv_lstore (lv' := [(9, .long ((j_shl 0 (nI 8)) ||| (m_byte a b c0 d ((nI k) - (nI 1))))), (11, .int (nI 1)), (0, .long a), (2, .long b), (4, .long c0), (6, .long d), (8, .int (nI k))]) hx hb dB_shorten_65 hl (by decide) rfl (fun ls hl => ?_)
          refine lv_iinc (v := nI (1 + 1)) (lv' := [(11, .int (nI (1 + 1))), (9, .long ((j_shl 0 (nI 8)) ||| (m_byte a b c0 d ((nI k) - (nI 1))))), (0, .long a), (2, .long b), (4, .long c0), (6, .long d), (8, .int (nI k))]) hx hb dB_shorten_67 hl (k := 1) rfl (nI_add _ 1) (by decide) rfl (fun ls hl => ?_)
          refine lv_goto (tgt := 39) hx hb dB_shorten_70 (by decide) ?_
          refine lv_iload hx hb dB_shorten_39 (lv_at hl 0 rfl) ?_
          refine lv_iconst (v := nI 3) hx hb dB_shorten_41 (by decide) ?_
          refine lv_icmp_gt (tgt := 73) hx hb dB_shorten_42 (by decide) (fun c_42 => ?_) (fun c_42 => ?_)
          · skip
            have c_42 : 3 < (1 + 1) := n_lt c_42 (by omega) (by omega)
            omega
          · skip
            have c_42 : (1 + 1) ≤ 3 := n_nlt c_42 (by omega) (by omega)
            refine lv_lload hx hb dB_shorten_45 (lv_at hl 1 rfl) ?_
            refine lv_bipush (v := nI 8) hx hb dB_shorten_47 (by decide) ?_
            refine lv_lshl (v := j_shl ((j_shl 0 (nI 8)) ||| (m_byte a b c0 d ((nI k) - (nI 1)))) (nI 8)) hx hb dB_shorten_49 rfl ?_
            refine lv_lload_n hx hb dB_shorten_50 rfl (lv_at hl 2 rfl) ?_
            refine lv_lload_n hx hb dB_shorten_51 rfl (lv_at hl 3 rfl) ?_
            refine lv_lload hx hb dB_shorten_52 (lv_at hl 4 rfl) ?_
            refine lv_lload hx hb dB_shorten_54 (lv_at hl 5 rfl) ?_
            refine lv_iload hx hb dB_shorten_56 (lv_at hl 6 rfl) ?_
            refine lv_iload hx hb dB_shorten_58 (lv_at hl 0 rfl) ?_
            refine lv_isub hx hb dB_shorten_60 ?_
            refine ro_kl (va_runS (As := [.long a, .long b, .long c0, .long d, .int ((nI k) - (nI (1 + 1)))]) (rest := [.long (j_shl ((j_shl 0 (nI 8)) ||| (m_byte a b c0 d ((nI k) - (nI 1)))) (nI 8))]) ⟨hx, hb, hml, hown, hts⟩ (c_B_byteAt l D cI cJ cZ a b c0 d ((nI k) - (nI (1 + 1)))) (va_cwS 5 hts gB_shorten_B_byteAt_33 rfl rfl rfl (by decide +kernel) ⟨Nat.le_of_ble_eq_true rfl, Nat.le_of_ble_eq_true rfl⟩) (ro_preS (hP.sub [] rfl) hK) rfl rfl hl.1 rfl (lv_room (Nat.le_of_ble_eq_true rfl)) dB_shorten_61 ⟨Nat.le_of_ble_eq_true rfl, Nat.le_of_ble_eq_true rfl⟩) ?_
            refine lv_lor hx hb dB_shorten_64 ?_
            refine lv_lstore (lv' := [(9, .long ((j_shl ((j_shl 0 (nI 8)) ||| (m_byte a b c0 d ((nI k) - (nI 1)))) (nI 8)) ||| (m_byte a b c0 d ((nI k) - (nI (1 + 1)))))), (11, .int (nI (1 + 1))), (0, .long a), (2, .long b), (4, .long c0), (6, .long d), (8, .int (nI k))]) hx hb dB_shorten_65 hl (by decide) rfl (fun ls hl => ?_)
            refine lv_iinc (v := nI ((1 + 1) + 1)) (lv' := [(11, .int (nI ((1 + 1) + 1))), (9, .long ((j_shl ((j_shl 0 (nI 8)) ||| (m_byte a b c0 d ((nI k) - (nI 1)))) (nI 8)) ||| (m_byte a b c0 d ((nI k) - (nI (1 + 1)))))), (0, .long a), (2, .long b), (4, .long c0), (6, .long d), (8, .int (nI k))]) hx hb dB_shorten_67 hl (k := 1) rfl (nI_add _ 1) (by decide) rfl (fun ls hl => ?_)
            refine lv_goto (tgt := 39) hx hb dB_shorten_70 (by decide) ?_
            refine lv_iload hx hb dB_shorten_39 (lv_at hl 0 rfl) ?_
            refine lv_iconst (v := nI 3) hx hb dB_shorten_41 (by decide) ?_
            refine lv_icmp_gt (tgt := 73) hx hb dB_shorten_42 (by decide) (fun c_42 => ?_) (fun c_42 => ?_)
            · skip
              have c_42 : 3 < ((1 + 1) + 1) := n_lt c_42 (by omega) (by omega)
              omega
            · skip
              have c_42 : ((1 + 1) + 1) ≤ 3 := n_nlt c_42 (by omega) (by omega)
              refine lv_lload hx hb dB_shorten_45 (lv_at hl 1 rfl) ?_
              refine lv_bipush (v := nI 8) hx hb dB_shorten_47 (by decide) ?_
              refine lv_lshl (v := j_shl ((j_shl ((j_shl 0 (nI 8)) ||| (m_byte a b c0 d ((nI k) - (nI 1)))) (nI 8)) ||| (m_byte a b c0 d ((nI k) - (nI (1 + 1))))) (nI 8)) hx hb dB_shorten_49 rfl ?_
              refine lv_lload_n hx hb dB_shorten_50 rfl (lv_at hl 2 rfl) ?_
              refine lv_lload_n hx hb dB_shorten_51 rfl (lv_at hl 3 rfl) ?_
              refine lv_lload hx hb dB_shorten_52 (lv_at hl 4 rfl) ?_
              refine lv_lload hx hb dB_shorten_54 (lv_at hl 5 rfl) ?_
              refine lv_iload hx hb dB_shorten_56 (lv_at hl 6 rfl) ?_
              refine lv_iload hx hb dB_shorten_58 (lv_at hl 0 rfl) ?_
              refine lv_isub hx hb dB_shorten_60 ?_
              refine ro_kl (va_runS (As := [.long a, .long b, .long c0, .long d, .int ((nI k) - (nI ((1 + 1) + 1)))]) (rest := [.long (j_shl ((j_shl ((j_shl 0 (nI 8)) ||| (m_byte a b c0 d ((nI k) - (nI 1)))) (nI 8)) ||| (m_byte a b c0 d ((nI k) - (nI (1 + 1))))) (nI 8))]) ⟨hx, hb, hml, hown, hts⟩ (c_B_byteAt l D cI cJ cZ a b c0 d ((nI k) - (nI ((1 + 1) + 1)))) (va_cwS 5 hts gB_shorten_B_byteAt_33 rfl rfl rfl (by decide +kernel) ⟨Nat.le_of_ble_eq_true rfl, Nat.le_of_ble_eq_true rfl⟩) (ro_preS (hP.sub [] rfl) hK) rfl rfl hl.1 rfl (lv_room (Nat.le_of_ble_eq_true rfl)) dB_shorten_61 ⟨Nat.le_of_ble_eq_true rfl, Nat.le_of_ble_eq_true rfl⟩) ?_
              refine lv_lor hx hb dB_shorten_64 ?_
              refine lv_lstore (lv' := [(9, .long ((j_shl ((j_shl ((j_shl 0 (nI 8)) ||| (m_byte a b c0 d ((nI k) - (nI 1)))) (nI 8)) ||| (m_byte a b c0 d ((nI k) - (nI (1 + 1))))) (nI 8)) ||| (m_byte a b c0 d ((nI k) - (nI ((1 + 1) + 1)))))), (11, .int (nI ((1 + 1) + 1))), (0, .long a), (2, .long b), (4, .long c0), (6, .long d), (8, .int (nI k))]) hx hb dB_shorten_65 hl (by decide) rfl (fun ls hl => ?_)
              refine lv_iinc (v := nI (((1 + 1) + 1) + 1)) (lv' := [(11, .int (nI (((1 + 1) + 1) + 1))), (9, .long ((j_shl ((j_shl ((j_shl 0 (nI 8)) ||| (m_byte a b c0 d ((nI k) - (nI 1)))) (nI 8)) ||| (m_byte a b c0 d ((nI k) - (nI (1 + 1))))) (nI 8)) ||| (m_byte a b c0 d ((nI k) - (nI ((1 + 1) + 1)))))), (0, .long a), (2, .long b), (4, .long c0), (6, .long d), (8, .int (nI k))]) hx hb dB_shorten_67 hl (k := 1) rfl (nI_add _ 1) (by decide) rfl (fun ls hl => ?_)
              refine lv_goto (tgt := 39) hx hb dB_shorten_70 (by decide) ?_
              refine lv_iload hx hb dB_shorten_39 (lv_at hl 0 rfl) ?_
              refine lv_iconst (v := nI 3) hx hb dB_shorten_41 (by decide) ?_
              refine lv_icmp_gt (tgt := 73) hx hb dB_shorten_42 (by decide) (fun c_42 => ?_) (fun c_42 => ?_)
              · skip
                have c_42 : 3 < (((1 + 1) + 1) + 1) := n_lt c_42 (by omega) (by omega)
                refine lv_lload hx hb dB_shorten_73 (lv_at hl 1 rfl) ?_
                refine lv_ldc2 (v := 8388608) hx hb hown (hts (.constantLong RB 13 8388608) (by decide +kernel)) dB_shorten_75 ?_
                refine lv_land hx hb dB_shorten_78 ?_
                refine lv_lconst (v := 0) hx hb dB_shorten_79 (by decide) ?_
                refine lc_eq (tgt := 94) hx hb dB_shorten_80 dB_shorten_81 (by decide) (fun c_81 => ?_) (fun c_81 => ?_)
                · skip
                  refine lv_iload hx hb dB_shorten_94 (lv_at hl 6 rfl) ?_
                  refine lv_i2l (v := (nI k).toInt64) hx hb dB_shorten_96 rfl ?_
                  refine lv_bipush (v := nI 24) hx hb dB_shorten_97 (by decide) ?_
                  refine lv_lshl (v := j_shl ((nI k).toInt64) (nI 24)) hx hb dB_shorten_99 rfl ?_
                  refine lv_lload hx hb dB_shorten_100 (lv_at hl 1 rfl) ?_
                  refine lv_lor hx hb dB_shorten_102 ?_
                  exact ro_lret hQ hx hb hr hlocks dB_shorten_103 (by simp [m_short, m_num, hz, c_81])
                · skip
                  refine lv_lload hx hb dB_shorten_84 (lv_at hl 1 rfl) ?_
                  refine lv_bipush (v := nI 8) hx hb dB_shorten_86 (by decide) ?_
                  refine lv_lushr (v := j_ushr ((j_shl ((j_shl ((j_shl 0 (nI 8)) ||| (m_byte a b c0 d ((nI k) - (nI 1)))) (nI 8)) ||| (m_byte a b c0 d ((nI k) - (nI (1 + 1))))) (nI 8)) ||| (m_byte a b c0 d ((nI k) - (nI ((1 + 1) + 1))))) (nI 8)) hx hb dB_shorten_88 rfl ?_
                  refine lv_lstore (lv' := [(9, .long (j_ushr ((j_shl ((j_shl ((j_shl 0 (nI 8)) ||| (m_byte a b c0 d ((nI k) - (nI 1)))) (nI 8)) ||| (m_byte a b c0 d ((nI k) - (nI (1 + 1))))) (nI 8)) ||| (m_byte a b c0 d ((nI k) - (nI ((1 + 1) + 1))))) (nI 8))), (11, .int (nI (((1 + 1) + 1) + 1))), (0, .long a), (2, .long b), (4, .long c0), (6, .long d), (8, .int (nI k))]) hx hb dB_shorten_89 hl (by decide) rfl (fun ls hl => ?_)
                  refine lv_iinc (v := nI (k + 1)) (lv' := [(8, .int (nI (k + 1))), (9, .long (j_ushr ((j_shl ((j_shl ((j_shl 0 (nI 8)) ||| (m_byte a b c0 d ((nI k) - (nI 1)))) (nI 8)) ||| (m_byte a b c0 d ((nI k) - (nI (1 + 1))))) (nI 8)) ||| (m_byte a b c0 d ((nI k) - (nI ((1 + 1) + 1))))) (nI 8))), (11, .int (nI (((1 + 1) + 1) + 1))), (0, .long a), (2, .long b), (4, .long c0), (6, .long d)]) hx hb dB_shorten_91 hl (k := 6) rfl (nI_add _ 1) (by decide) rfl (fun ls hl => ?_)
                  refine lv_iload hx hb dB_shorten_94 (lv_at hl 0 rfl) ?_
                  refine lv_i2l (v := (nI (k + 1)).toInt64) hx hb dB_shorten_96 rfl ?_
                  refine lv_bipush (v := nI 24) hx hb dB_shorten_97 (by decide) ?_
                  refine lv_lshl (v := j_shl ((nI (k + 1)).toInt64) (nI 24)) hx hb dB_shorten_99 rfl ?_
                  refine lv_lload hx hb dB_shorten_100 (lv_at hl 1 rfl) ?_
                  refine lv_lor hx hb dB_shorten_102 ?_
                  exact ro_lret hQ hx hb hr hlocks dB_shorten_103 (by simp [m_short, m_num, hz, c_81])
              · skip
                have c_42 : (((1 + 1) + 1) + 1) ≤ 3 := n_nlt c_42 (by omega) (by omega)
                omega
      · skip
        rw [← nI_0] at c_6
        have c_6 : 0 < k := n_nle c_6 (by omega) (by omega)
        refine lv_lload_n hx hb dB_shorten_9 rfl (lv_at hl 0 rfl) ?_
        refine lv_lload_n hx hb dB_shorten_10 rfl (lv_at hl 1 rfl) ?_
        refine lv_lload hx hb dB_shorten_11 (lv_at hl 2 rfl) ?_
        refine lv_lload hx hb dB_shorten_13 (lv_at hl 3 rfl) ?_
        refine lv_iload hx hb dB_shorten_15 (lv_at hl 4 rfl) ?_
        refine lv_iconst (v := nI 1) hx hb dB_shorten_17 (by decide) ?_
        refine lv_isub hx hb dB_shorten_18 ?_
        refine tp_i (y := nI (k - 1)) (pk_sub (by omega)) ?_
        refine ro_kl (va_runS (As := [.long a, .long b, .long c0, .long d, .int (nI (k - 1))]) (rest := []) ⟨hx, hb, hml, hown, hts⟩ (c_B_byteAt l D cI cJ cZ a b c0 d (nI (k - 1))) (va_cwS 5 hts gB_shorten_B_byteAt_33 rfl rfl rfl (by decide +kernel) ⟨Nat.le_of_ble_eq_true rfl, Nat.le_of_ble_eq_true rfl⟩) (ro_preS (hP.sub [] rfl) hK) rfl rfl hl.1 rfl (lv_room (Nat.le_of_ble_eq_true rfl)) dB_shorten_19 ⟨Nat.le_of_ble_eq_true rfl, Nat.le_of_ble_eq_true rfl⟩) ?_
        refine lv_lconst (v := 0) hx hb dB_shorten_22 (by decide) ?_
        refine lc_ne (tgt := 33) hx hb dB_shorten_23 dB_shorten_24 (by decide) (fun c_24 => ?_) (fun c_24 => ?_)
        · skip
          have hz : m_size a b c0 d 32 = k := by rw [← hk]; exact m_size_e (by omega) c_24
          refine lv_lconst (v := 0) hx hb dB_shorten_33 (by decide) ?_
          refine lv_lstore (lv' := [(9, .long 0), (0, .long a), (2, .long b), (4, .long c0), (6, .long d), (8, .int (nI k))]) hx hb dB_shorten_34 hl (by decide) rfl (fun ls hl => ?_)
          refine lv_iconst (v := nI 1) hx hb dB_shorten_36 (by decide) ?_
          refine lv_istore (lv' := [(11, .int (nI 1)), (9, .long 0), (0, .long a), (2, .long b), (4, .long c0), (6, .long d), (8, .int (nI k))]) hx hb dB_shorten_37 hl (by decide) rfl (fun ls hl => ?_)
          refine lv_iload hx hb dB_shorten_39 (lv_at hl 0 rfl) ?_
          refine lv_iconst (v := nI 3) hx hb dB_shorten_41 (by decide) ?_
          refine lv_icmp_gt (tgt := 73) hx hb dB_shorten_42 (by decide) (fun c_42 => ?_) (fun c_42 => ?_)
          · skip
            have c_42 : 3 < 1 := n_lt c_42 (by omega) (by omega)
            omega
          · skip
            have c_42 : 1 ≤ 3 := n_nlt c_42 (by omega) (by omega)
            refine lv_lload hx hb dB_shorten_45 (lv_at hl 1 rfl) ?_
            refine lv_bipush (v := nI 8) hx hb dB_shorten_47 (by decide) ?_
            refine lv_lshl (v := j_shl 0 (nI 8)) hx hb dB_shorten_49 rfl ?_
            refine lv_lload_n hx hb dB_shorten_50 rfl (lv_at hl 2 rfl) ?_
            refine lv_lload_n hx hb dB_shorten_51 rfl (lv_at hl 3 rfl) ?_
            refine lv_lload hx hb dB_shorten_52 (lv_at hl 4 rfl) ?_
            refine lv_lload hx hb dB_shorten_54 (lv_at hl 5 rfl) ?_
            refine lv_iload hx hb dB_shorten_56 (lv_at hl 6 rfl) ?_
            refine lv_iload hx hb dB_shorten_58 (lv_at hl 0 rfl) ?_
            refine lv_isub hx hb dB_shorten_60 ?_
            refine ro_kl (va_runS (As := [.long a, .long b, .long c0, .long d, .int ((nI k) - (nI 1))]) (rest := [.long (j_shl 0 (nI 8))]) ⟨hx, hb, hml, hown, hts⟩ (c_B_byteAt l D cI cJ cZ a b c0 d ((nI k) - (nI 1))) (va_cwS 5 hts gB_shorten_B_byteAt_33 rfl rfl rfl (by decide +kernel) ⟨Nat.le_of_ble_eq_true rfl, Nat.le_of_ble_eq_true rfl⟩) (ro_preS (hP.sub [] rfl) hK) rfl rfl hl.1 rfl (lv_room (Nat.le_of_ble_eq_true rfl)) dB_shorten_61 ⟨Nat.le_of_ble_eq_true rfl, Nat.le_of_ble_eq_true rfl⟩) ?_
            refine lv_lor hx hb dB_shorten_64 ?_
            refine lv_lstore (lv' := [(9, .long ((j_shl 0 (nI 8)) ||| (m_byte a b c0 d ((nI k) - (nI 1))))), (11, .int (nI 1)), (0, .long a), (2, .long b), (4, .long c0), (6, .long d), (8, .int (nI k))]) hx hb dB_shorten_65 hl (by decide) rfl (fun ls hl => ?_)
            refine lv_iinc (v := nI (1 + 1)) (lv' := [(11, .int (nI (1 + 1))), (9, .long ((j_shl 0 (nI 8)) ||| (m_byte a b c0 d ((nI k) - (nI 1))))), (0, .long a), (2, .long b), (4, .long c0), (6, .long d), (8, .int (nI k))]) hx hb dB_shorten_67 hl (k := 1) rfl (nI_add _ 1) (by decide) rfl (fun ls hl => ?_)
            refine lv_goto (tgt := 39) hx hb dB_shorten_70 (by decide) ?_
            refine lv_iload hx hb dB_shorten_39 (lv_at hl 0 rfl) ?_
            refine lv_iconst (v := nI 3) hx hb dB_shorten_41 (by decide) ?_
            refine lv_icmp_gt (tgt := 73) hx hb dB_shorten_42 (by decide) (fun c_42 => ?_) (fun c_42 => ?_)
            · skip
              have c_42 : 3 < (1 + 1) := n_lt c_42 (by omega) (by omega)
              omega
            · skip
              have c_42 : (1 + 1) ≤ 3 := n_nlt c_42 (by omega) (by omega)
              refine lv_lload hx hb dB_shorten_45 (lv_at hl 1 rfl) ?_
              refine lv_bipush (v := nI 8) hx hb dB_shorten_47 (by decide) ?_
              refine lv_lshl (v := j_shl ((j_shl 0 (nI 8)) ||| (m_byte a b c0 d ((nI k) - (nI 1)))) (nI 8)) hx hb dB_shorten_49 rfl ?_
              refine lv_lload_n hx hb dB_shorten_50 rfl (lv_at hl 2 rfl) ?_
              refine lv_lload_n hx hb dB_shorten_51 rfl (lv_at hl 3 rfl) ?_
              refine lv_lload hx hb dB_shorten_52 (lv_at hl 4 rfl) ?_
              refine lv_lload hx hb dB_shorten_54 (lv_at hl 5 rfl) ?_
              refine lv_iload hx hb dB_shorten_56 (lv_at hl 6 rfl) ?_
              refine lv_iload hx hb dB_shorten_58 (lv_at hl 0 rfl) ?_
              refine lv_isub hx hb dB_shorten_60 ?_
              refine ro_kl (va_runS (As := [.long a, .long b, .long c0, .long d, .int ((nI k) - (nI (1 + 1)))]) (rest := [.long (j_shl ((j_shl 0 (nI 8)) ||| (m_byte a b c0 d ((nI k) - (nI 1)))) (nI 8))]) ⟨hx, hb, hml, hown, hts⟩ (c_B_byteAt l D cI cJ cZ a b c0 d ((nI k) - (nI (1 + 1)))) (va_cwS 5 hts gB_shorten_B_byteAt_33 rfl rfl rfl (by decide +kernel) ⟨Nat.le_of_ble_eq_true rfl, Nat.le_of_ble_eq_true rfl⟩) (ro_preS (hP.sub [] rfl) hK) rfl rfl hl.1 rfl (lv_room (Nat.le_of_ble_eq_true rfl)) dB_shorten_61 ⟨Nat.le_of_ble_eq_true rfl, Nat.le_of_ble_eq_true rfl⟩) ?_
              refine lv_lor hx hb dB_shorten_64 ?_
              refine lv_lstore (lv' := [(9, .long ((j_shl ((j_shl 0 (nI 8)) ||| (m_byte a b c0 d ((nI k) - (nI 1)))) (nI 8)) ||| (m_byte a b c0 d ((nI k) - (nI (1 + 1)))))), (11, .int (nI (1 + 1))), (0, .long a), (2, .long b), (4, .long c0), (6, .long d), (8, .int (nI k))]) hx hb dB_shorten_65 hl (by decide) rfl (fun ls hl => ?_)
              refine lv_iinc (v := nI ((1 + 1) + 1)) (lv' := [(11, .int (nI ((1 + 1) + 1))), (9, .long ((j_shl ((j_shl 0 (nI 8)) ||| (m_byte a b c0 d ((nI k) - (nI 1)))) (nI 8)) ||| (m_byte a b c0 d ((nI k) - (nI (1 + 1)))))), (0, .long a), (2, .long b), (4, .long c0), (6, .long d), (8, .int (nI k))]) hx hb dB_shorten_67 hl (k := 1) rfl (nI_add _ 1) (by decide) rfl (fun ls hl => ?_)
              refine lv_goto (tgt := 39) hx hb dB_shorten_70 (by decide) ?_
              refine lv_iload hx hb dB_shorten_39 (lv_at hl 0 rfl) ?_
              refine lv_iconst (v := nI 3) hx hb dB_shorten_41 (by decide) ?_
              refine lv_icmp_gt (tgt := 73) hx hb dB_shorten_42 (by decide) (fun c_42 => ?_) (fun c_42 => ?_)
              · skip
                have c_42 : 3 < ((1 + 1) + 1) := n_lt c_42 (by omega) (by omega)
                omega
              · skip
                have c_42 : ((1 + 1) + 1) ≤ 3 := n_nlt c_42 (by omega) (by omega)
                refine lv_lload hx hb dB_shorten_45 (lv_at hl 1 rfl) ?_
                refine lv_bipush (v := nI 8) hx hb dB_shorten_47 (by decide) ?_
                refine lv_lshl (v := j_shl ((j_shl ((j_shl 0 (nI 8)) ||| (m_byte a b c0 d ((nI k) - (nI 1)))) (nI 8)) ||| (m_byte a b c0 d ((nI k) - (nI (1 + 1))))) (nI 8)) hx hb dB_shorten_49 rfl ?_
                refine lv_lload_n hx hb dB_shorten_50 rfl (lv_at hl 2 rfl) ?_
                refine lv_lload_n hx hb dB_shorten_51 rfl (lv_at hl 3 rfl) ?_
                refine lv_lload hx hb dB_shorten_52 (lv_at hl 4 rfl) ?_
                refine lv_lload hx hb dB_shorten_54 (lv_at hl 5 rfl) ?_
                refine lv_iload hx hb dB_shorten_56 (lv_at hl 6 rfl) ?_
                refine lv_iload hx hb dB_shorten_58 (lv_at hl 0 rfl) ?_
                refine lv_isub hx hb dB_shorten_60 ?_
                refine ro_kl (va_runS (As := [.long a, .long b, .long c0, .long d, .int ((nI k) - (nI ((1 + 1) + 1)))]) (rest := [.long (j_shl ((j_shl ((j_shl 0 (nI 8)) ||| (m_byte a b c0 d ((nI k) - (nI 1)))) (nI 8)) ||| (m_byte a b c0 d ((nI k) - (nI (1 + 1))))) (nI 8))]) ⟨hx, hb, hml, hown, hts⟩ (c_B_byteAt l D cI cJ cZ a b c0 d ((nI k) - (nI ((1 + 1) + 1)))) (va_cwS 5 hts gB_shorten_B_byteAt_33 rfl rfl rfl (by decide +kernel) ⟨Nat.le_of_ble_eq_true rfl, Nat.le_of_ble_eq_true rfl⟩) (ro_preS (hP.sub [] rfl) hK) rfl rfl hl.1 rfl (lv_room (Nat.le_of_ble_eq_true rfl)) dB_shorten_61 ⟨Nat.le_of_ble_eq_true rfl, Nat.le_of_ble_eq_true rfl⟩) ?_
                refine lv_lor hx hb dB_shorten_64 ?_
                refine lv_lstore (lv' := [(9, .long ((j_shl ((j_shl ((j_shl 0 (nI 8)) ||| (m_byte a b c0 d ((nI k) - (nI 1)))) (nI 8)) ||| (m_byte a b c0 d ((nI k) - (nI (1 + 1))))) (nI 8)) ||| (m_byte a b c0 d ((nI k) - (nI ((1 + 1) + 1)))))), (11, .int (nI ((1 + 1) + 1))), (0, .long a), (2, .long b), (4, .long c0), (6, .long d), (8, .int (nI k))]) hx hb dB_shorten_65 hl (by decide) rfl (fun ls hl => ?_)
                refine lv_iinc (v := nI (((1 + 1) + 1) + 1)) (lv' := [(11, .int (nI (((1 + 1) + 1) + 1))), (9, .long ((j_shl ((j_shl ((j_shl 0 (nI 8)) ||| (m_byte a b c0 d ((nI k) - (nI 1)))) (nI 8)) ||| (m_byte a b c0 d ((nI k) - (nI (1 + 1))))) (nI 8)) ||| (m_byte a b c0 d ((nI k) - (nI ((1 + 1) + 1)))))), (0, .long a), (2, .long b), (4, .long c0), (6, .long d), (8, .int (nI k))]) hx hb dB_shorten_67 hl (k := 1) rfl (nI_add _ 1) (by decide) rfl (fun ls hl => ?_)
                refine lv_goto (tgt := 39) hx hb dB_shorten_70 (by decide) ?_
                refine lv_iload hx hb dB_shorten_39 (lv_at hl 0 rfl) ?_
                refine lv_iconst (v := nI 3) hx hb dB_shorten_41 (by decide) ?_
                refine lv_icmp_gt (tgt := 73) hx hb dB_shorten_42 (by decide) (fun c_42 => ?_) (fun c_42 => ?_)
                · skip
                  have c_42 : 3 < (((1 + 1) + 1) + 1) := n_lt c_42 (by omega) (by omega)
                  refine lv_lload hx hb dB_shorten_73 (lv_at hl 1 rfl) ?_
                  refine lv_ldc2 (v := 8388608) hx hb hown (hts (.constantLong RB 13 8388608) (by decide +kernel)) dB_shorten_75 ?_
                  refine lv_land hx hb dB_shorten_78 ?_
                  refine lv_lconst (v := 0) hx hb dB_shorten_79 (by decide) ?_
                  refine lc_eq (tgt := 94) hx hb dB_shorten_80 dB_shorten_81 (by decide) (fun c_81 => ?_) (fun c_81 => ?_)
                  · skip
                    refine lv_iload hx hb dB_shorten_94 (lv_at hl 6 rfl) ?_
                    refine lv_i2l (v := (nI k).toInt64) hx hb dB_shorten_96 rfl ?_
                    refine lv_bipush (v := nI 24) hx hb dB_shorten_97 (by decide) ?_
                    refine lv_lshl (v := j_shl ((nI k).toInt64) (nI 24)) hx hb dB_shorten_99 rfl ?_
                    refine lv_lload hx hb dB_shorten_100 (lv_at hl 1 rfl) ?_
                    refine lv_lor hx hb dB_shorten_102 ?_
                    exact ro_lret hQ hx hb hr hlocks dB_shorten_103 (by simp [m_short, m_num, hz, c_81])
                  · skip
                    refine lv_lload hx hb dB_shorten_84 (lv_at hl 1 rfl) ?_
                    refine lv_bipush (v := nI 8) hx hb dB_shorten_86 (by decide) ?_
                    refine lv_lushr (v := j_ushr ((j_shl ((j_shl ((j_shl 0 (nI 8)) ||| (m_byte a b c0 d ((nI k) - (nI 1)))) (nI 8)) ||| (m_byte a b c0 d ((nI k) - (nI (1 + 1))))) (nI 8)) ||| (m_byte a b c0 d ((nI k) - (nI ((1 + 1) + 1))))) (nI 8)) hx hb dB_shorten_88 rfl ?_
                    refine lv_lstore (lv' := [(9, .long (j_ushr ((j_shl ((j_shl ((j_shl 0 (nI 8)) ||| (m_byte a b c0 d ((nI k) - (nI 1)))) (nI 8)) ||| (m_byte a b c0 d ((nI k) - (nI (1 + 1))))) (nI 8)) ||| (m_byte a b c0 d ((nI k) - (nI ((1 + 1) + 1))))) (nI 8))), (11, .int (nI (((1 + 1) + 1) + 1))), (0, .long a), (2, .long b), (4, .long c0), (6, .long d), (8, .int (nI k))]) hx hb dB_shorten_89 hl (by decide) rfl (fun ls hl => ?_)
                    refine lv_iinc (v := nI (k + 1)) (lv' := [(8, .int (nI (k + 1))), (9, .long (j_ushr ((j_shl ((j_shl ((j_shl 0 (nI 8)) ||| (m_byte a b c0 d ((nI k) - (nI 1)))) (nI 8)) ||| (m_byte a b c0 d ((nI k) - (nI (1 + 1))))) (nI 8)) ||| (m_byte a b c0 d ((nI k) - (nI ((1 + 1) + 1))))) (nI 8))), (11, .int (nI (((1 + 1) + 1) + 1))), (0, .long a), (2, .long b), (4, .long c0), (6, .long d)]) hx hb dB_shorten_91 hl (k := 6) rfl (nI_add _ 1) (by decide) rfl (fun ls hl => ?_)
                    refine lv_iload hx hb dB_shorten_94 (lv_at hl 0 rfl) ?_
                    refine lv_i2l (v := (nI (k + 1)).toInt64) hx hb dB_shorten_96 rfl ?_
                    refine lv_bipush (v := nI 24) hx hb dB_shorten_97 (by decide) ?_
                    refine lv_lshl (v := j_shl ((nI (k + 1)).toInt64) (nI 24)) hx hb dB_shorten_99 rfl ?_
                    refine lv_lload hx hb dB_shorten_100 (lv_at hl 1 rfl) ?_
                    refine lv_lor hx hb dB_shorten_102 ?_
                    exact ro_lret hQ hx hb hr hlocks dB_shorten_103 (by simp [m_short, m_num, hz, c_81])
                · skip
                  have c_42 : (((1 + 1) + 1) + 1) ≤ 3 := n_nlt c_42 (by omega) (by omega)
                  omega
        · skip
          refine lv_iinc (v := nI (k - 1)) (lv' := [(8, .int (nI (k - 1))), (0, .long a), (2, .long b), (4, .long c0), (6, .long d)]) hx hb dB_shorten_27 hl (k := 4) rfl (sb_m1 (by omega)) (by decide) rfl (fun ls hl => ?_)
          refine lv_goto (tgt := 4) hx hb dB_shorten_30 (by decide) ?_
          exact ih_4 (k - 1) (by omega) (by omega) ((m_size_s (by omega) c_24).trans hk) ls (lv_sub hl [1, 2, 3, 4, 0] rfl)
  exact lp_4 33 32 (by omega) (by omega) rfl ls (lv_sub hl [1, 2, 3, 4, 0] rfl)
end
section
abbrev rm_c_R_multiply : Room := { frames := 3, cells := 0, slots := 0, locals := 70 }
set_option maxRecDepth 100000 in
set_option maxHeartbeats 4000000 in
theorem c_R_multiply (l : Launch) (D : va_G) (cI cJ cZ : ClassId) (o : Nat) (q : Nat) (f : Nat → Int64) (b : Int64) (t : Int64)  : rw_C l yR_multiply wR_multiply rm_c_R_multiply D vwCl (gT cI cJ cZ) [.ref o, .long b, .long t] [(o, .inr (0, [.ref q])), (q, .inl (cJ, 9, .inr (.inl f)))] (fun v9 w9 => v9 = none ∧ w9 = [(o, .inr (0, [.ref q])), (q, .inl (cJ, 9, .inr (.inl (m_mul b t f))))]) 0 0 := by
  refine rw_of (cc := cR_multiply) (maxL := 10) (ret := none) (by decide) rfl (Nat.le_of_ble_eq_true rfl) ?_
  intro p e s m args below meth c Q A ls hx hb hr hml hown hts hlocks hin hK hP hD hA hl hQ
  have hS : va_S A s.heap s.heap [] := va_S.rf
  have hl : lv_has ls 10 [(0, .ref o), (1, .long b), (3, .long t)] := hl
  have hown : s.vm.findClass RR = some m.cls := hown
  obtain ⟨H, hHe⟩ : ∃ H : Heap, H = s.heap := ⟨_, rfl⟩
  rw [← hHe] at hP
  have hS : va_S A s.heap H [] := by rw [hHe]; exact va_S.rf
  suffices h9 : W p l e rm_c_R_multiply s m args below meth c H [] 0 0 Q (F0 m 0 ls []) by rw [hHe] at h9; exact h9
  clear hHe
  refine lv_lconst (v := 0) hx hb dR_multiply_0 (by decide) ?_
  refine lv_lstore (lv' := [(5, .long 0), (0, .ref o), (1, .long b), (3, .long t)]) hx hb dR_multiply_1 hl (by decide) rfl (fun ls hl => ?_)
  refine lv_bipush (v := nI 7) hx hb dR_multiply_3 (by decide) ?_
  refine lv_istore (lv' := [(7, .int (nI 7)), (5, .long 0), (0, .ref o), (1, .long b), (3, .long t)]) hx hb dR_multiply_5 hl (by decide) rfl (fun ls hl => ?_)
  have lp_7 : ∀ (n_7 : Nat) (k : Nat) (i : Int32) (g : Nat → Int64) (cy : Int64), (k < n_7) → (k ≤ 8) → (i = nI k + (-1)) → (m_mulL b t k g cy = m_mulL b t 8 f 0) → ∀ (H : Heap) (locs : List Loc), va_P D vwCl [(o, .inr (0, [.ref q])), (q, .inl (cJ, 9, .inr (.inl g)))] H → va_D A [(o, .inr (0, [.ref q])), (q, .inl (cJ, 9, .inr (.inl g)))] → va_S A s.heap H locs → ∀ (ls : Array Slot), lv_has ls 10 [(0, .ref o), (1, .long b), (3, .long t), (5, .long cy), (7, .int i)] → W p l e rm_c_R_multiply s m args below meth c H locs 0 0 Q (F0 m 7 ls []) := by
    intro n_7
    induction n_7 with
    | zero => intro k i g cy hn h8 hi hg H locs hP hD hS ls hl; exact absurd hn (by omega)
    | succ n_7 ih_7 =>
      intro k i g cy hn h8 hi hg H locs hP hD hS ls hl
      refine lv_iload hx hb dR_multiply_7 (lv_at hl 4 rfl) ?_
      refine lv_if_lt (tgt := 53) hx hb dR_multiply_9 (by decide) (fun c_9 => ?_) (fun c_9 => ?_)
      · skip
        have hk0 : k = 0 := dn_0 hi c_9 (by omega)
        subst hk0
        refine lv_aload_n hx hb dR_multiply_53 rfl (lv_at hl 0 rfl) ?_
        refine va_get (D := D) (ci := 0) (v := .ref q) (C := RR) (T := TR) (N := 1) hx hb hts iR_multiply_R hown hK hP 0 rfl rfl 0 (by decide) (hts (.fieldLink RR 9 "TreeDesk$Retarget" "product" "[J") (by decide +kernel)) (fun _ h9 => h9) rfl dR_multiply_54 ?_
        refine lv_iconst (v := nI 0) hx hb dR_multiply_57 (by decide) ?_
        refine lv_lload hx hb dR_multiply_58 (lv_at hl 3 rfl) ?_
        refine ar_lst (j := 0) hx hb hK hP hD hS 1 1 rfl rfl dR_multiply_60 (by omega) (by omega) (fun H locs hP hD hS => ?_)
        have hP : va_P D vwCl [(o, .inr (0, [.ref q])), (q, .inl (cJ, 9, .inr (.inl (vp_updL g 0 cy))))] H := hP
        have hD : va_D A [(o, .inr (0, [.ref q])), (q, .inl (cJ, 9, .inr (.inl (vp_updL g 0 cy))))] := hD
        exact rw_vret (w := [(o, .inr (0, [.ref q])), (q, .inl (cJ, 9, .inr (.inl (vp_updL g 0 cy))))]) hQ hx hb hr hlocks dR_multiply_61 (hP.sub [0, 1] rfl) (hD.sub [0, 1] (by decide) rfl) hS ⟨rfl, by rw [show m_mul b t f = vp_updL g 0 cy from hg.symm]⟩
      · skip
        obtain ⟨j, rfl, rfl⟩ := dn_s hi c_9
        refine lv_lload_n hx hb dR_multiply_12 rfl (lv_at hl 1 rfl) ?_
        refine lv_iload hx hb dR_multiply_13 (lv_at hl 4 rfl) ?_
        refine ro_kl (va_runS (As := [.long b, .int (nI j)]) (rest := []) ⟨hx, hb, hml, hown, hts⟩ (c_B_targetHalf l D cI cJ cZ b j (by omega)) (va_cwS 2 hts gR_multiply_B_targetHalf_46 rfl rfl rfl (by decide +kernel) ⟨Nat.le_of_ble_eq_true rfl, Nat.le_of_ble_eq_true rfl⟩) (ro_preS (hP.sub [] rfl) hK) rfl rfl hl.1 rfl (lv_room (Nat.le_of_ble_eq_true rfl)) dR_multiply_15 ⟨Nat.le_of_ble_eq_true rfl, Nat.le_of_ble_eq_true rfl⟩) ?_
        refine lv_lload_n hx hb dR_multiply_18 rfl (lv_at hl 2 rfl) ?_
        refine lv_lmul hx hb dR_multiply_19 ?_
        refine lv_lload hx hb dR_multiply_20 (lv_at hl 3 rfl) ?_
        refine lv_ladd hx hb dR_multiply_22 ?_
        refine lv_lstore (lv' := [(8, .long (((m_th b j) * t) + cy)), (0, .ref o), (1, .long b), (3, .long t), (5, .long cy), (7, .int (nI j))]) hx hb dR_multiply_23 hl (by decide) rfl (fun ls hl => ?_)
        refine lv_aload_n hx hb dR_multiply_25 rfl (lv_at hl 1 rfl) ?_
        refine va_get (D := D) (ci := 0) (v := .ref q) (C := RR) (T := TR) (N := 1) hx hb hts iR_multiply_R hown hK hP 0 rfl rfl 0 (by decide) (hts (.fieldLink RR 9 "TreeDesk$Retarget" "product" "[J") (by decide +kernel)) (fun _ h9 => h9) rfl dR_multiply_26 ?_
        refine lv_iload hx hb dR_multiply_29 (lv_at hl 5 rfl) ?_
        refine lv_iconst (v := nI 1) hx hb dR_multiply_31 (by decide) ?_
        refine lv_iadd hx hb dR_multiply_32 ?_
        refine tp_i (y := nI (j + 1)) (nI_add _ _) ?_
        refine lv_lload hx hb dR_multiply_33 (lv_at hl 0 rfl) ?_
        refine lv_ldc2 (v := 4294967295) hx hb hown (hts (.constantLong RR 50 4294967295) (by decide +kernel)) dR_multiply_35 ?_
        refine lv_land hx hb dR_multiply_38 ?_
        refine ar_lst (j := j + 1) hx hb hK hP hD hS 1 1 rfl rfl dR_multiply_39 (by omega) (by omega) (fun H locs hP hD hS => ?_)
        have hP : va_P D vwCl [(o, .inr (0, [.ref q])), (q, .inl (cJ, 9, .inr (.inl (vp_updL g (j + 1) ((((m_th b j) * t) + cy) &&& 4294967295)))))] H := hP
        have hD : va_D A [(o, .inr (0, [.ref q])), (q, .inl (cJ, 9, .inr (.inl (vp_updL g (j + 1) ((((m_th b j) * t) + cy) &&& 4294967295)))))] := hD
        refine lv_lload hx hb dR_multiply_40 (lv_at hl 0 rfl) ?_
        refine lv_bipush (v := nI 32) hx hb dR_multiply_42 (by decide) ?_
        refine lv_lushr (v := j_ushr (((m_th b j) * t) + cy) (nI 32)) hx hb dR_multiply_44 rfl ?_
        refine lv_lstore (lv' := [(5, .long (j_ushr (((m_th b j) * t) + cy) (nI 32))), (8, .long (((m_th b j) * t) + cy)), (0, .ref o), (1, .long b), (3, .long t), (7, .int (nI j))]) hx hb dR_multiply_45 hl (by decide) rfl (fun ls hl => ?_)
        refine lv_iinc (v := (nI j) + (-1)) (lv' := [(7, .int ((nI j) + (-1))), (5, .long (j_ushr (((m_th b j) * t) + cy) (nI 32))), (8, .long (((m_th b j) * t) + cy)), (0, .ref o), (1, .long b), (3, .long t)]) hx hb dR_multiply_47 hl (k := 5) rfl rfl (by decide) rfl (fun ls hl => ?_)
        refine lv_goto (tgt := 7) hx hb dR_multiply_50 (by decide) ?_
        exact ih_7 j ((nI j) + (-1)) (vp_updL g (j + 1) ((((m_th b j) * t) + cy) &&& 4294967295)) (j_ushr (((m_th b j) * t) + cy) (nI 32)) (by omega) (by omega) rfl hg _ _ (hP.sub [0, 1] rfl) (hD.sub [0, 1] (by decide) rfl) hS ls (lv_sub hl [3, 4, 5, 1, 0] rfl)
  exact lp_7 9 8 (nI 7) f 0 (by omega) (by omega) (pk_m1 7).symm rfl _ _ (hP.sub [0, 1] rfl) (hD.sub [0, 1] (by decide) rfl) hS ls (lv_sub hl [2, 3, 4, 1, 0] rfl)

abbrev rm_c_R_divide : Room := { frames := 1, cells := 0, slots := 0, locals := 23 }
set_option maxRecDepth 100000 in
set_option maxHeartbeats 4000000 in
theorem c_R_divide (l : Launch) (D : va_G) (cI cJ cZ : ClassId) (o : Nat) (q : Nat) (f : Nat → Int64)  : rw_C l yR_divide wR_divide rm_c_R_divide D vwCl (gT cI cJ cZ) [.ref o] [(o, .inr (0, [.ref q])), (q, .inl (cJ, 9, .inr (.inl f)))] (fun v9 w9 => v9 = none ∧ w9 = [(o, .inr (0, [.ref q])), (q, .inl (cJ, 9, .inr (.inl (m_div f))))]) 0 0 := by
  refine rw_of (cc := cR_divide) (maxL := 6) (ret := none) (by decide) rfl (Nat.le_of_ble_eq_true rfl) ?_
  intro p e s m args below meth c Q A ls hx hb hr hml hown hts hlocks hin hK hP hD hA hl hQ
  have hS : va_S A s.heap s.heap [] := va_S.rf
  have hl : lv_has ls 6 [(0, .ref o)] := hl
  have hown : s.vm.findClass RR = some m.cls := hown
  obtain ⟨H, hHe⟩ : ∃ H : Heap, H = s.heap := ⟨_, rfl⟩
  rw [← hHe] at hP
  have hS : va_S A s.heap H [] := by rw [hHe]; exact va_S.rf
  suffices h9 : W p l e rm_c_R_divide s m args below meth c H [] 0 0 Q (F0 m 0 ls []) by rw [hHe] at h9; exact h9
  clear hHe
  refine lv_lconst (v := 0) hx hb dR_divide_0 (by decide) ?_
  refine lv_lstore_n (lv' := [(1, .long 0), (0, .ref o)]) hx hb dR_divide_1 rfl hl (by decide) rfl (fun ls hl => ?_)
  refine lv_iconst (v := nI 0) hx hb dR_divide_2 (by decide) ?_
  refine lv_istore_n (lv' := [(3, .int (nI 0)), (1, .long 0), (0, .ref o)]) hx hb dR_divide_3 rfl hl (by decide) rfl (fun ls hl => ?_)
  have lp_4 : ∀ (n_4 : Nat) (d i : Nat) (g : Nat → Int64) (r : Int64), (d < n_4) → (i + d = 9) → (m_divU d i g r = m_divU 9 0 f 0) → ∀ (H : Heap) (locs : List Loc), va_P D vwCl [(o, .inr (0, [.ref q])), (q, .inl (cJ, 9, .inr (.inl g)))] H → va_D A [(o, .inr (0, [.ref q])), (q, .inl (cJ, 9, .inr (.inl g)))] → va_S A s.heap H locs → ∀ (ls : Array Slot), lv_has ls 6 [(0, .ref o), (1, .long r), (3, .int (nI i))] → W p l e rm_c_R_divide s m args below meth c H locs 0 0 Q (F0 m 4 ls []) := by
    intro n_4
    induction n_4 with
    | zero => intro d i g r hn hd hg H locs hP hD hS ls hl; exact absurd hn (by omega)
    | succ n_4 ih_4 =>
      intro d i g r hn hd hg H locs hP hD hS ls hl
      refine lv_iload_n hx hb dR_divide_4 rfl (lv_at hl 2 rfl) ?_
      refine lv_bipush (v := nI 8) hx hb dR_divide_5 (by decide) ?_
      refine lv_icmp_gt (tgt := 47) hx hb dR_divide_7 (by decide) (fun c_7 => ?_) (fun c_7 => ?_)
      · skip
        have c_7 : 8 < i := n_lt c_7 (by omega) (by omega)
        have hd0 : d = 0 := by omega
        subst hd0
        exact rw_vret (w := [(o, .inr (0, [.ref q])), (q, .inl (cJ, 9, .inr (.inl g)))]) hQ hx hb hr hlocks dR_divide_47 (hP.sub [0, 1] rfl) (hD.sub [0, 1] (by decide) rfl) hS ⟨rfl, by rw [show m_div f = g from hg.symm]⟩
      · skip
        have c_7 : i ≤ 8 := n_nlt c_7 (by omega) (by omega)
        obtain ⟨d, rfl⟩ : ∃ d' : Nat, d = d' + 1 := ⟨d - 1, by omega⟩
        refine lv_lload_n hx hb dR_divide_10 rfl (lv_at hl 1 rfl) ?_
        refine lv_aload_n hx hb dR_divide_11 rfl (lv_at hl 0 rfl) ?_
        refine va_get (D := D) (ci := 0) (v := .ref q) (C := RR) (T := TR) (N := 1) hx hb hts iR_divide_R hown hK hP 0 rfl rfl 0 (by decide) (hts (.fieldLink RR 9 "TreeDesk$Retarget" "product" "[J") (by decide +kernel)) (fun _ h9 => h9) rfl dR_divide_12 ?_
        refine lv_iload_n hx hb dR_divide_15 rfl (lv_at hl 2 rfl) ?_
        refine ar_lld (j := i) hx hb hK hP 1 1 rfl rfl dR_divide_16 (by omega) (by omega) ?_
        refine ro_kl (va_runS (As := [.long r, .long (g i)]) (rest := []) ⟨hx, hb, hml, hown, hts⟩ (c_B_join l D cI cJ cZ r (g i)) (va_cwS 2 hts gR_divide_B_join_35 rfl rfl rfl (by decide +kernel) ⟨Nat.le_of_ble_eq_true rfl, Nat.le_of_ble_eq_true rfl⟩) (ro_preS (hP.sub [] rfl) hK) rfl rfl hl.1 rfl (lv_room (Nat.le_of_ble_eq_true rfl)) dR_divide_17 ⟨Nat.le_of_ble_eq_true rfl, Nat.le_of_ble_eq_true rfl⟩) ?_
        refine lv_lstore (lv' := [(4, .long (m_join r (g i))), (0, .ref o), (1, .long r), (3, .int (nI i))]) hx hb dR_divide_20 hl (by decide) rfl (fun ls hl => ?_)
        refine lv_aload_n hx hb dR_divide_22 rfl (lv_at hl 1 rfl) ?_
        refine va_get (D := D) (ci := 0) (v := .ref q) (C := RR) (T := TR) (N := 1) hx hb hts iR_divide_R hown hK hP 0 rfl rfl 0 (by decide) (hts (.fieldLink RR 9 "TreeDesk$Retarget" "product" "[J") (by decide +kernel)) (fun _ h9 => h9) rfl dR_divide_23 ?_
        refine lv_iload_n hx hb dR_divide_26 rfl (lv_at hl 3 rfl) ?_
        refine lv_lload hx hb dR_divide_27 (lv_at hl 0 rfl) ?_
        refine lv_ldc2 (v := 4800) hx hb hown (hts (.constantLong RR 52 4800) (by decide +kernel)) dR_divide_29 ?_
        refine lv_ldiv hx hb dR_divide_32 (by decide) ?_
        refine ar_lst (j := i) hx hb hK hP hD hS 1 1 rfl rfl dR_divide_33 (by omega) (by omega) (fun H locs hP hD hS => ?_)
        have hP : va_P D vwCl [(o, .inr (0, [.ref q])), (q, .inl (cJ, 9, .inr (.inl (vp_updL g i ((m_join r (g i)) / 4800)))))] H := hP
        have hD : va_D A [(o, .inr (0, [.ref q])), (q, .inl (cJ, 9, .inr (.inl (vp_updL g i ((m_join r (g i)) / 4800)))))] := hD
        refine lv_lload hx hb dR_divide_34 (lv_at hl 0 rfl) ?_
        refine lv_ldc2 (v := 4800) hx hb hown (hts (.constantLong RR 52 4800) (by decide +kernel)) dR_divide_36 ?_
        refine lv_lrem hx hb dR_divide_39 (by decide) ?_
        refine lv_lstore_n (lv' := [(1, .long ((m_join r (g i)) - (m_join r (g i)) / 4800 * 4800)), (4, .long (m_join r (g i))), (0, .ref o), (3, .int (nI i))]) hx hb dR_divide_40 rfl hl (by decide) rfl (fun ls hl => ?_)
        refine lv_iinc (v := nI (i + 1)) (lv' := [(3, .int (nI (i + 1))), (1, .long ((m_join r (g i)) - (m_join r (g i)) / 4800 * 4800)), (4, .long (m_join r (g i))), (0, .ref o)]) hx hb dR_divide_41 hl (k := 3) rfl (nI_add _ 1) (by decide) rfl (fun ls hl => ?_)
        refine lv_goto (tgt := 4) hx hb dR_divide_44 (by decide) ?_
        exact ih_4 d (i + 1) (vp_updL g i ((m_join r (g i)) / 4800)) ((m_join r (g i)) - (m_join r (g i)) / 4800 * 4800) (by omega) (by omega) hg _ _ (hP.sub [0, 1] rfl) (hD.sub [0, 1] (by decide) rfl) hS ls (lv_sub hl [3, 1, 0] rfl)
  exact lp_4 10 9 0 f 0 (by omega) (by omega) rfl _ _ (hP.sub [0, 1] rfl) (hD.sub [0, 1] (by decide) rfl) hS ls (lv_sub hl [2, 1, 0] rfl)

abbrev rm_c_R_next : Room := { frames := 4, cells := 0, slots := 0, locals := 99 }
set_option maxRecDepth 100000 in
set_option maxHeartbeats 4000000 in
theorem c_R_next (l : Launch) (D : va_G) (cI cJ cZ : ClassId) (o : Nat) (q : Nat) (f : Nat → Int64) (b : Int64) (t : Int64)  : rw_C l yR_next wR_next rm_c_R_next D vwCl (gT cI cJ cZ) [.ref o, .long b, .long t] [(o, .inr (0, [.ref q])), (q, .inl (cJ, 9, .inr (.inl f)))] (fun v9 w9 => v9 = some (.long (m_next (m_pr b t f))) ∧ w9 = [(o, .inr (0, [.ref q])), (q, .inl (cJ, 9, .inr (.inl (m_pr b t f))))]) 0 0 := by
  refine rw_of (cc := cR_next) (maxL := 13) (ret := some .long) (by decide) rfl (Nat.le_of_ble_eq_true rfl) ?_
  intro p e s m args below meth c Q A ls hx hb hr hml hown hts hlocks hin hK hP hD hA hl hQ
  have hS : va_S A s.heap s.heap [] := va_S.rf
  have hl : lv_has ls 13 [(0, .ref o), (1, .long b), (3, .long t)] := hl
  have hown : s.vm.findClass RR = some m.cls := hown
  obtain ⟨H, hHe⟩ : ∃ H : Heap, H = s.heap := ⟨_, rfl⟩
  rw [← hHe] at hP
  have hS : va_S A s.heap H [] := by rw [hHe]; exact va_S.rf
  suffices h9 : W p l e rm_c_R_next s m args below meth c H [] 0 0 Q (F0 m 0 ls []) by rw [hHe] at h9; exact h9
  clear hHe
  refine lv_aload_n hx hb dR_next_0 rfl (lv_at hl 0 rfl) ?_
  refine lv_lload_n hx hb dR_next_1 rfl (lv_at hl 1 rfl) ?_
  refine lv_ldc2 (v := 1200) hx hb hown (hts (.constantLong RR 15 1200) (by decide +kernel)) dR_next_2 ?_
  refine lv_ldc2 (v := 19200) hx hb hown (hts (.constantLong RR 17 19200) (by decide +kernel)) dR_next_5 ?_
  refine lv_lload_n hx hb dR_next_8 rfl (lv_at hl 2 rfl) ?_
  refine va_mmin_long hx hb (hml.trans hl.1.symm) hown (hts (.methodLink RR 19 Lib.MathLoose.min_long.x) (by decide +kernel)) (hts (.static Lib.MathLoose.min_long.x) (by decide +kernel)) (hts (.initialized "java/lang/Math") (by decide +kernel)) (hts (.code Lib.MathLoose.min_long.x Lib.MathLoose.min_long.code 4 (some .long)) (by decide +kernel)) (Nat.le_of_ble_eq_true rfl) (Nat.le_of_ble_eq_true rfl) (Nat.le_of_ble_eq_true rfl) (Nat.le_of_ble_eq_true rfl) dR_next_9 ?_
  refine va_mmax_long hx hb (hml.trans hl.1.symm) hown (hts (.methodLink RR 25 Lib.MathLoose.max_long.x) (by decide +kernel)) (hts (.static Lib.MathLoose.max_long.x) (by decide +kernel)) (hts (.initialized "java/lang/Math") (by decide +kernel)) (hts (.code Lib.MathLoose.max_long.x Lib.MathLoose.max_long.code 4 (some .long)) (by decide +kernel)) (Nat.le_of_ble_eq_true rfl) (Nat.le_of_ble_eq_true rfl) (Nat.le_of_ble_eq_true rfl) (Nat.le_of_ble_eq_true rfl) dR_next_12 ?_
  refine tp_l (y := m_clamp t) rfl ?_
  refine rw_k (wc := [(o, .inr (0, [.ref q])), (q, .inl (cJ, 9, .inr (.inl f)))]) (wr := []) (va_runV (As := [.long b, .long (m_clamp t)]) (rest := []) ⟨hx, hb, hml, hown, hts⟩ (c_R_multiply l D cI cJ cZ o q f b (m_clamp t) H.size) (cwV 2 hts gR_next_R_multiply_28 rfl rfl rfl (by decide +kernel) ⟨Nat.le_of_ble_eq_true rfl, Nat.le_of_ble_eq_true rfl⟩) (rw_preV (hP.sub [0, 1] rfl) hK (hD.sub [0, 1] (by decide) rfl) (va_recv hK hP (ci := 0) (q0 := 0) rfl rfl)) rfl rfl hl.1 rfl (lv_room (Nat.le_of_ble_eq_true rfl)) dR_next_15 ⟨Nat.le_of_ble_eq_true rfl, Nat.le_of_ble_eq_true rfl⟩) hP hD hS hA [0, 1] [] rfl rfl (by decide) (by decide) (fun v9 w9 H locs hp9 hP hD hS => ?_)
  obtain ⟨rfl, rfl⟩ := hp9
  have hP : va_P D vwCl [(o, .inr (0, [.ref q])), (q, .inl (cJ, 9, .inr (.inl (m_mul b (m_clamp t) f))))] H := hP
  have hD : va_D A [(o, .inr (0, [.ref q])), (q, .inl (cJ, 9, .inr (.inl (m_mul b (m_clamp t) f))))] := hD
  refine W.eq (g2 := F0 m 18 ls []) rfl ?_
  refine lv_aload_n hx hb dR_next_18 rfl (lv_at hl 0 rfl) ?_
  refine rw_k (wc := [(o, .inr (0, [.ref q])), (q, .inl (cJ, 9, .inr (.inl (m_mul b (m_clamp t) f))))]) (wr := []) (va_runV (As := []) (rest := []) ⟨hx, hb, hml, hown, hts⟩ (c_R_divide l D cI cJ cZ o q (m_mul b (m_clamp t) f) H.size) (cwV 0 hts gR_next_R_divide_32 rfl rfl rfl (by decide +kernel) ⟨Nat.le_of_ble_eq_true rfl, Nat.le_of_ble_eq_true rfl⟩) (rw_preV (hP.sub [0, 1] rfl) hK (hD.sub [0, 1] (by decide) rfl) (va_recv hK hP (ci := 0) (q0 := 0) rfl rfl)) rfl rfl hl.1 rfl (lv_room (Nat.le_of_ble_eq_true rfl)) dR_next_19 ⟨Nat.le_of_ble_eq_true rfl, Nat.le_of_ble_eq_true rfl⟩) hP hD hS hA [0, 1] [] rfl rfl (by decide) (by decide) (fun v9 w9 H locs hp9 hP hD hS => ?_)
  obtain ⟨rfl, rfl⟩ := hp9
  have hP : va_P D vwCl [(o, .inr (0, [.ref q])), (q, .inl (cJ, 9, .inr (.inl (m_div (m_mul b (m_clamp t) f)))))] H := hP
  have hD : va_D A [(o, .inr (0, [.ref q])), (q, .inl (cJ, 9, .inr (.inl (m_div (m_mul b (m_clamp t) f)))))] := hD
  refine W.eq (g2 := F0 m 22 ls []) rfl ?_
  have e_w19 : m_div (m_mul b (m_clamp t) f) = m_pr b t f := rfl
  rw [e_w19] at hP hD
  refine lv_aload_n hx hb dR_next_22 rfl (lv_at hl 0 rfl) ?_
  refine va_get (D := D) (ci := 0) (v := .ref q) (C := RR) (T := TR) (N := 1) hx hb hts iR_next_R hown hK hP 0 rfl rfl 0 (by decide) (hts (.fieldLink RR 9 "TreeDesk$Retarget" "product" "[J") (by decide +kernel)) (fun _ h9 => h9) rfl dR_next_23 ?_
  refine lv_iconst (v := nI 1) hx hb dR_next_26 (by decide) ?_
  refine ar_lld (j := 1) hx hb hK hP 1 1 rfl rfl dR_next_27 (by omega) (by omega) ?_
  refine lv_aload_n hx hb dR_next_28 rfl (lv_at hl 0 rfl) ?_
  refine va_get (D := D) (ci := 0) (v := .ref q) (C := RR) (T := TR) (N := 1) hx hb hts iR_next_R hown hK hP 0 rfl rfl 0 (by decide) (hts (.fieldLink RR 9 "TreeDesk$Retarget" "product" "[J") (by decide +kernel)) (fun _ h9 => h9) rfl dR_next_29 ?_
  refine lv_iconst (v := nI 2) hx hb dR_next_32 (by decide) ?_
  refine ar_lld (j := 2) hx hb hK hP 1 1 rfl rfl dR_next_33 (by omega) (by omega) ?_
  refine ro_kl (va_runS (As := [.long ((m_pr b t f) 1), .long ((m_pr b t f) 2)]) (rest := []) ⟨hx, hb, hml, hown, hts⟩ (c_B_join l D cI cJ cZ ((m_pr b t f) 1) ((m_pr b t f) 2)) (va_cwS 2 hts gR_next_B_join_35 rfl rfl rfl (by decide +kernel) ⟨Nat.le_of_ble_eq_true rfl, Nat.le_of_ble_eq_true rfl⟩) (ro_preS (hP.sub [] rfl) hK) rfl rfl hl.1 rfl (lv_room (Nat.le_of_ble_eq_true rfl)) dR_next_34 ⟨Nat.le_of_ble_eq_true rfl, Nat.le_of_ble_eq_true rfl⟩) ?_
  refine lv_lstore (lv' := [(5, .long (m_join ((m_pr b t f) 1) ((m_pr b t f) 2))), (0, .ref o), (1, .long b), (3, .long t)]) hx hb dR_next_37 hl (by decide) rfl (fun ls hl => ?_)
  refine lv_aload_n hx hb dR_next_39 rfl (lv_at hl 1 rfl) ?_
  refine va_get (D := D) (ci := 0) (v := .ref q) (C := RR) (T := TR) (N := 1) hx hb hts iR_next_R hown hK hP 0 rfl rfl 0 (by decide) (hts (.fieldLink RR 9 "TreeDesk$Retarget" "product" "[J") (by decide +kernel)) (fun _ h9 => h9) rfl dR_next_40 ?_
  refine lv_iconst (v := nI 0) hx hb dR_next_43 (by decide) ?_
  refine ar_lld (j := 0) hx hb hK hP 1 1 rfl rfl dR_next_44 (by omega) (by omega) ?_
  refine lv_lconst (v := 0) hx hb dR_next_45 (by decide) ?_
  refine lc_ne (tgt := 66) hx hb dR_next_46 dR_next_47 (by decide) (fun c_47 => ?_) (fun c_47 => ?_)
  · skip
    refine lv_ldc2 (v := 545259519) hx hb hown (hts (.constantLong RR 40 545259519) (by decide +kernel)) dR_next_66 ?_
    exact rw_lret (w := [(o, .inr (0, [.ref q])), (q, .inl (cJ, 9, .inr (.inl (m_pr b t f))))]) hQ hx hb hr hlocks dR_next_69 (hP.sub [0, 1] rfl) (hD.sub [0, 1] (by decide) rfl) hS ⟨by simp [m_next, c_47], rfl⟩
  · skip
    refine lv_lload hx hb dR_next_50 (lv_at hl 0 rfl) ?_
    refine lv_lconst (v := 0) hx hb dR_next_52 (by decide) ?_
    refine lc_lt (tgt := 66) hx hb dR_next_53 dR_next_54 (by decide) (fun c_54 => ?_) (fun c_54 => ?_)
    · skip
      refine lv_ldc2 (v := 545259519) hx hb hown (hts (.constantLong RR 40 545259519) (by decide +kernel)) dR_next_66 ?_
      exact rw_lret (w := [(o, .inr (0, [.ref q])), (q, .inl (cJ, 9, .inr (.inl (m_pr b t f))))]) hQ hx hb hr hlocks dR_next_69 (hP.sub [0, 1] rfl) (hD.sub [0, 1] (by decide) rfl) hS ⟨by simp [m_next, c_47, c_54], rfl⟩
    · skip
      refine lv_lload hx hb dR_next_57 (lv_at hl 0 rfl) ?_
      refine lv_ldc2 (v := 9223370937343148032) hx hb hown (hts (.constantLong RR 38 9223370937343148032) (by decide +kernel)) dR_next_59 ?_
      refine lc_lt (tgt := 70) hx hb dR_next_62 dR_next_63 (by decide) (fun c_63 => ?_) (fun c_63 => ?_)
      · skip
        refine lv_aload_n hx hb dR_next_70 rfl (lv_at hl 1 rfl) ?_
        refine va_get (D := D) (ci := 0) (v := .ref q) (C := RR) (T := TR) (N := 1) hx hb hts iR_next_R hown hK hP 0 rfl rfl 0 (by decide) (hts (.fieldLink RR 9 "TreeDesk$Retarget" "product" "[J") (by decide +kernel)) (fun _ h9 => h9) rfl dR_next_71 ?_
        refine lv_iconst (v := nI 3) hx hb dR_next_74 (by decide) ?_
        refine ar_lld (j := 3) hx hb hK hP 1 1 rfl rfl dR_next_75 (by omega) (by omega) ?_
        refine lv_aload_n hx hb dR_next_76 rfl (lv_at hl 1 rfl) ?_
        refine va_get (D := D) (ci := 0) (v := .ref q) (C := RR) (T := TR) (N := 1) hx hb hts iR_next_R hown hK hP 0 rfl rfl 0 (by decide) (hts (.fieldLink RR 9 "TreeDesk$Retarget" "product" "[J") (by decide +kernel)) (fun _ h9 => h9) rfl dR_next_77 ?_
        refine lv_iconst (v := nI 4) hx hb dR_next_80 (by decide) ?_
        refine ar_lld (j := 4) hx hb hK hP 1 1 rfl rfl dR_next_81 (by omega) (by omega) ?_
        refine ro_kl (va_runS (As := [.long ((m_pr b t f) 3), .long ((m_pr b t f) 4)]) (rest := []) ⟨hx, hb, hml, hown, hts⟩ (c_B_join l D cI cJ cZ ((m_pr b t f) 3) ((m_pr b t f) 4)) (va_cwS 2 hts gR_next_B_join_35 rfl rfl rfl (by decide +kernel) ⟨Nat.le_of_ble_eq_true rfl, Nat.le_of_ble_eq_true rfl⟩) (ro_preS (hP.sub [] rfl) hK) rfl rfl hl.1 rfl (lv_room (Nat.le_of_ble_eq_true rfl)) dR_next_82 ⟨Nat.le_of_ble_eq_true rfl, Nat.le_of_ble_eq_true rfl⟩) ?_
        refine lv_lstore (lv' := [(7, .long (m_join ((m_pr b t f) 3) ((m_pr b t f) 4))), (5, .long (m_join ((m_pr b t f) 1) ((m_pr b t f) 2))), (0, .ref o), (1, .long b), (3, .long t)]) hx hb dR_next_85 hl (by decide) rfl (fun ls hl => ?_)
        refine lv_aload_n hx hb dR_next_87 rfl (lv_at hl 2 rfl) ?_
        refine va_get (D := D) (ci := 0) (v := .ref q) (C := RR) (T := TR) (N := 1) hx hb hts iR_next_R hown hK hP 0 rfl rfl 0 (by decide) (hts (.fieldLink RR 9 "TreeDesk$Retarget" "product" "[J") (by decide +kernel)) (fun _ h9 => h9) rfl dR_next_88 ?_
        refine lv_iconst (v := nI 5) hx hb dR_next_91 (by decide) ?_
        refine ar_lld (j := 5) hx hb hK hP 1 1 rfl rfl dR_next_92 (by omega) (by omega) ?_
        refine lv_aload_n hx hb dR_next_93 rfl (lv_at hl 2 rfl) ?_
        refine va_get (D := D) (ci := 0) (v := .ref q) (C := RR) (T := TR) (N := 1) hx hb hts iR_next_R hown hK hP 0 rfl rfl 0 (by decide) (hts (.fieldLink RR 9 "TreeDesk$Retarget" "product" "[J") (by decide +kernel)) (fun _ h9 => h9) rfl dR_next_94 ?_
        refine lv_bipush (v := nI 6) hx hb dR_next_97 (by decide) ?_
        refine ar_lld (j := 6) hx hb hK hP 1 1 rfl rfl dR_next_99 (by omega) (by omega) ?_
        refine ro_kl (va_runS (As := [.long ((m_pr b t f) 5), .long ((m_pr b t f) 6)]) (rest := []) ⟨hx, hb, hml, hown, hts⟩ (c_B_join l D cI cJ cZ ((m_pr b t f) 5) ((m_pr b t f) 6)) (va_cwS 2 hts gR_next_B_join_35 rfl rfl rfl (by decide +kernel) ⟨Nat.le_of_ble_eq_true rfl, Nat.le_of_ble_eq_true rfl⟩) (ro_preS (hP.sub [] rfl) hK) rfl rfl hl.1 rfl (lv_room (Nat.le_of_ble_eq_true rfl)) dR_next_100 ⟨Nat.le_of_ble_eq_true rfl, Nat.le_of_ble_eq_true rfl⟩) ?_
        refine lv_lstore (lv' := [(9, .long (m_join ((m_pr b t f) 5) ((m_pr b t f) 6))), (7, .long (m_join ((m_pr b t f) 3) ((m_pr b t f) 4))), (5, .long (m_join ((m_pr b t f) 1) ((m_pr b t f) 2))), (0, .ref o), (1, .long b), (3, .long t)]) hx hb dR_next_103 hl (by decide) rfl (fun ls hl => ?_)
        refine lv_aload_n hx hb dR_next_105 rfl (lv_at hl 3 rfl) ?_
        refine va_get (D := D) (ci := 0) (v := .ref q) (C := RR) (T := TR) (N := 1) hx hb hts iR_next_R hown hK hP 0 rfl rfl 0 (by decide) (hts (.fieldLink RR 9 "TreeDesk$Retarget" "product" "[J") (by decide +kernel)) (fun _ h9 => h9) rfl dR_next_106 ?_
        refine lv_bipush (v := nI 7) hx hb dR_next_109 (by decide) ?_
        refine ar_lld (j := 7) hx hb hK hP 1 1 rfl rfl dR_next_111 (by omega) (by omega) ?_
        refine lv_aload_n hx hb dR_next_112 rfl (lv_at hl 3 rfl) ?_
        refine va_get (D := D) (ci := 0) (v := .ref q) (C := RR) (T := TR) (N := 1) hx hb hts iR_next_R hown hK hP 0 rfl rfl 0 (by decide) (hts (.fieldLink RR 9 "TreeDesk$Retarget" "product" "[J") (by decide +kernel)) (fun _ h9 => h9) rfl dR_next_113 ?_
        refine lv_bipush (v := nI 8) hx hb dR_next_116 (by decide) ?_
        refine ar_lld (j := 8) hx hb hK hP 1 1 rfl rfl dR_next_118 (by omega) (by omega) ?_
        refine ro_kl (va_runS (As := [.long ((m_pr b t f) 7), .long ((m_pr b t f) 8)]) (rest := []) ⟨hx, hb, hml, hown, hts⟩ (c_B_join l D cI cJ cZ ((m_pr b t f) 7) ((m_pr b t f) 8)) (va_cwS 2 hts gR_next_B_join_35 rfl rfl rfl (by decide +kernel) ⟨Nat.le_of_ble_eq_true rfl, Nat.le_of_ble_eq_true rfl⟩) (ro_preS (hP.sub [] rfl) hK) rfl rfl hl.1 rfl (lv_room (Nat.le_of_ble_eq_true rfl)) dR_next_119 ⟨Nat.le_of_ble_eq_true rfl, Nat.le_of_ble_eq_true rfl⟩) ?_
        refine lv_lstore (lv' := [(11, .long (m_join ((m_pr b t f) 7) ((m_pr b t f) 8))), (9, .long (m_join ((m_pr b t f) 5) ((m_pr b t f) 6))), (7, .long (m_join ((m_pr b t f) 3) ((m_pr b t f) 4))), (5, .long (m_join ((m_pr b t f) 1) ((m_pr b t f) 2))), (0, .ref o), (1, .long b), (3, .long t)]) hx hb dR_next_122 hl (by decide) rfl (fun ls hl => ?_)
        refine lv_lload hx hb dR_next_124 (lv_at hl 3 rfl) ?_
        refine lv_lload hx hb dR_next_126 (lv_at hl 2 rfl) ?_
        refine lv_lload hx hb dR_next_128 (lv_at hl 1 rfl) ?_
        refine lv_lload hx hb dR_next_130 (lv_at hl 0 rfl) ?_
        refine ro_kl (va_runS (As := [.long (m_join ((m_pr b t f) 1) ((m_pr b t f) 2)), .long (m_join ((m_pr b t f) 3) ((m_pr b t f) 4)), .long (m_join ((m_pr b t f) 5) ((m_pr b t f) 6)), .long (m_join ((m_pr b t f) 7) ((m_pr b t f) 8))]) (rest := []) ⟨hx, hb, hml, hown, hts⟩ (c_B_shorten l D cI cJ cZ (m_join ((m_pr b t f) 1) ((m_pr b t f) 2)) (m_join ((m_pr b t f) 3) ((m_pr b t f) 4)) (m_join ((m_pr b t f) 5) ((m_pr b t f) 6)) (m_join ((m_pr b t f) 7) ((m_pr b t f) 8))) (va_cwS 4 hts gR_next_B_shorten_42 rfl rfl rfl (by decide +kernel) ⟨Nat.le_of_ble_eq_true rfl, Nat.le_of_ble_eq_true rfl⟩) (ro_preS (hP.sub [] rfl) hK) rfl rfl hl.1 rfl (lv_room (Nat.le_of_ble_eq_true rfl)) dR_next_132 ⟨Nat.le_of_ble_eq_true rfl, Nat.le_of_ble_eq_true rfl⟩) ?_
        exact rw_lret (w := [(o, .inr (0, [.ref q])), (q, .inl (cJ, 9, .inr (.inl (m_pr b t f))))]) hQ hx hb hr hlocks dR_next_135 (hP.sub [0, 1] rfl) (hD.sub [0, 1] (by decide) rfl) hS ⟨by simp [m_next, c_47, c_54, c_63], rfl⟩
      · skip
        refine lv_ldc2 (v := 545259519) hx hb hown (hts (.constantLong RR 40 545259519) (by decide +kernel)) dR_next_66 ?_
        exact rw_lret (w := [(o, .inr (0, [.ref q])), (q, .inl (cJ, 9, .inr (.inl (m_pr b t f))))]) hQ hx hb hr hlocks dR_next_69 (hP.sub [0, 1] rfl) (hD.sub [0, 1] (by decide) rfl) hS ⟨by simp [m_next, c_47, c_54, c_63], rfl⟩

abbrev rm_c_W_setDivisor : Room := { frames := 3, cells := 0, slots := 0, locals := 70 }
set_option maxRecDepth 100000 in
set_option maxHeartbeats 4000000 in
theorem c_W_setDivisor (l : Launch) (D : va_G) (cI cJ cZ : ClassId) (o : Nat) (d : Nat) (r : Nat) (q : Nat) (kn : Int64) (f : Nat → Int64) (b : Int64)  : rw_C l yW_setDivisor wW_setDivisor rm_c_W_setDivisor D vwCl (gT cI cJ cZ) [.ref o, .long b] [(o, .inr (1, [.ref d, .ref r, .ref q, .long kn])), (d, .inl (cJ, 8, .inr (.inl f)))] (fun v9 w9 => v9 = none ∧ w9 = [(o, .inr (1, [.ref d, .ref r, .ref q, .long kn])), (d, .inl (cJ, 8, .inr (.inl (m_set b f))))]) 0 0 := by
  refine rw_of (cc := cW_setDivisor) (maxL := 8) (ret := none) (by decide) rfl (Nat.le_of_ble_eq_true rfl) ?_
  intro p e s m args below meth c Q A ls hx hb hr hml hown hts hlocks hin hK hP hD hA hl hQ
  have hS : va_S A s.heap s.heap [] := va_S.rf
  have hl : lv_has ls 8 [(0, .ref o), (1, .long b)] := hl
  have hown : s.vm.findClass RW = some m.cls := hown
  obtain ⟨H, hHe⟩ : ∃ H : Heap, H = s.heap := ⟨_, rfl⟩
  rw [← hHe] at hP
  have hS : va_S A s.heap H [] := by rw [hHe]; exact va_S.rf
  suffices h9 : W p l e rm_c_W_setDivisor s m args below meth c H [] 0 0 Q (F0 m 0 ls []) by rw [hHe] at h9; exact h9
  clear hHe
  refine lv_lconst (v := 1) hx hb dW_setDivisor_0 (by decide) ?_
  refine lv_lstore_n (lv' := [(3, .long 1), (0, .ref o), (1, .long b)]) hx hb dW_setDivisor_1 rfl hl (by decide) rfl (fun ls hl => ?_)
  refine lv_bipush (v := nI 7) hx hb dW_setDivisor_2 (by decide) ?_
  refine lv_istore (lv' := [(5, .int (nI 7)), (3, .long 1), (0, .ref o), (1, .long b)]) hx hb dW_setDivisor_4 hl (by decide) rfl (fun ls hl => ?_)
  have lp_6 : ∀ (n_6 : Nat) (k : Nat) (i : Int32) (g : Nat → Int64) (cy : Int64), (k < n_6) → (k ≤ 8) → (i = nI k + (-1)) → (m_setL b k g cy = m_setL b 8 f 1) → ∀ (H : Heap) (locs : List Loc), va_P D vwCl [(o, .inr (1, [.ref d, .ref r, .ref q, .long kn])), (d, .inl (cJ, 8, .inr (.inl g)))] H → va_D A [(o, .inr (1, [.ref d, .ref r, .ref q, .long kn])), (d, .inl (cJ, 8, .inr (.inl g)))] → va_S A s.heap H locs → ∀ (ls : Array Slot), lv_has ls 8 [(0, .ref o), (1, .long b), (3, .long cy), (5, .int i)] → W p l e rm_c_W_setDivisor s m args below meth c H locs 0 0 Q (F0 m 6 ls []) := by
    intro n_6
    induction n_6 with
    | zero => intro k i g cy hn h8 hi hg H locs hP hD hS ls hl; exact absurd hn (by omega)
    | succ n_6 ih_6 =>
      intro k i g cy hn h8 hi hg H locs hP hD hS ls hl
      refine lv_iload hx hb dW_setDivisor_6 (lv_at hl 3 rfl) ?_
      refine lv_if_lt (tgt := 46) hx hb dW_setDivisor_8 (by decide) (fun c_8 => ?_) (fun c_8 => ?_)
      · skip
        have hk0 : k = 0 := dn_0 hi c_8 (by omega)
        subst hk0
        exact rw_vret (w := [(o, .inr (1, [.ref d, .ref r, .ref q, .long kn])), (d, .inl (cJ, 8, .inr (.inl g)))]) hQ hx hb hr hlocks dW_setDivisor_46 (hP.sub [0, 1] rfl) (hD.sub [0, 1] (by decide) rfl) hS ⟨rfl, by rw [show m_set b f = g from hg.symm]⟩
      · skip
        obtain ⟨j, rfl, rfl⟩ := dn_s hi c_8
        refine lv_lload_n hx hb dW_setDivisor_11 rfl (lv_at hl 1 rfl) ?_
        refine lv_iload hx hb dW_setDivisor_12 (lv_at hl 3 rfl) ?_
        refine ro_kl (va_runS (As := [.long b, .int (nI j)]) (rest := []) ⟨hx, hb, hml, hown, hts⟩ (c_B_targetHalf l D cI cJ cZ b j (by omega)) (va_cwS 2 hts gW_setDivisor_B_targetHalf_34 rfl rfl rfl (by decide +kernel) ⟨Nat.le_of_ble_eq_true rfl, Nat.le_of_ble_eq_true rfl⟩) (ro_preS (hP.sub [] rfl) hK) rfl rfl hl.1 rfl (lv_room (Nat.le_of_ble_eq_true rfl)) dW_setDivisor_14 ⟨Nat.le_of_ble_eq_true rfl, Nat.le_of_ble_eq_true rfl⟩) ?_
        refine lv_lload_n hx hb dW_setDivisor_17 rfl (lv_at hl 2 rfl) ?_
        refine lv_ladd hx hb dW_setDivisor_18 ?_
        refine lv_lstore (lv' := [(6, .long ((m_th b j) + cy)), (0, .ref o), (1, .long b), (3, .long cy), (5, .int (nI j))]) hx hb dW_setDivisor_19 hl (by decide) rfl (fun ls hl => ?_)
        refine lv_aload_n hx hb dW_setDivisor_21 rfl (lv_at hl 1 rfl) ?_
        refine va_get (D := D) (ci := 1) (v := .ref d) (C := RW) (T := TW) (N := 4) hx hb hts iW_setDivisor_W hown hK hP 0 rfl rfl 0 (by decide) (hts (.fieldLink RW 9 "TreeDesk$Worth" "divisor" "[J") (by decide +kernel)) (fun _ h9 => h9) rfl dW_setDivisor_22 ?_
        refine lv_iload hx hb dW_setDivisor_25 (lv_at hl 4 rfl) ?_
        refine lv_lload hx hb dW_setDivisor_27 (lv_at hl 0 rfl) ?_
        refine lv_ldc2 (v := 4294967295) hx hb hown (hts (.constantLong RW 38 4294967295) (by decide +kernel)) dW_setDivisor_29 ?_
        refine lv_land hx hb dW_setDivisor_32 ?_
        refine ar_lst (j := j) hx hb hK hP hD hS 1 1 rfl rfl dW_setDivisor_33 (by omega) (by omega) (fun H locs hP hD hS => ?_)
        have hP : va_P D vwCl [(o, .inr (1, [.ref d, .ref r, .ref q, .long kn])), (d, .inl (cJ, 8, .inr (.inl (vp_updL g j (((m_th b j) + cy) &&& 4294967295)))))] H := hP
        have hD : va_D A [(o, .inr (1, [.ref d, .ref r, .ref q, .long kn])), (d, .inl (cJ, 8, .inr (.inl (vp_updL g j (((m_th b j) + cy) &&& 4294967295)))))] := hD
        refine lv_lload hx hb dW_setDivisor_34 (lv_at hl 0 rfl) ?_
        refine lv_bipush (v := nI 32) hx hb dW_setDivisor_36 (by decide) ?_
        refine lv_lushr (v := j_ushr ((m_th b j) + cy) (nI 32)) hx hb dW_setDivisor_38 rfl ?_
        refine lv_lstore_n (lv' := [(3, .long (j_ushr ((m_th b j) + cy) (nI 32))), (6, .long ((m_th b j) + cy)), (0, .ref o), (1, .long b), (5, .int (nI j))]) hx hb dW_setDivisor_39 rfl hl (by decide) rfl (fun ls hl => ?_)
        refine lv_iinc (v := (nI j) + (-1)) (lv' := [(5, .int ((nI j) + (-1))), (3, .long (j_ushr ((m_th b j) + cy) (nI 32))), (6, .long ((m_th b j) + cy)), (0, .ref o), (1, .long b)]) hx hb dW_setDivisor_40 hl (k := 4) rfl rfl (by decide) rfl (fun ls hl => ?_)
        refine lv_goto (tgt := 6) hx hb dW_setDivisor_43 (by decide) ?_
        exact ih_6 j ((nI j) + (-1)) (vp_updL g j (((m_th b j) + cy) &&& 4294967295)) (j_ushr ((m_th b j) + cy) (nI 32)) (by omega) (by omega) rfl hg _ _ (hP.sub [0, 1] rfl) (hD.sub [0, 1] (by decide) rfl) hS ls (lv_sub hl [3, 4, 1, 0] rfl)
  exact lp_6 9 8 (nI 7) f 1 (by omega) (by omega) (pk_m1 7).symm rfl _ _ (hP.sub [0, 1] rfl) (hD.sub [0, 1] (by decide) rfl) hS ls (lv_sub hl [2, 3, 1, 0] rfl)

abbrev rm_c_W_divisorLength : Room := { frames := 3, cells := 0, slots := 0, locals := 64 }
set_option maxRecDepth 100000 in
set_option maxHeartbeats 4000000 in
theorem c_W_divisorLength (l : Launch) (D : va_G) (cI cJ cZ : ClassId) (o : Nat) (d : Nat) (r : Nat) (q : Nat) (kn : Int64) (f : Nat → Int64)  : ro_C l yW_divisorLength wW_divisorLength rm_c_W_divisorLength D vwCl (gT cI cJ cZ) [.ref o] [(o, .inr (1, [.ref d, .ref r, .ref q, .long kn])), (d, .inl (cJ, 8, .inr (.inl f)))] (some (.int (m_dlen f 8 0))) := by
  refine ro_of (cc := cW_divisorLength) (maxL := 2) (ret := some .int) (by decide) rfl (Nat.le_of_ble_eq_true rfl) ?_
  intro p e s m args below meth c Q ls hx hb hr hml hown hts hlocks hK hP hl hQ
  have hl : lv_has ls 2 [(0, .ref o)] := hl
  have hown : s.vm.findClass RW = some m.cls := hown
  refine lv_iconst (v := nI 0) hx hb dW_divisorLength_0 (by decide) ?_
  refine lv_istore_n (lv' := [(1, .int (nI 0)), (0, .ref o)]) hx hb dW_divisorLength_1 rfl hl (by decide) rfl (fun ls hl => ?_)
  have lp_2 : ∀ (n_2 : Nat) (n i : Nat), (n < n_2) → (i + n = 8) → (m_dlen f n i = m_dlen f 8 0) → ∀ (ls : Array Slot), lv_has ls 2 [(0, .ref o), (1, .int (nI i))] → W p l e rm_c_W_divisorLength s m args below meth c s.heap [] 0 0 Q (F0 m 2 ls []) := by
    intro n_2
    induction n_2 with
    | zero => intro n i hn hd hg ls hl; exact absurd hn (by omega)
    | succ n_2 ih_2 =>
      intro n i hn hd hg ls hl
      refine lv_iload_n hx hb dW_divisorLength_2 rfl (lv_at hl 1 rfl) ?_
      refine lv_bipush (v := nI 8) hx hb dW_divisorLength_3 (by decide) ?_
      refine lv_icmp_ge (tgt := 43) hx hb dW_divisorLength_5 (by decide) (fun c_5 => ?_) (fun c_5 => ?_)
      · skip
        have c_5 : 8 ≤ i := n_le c_5 (by omega) (by omega)
        have hd0 : n = 0 := by omega
        subst hd0
        refine lv_iconst (v := nI 0) hx hb dW_divisorLength_43 (by decide) ?_
        exact ro_iret hQ hx hb hr hlocks dW_divisorLength_44 (by rw [← hg]; rfl)
      · skip
        have c_5 : i < 8 := n_nle c_5 (by omega) (by omega)
        obtain ⟨n, rfl⟩ : ∃ d' : Nat, n = d' + 1 := ⟨n - 1, by omega⟩
        refine lv_aload_n hx hb dW_divisorLength_8 rfl (lv_at hl 0 rfl) ?_
        refine va_get (D := D) (ci := 1) (v := .ref d) (C := RW) (T := TW) (N := 4) hx hb hts iW_divisorLength_W hown hK hP 0 rfl rfl 0 (by decide) (hts (.fieldLink RW 9 "TreeDesk$Worth" "divisor" "[J") (by decide +kernel)) (fun _ h9 => h9) rfl dW_divisorLength_9 ?_
        refine lv_iload_n hx hb dW_divisorLength_12 rfl (lv_at hl 1 rfl) ?_
        refine ar_lld (j := i) hx hb hK hP 1 1 rfl rfl dW_divisorLength_13 (by omega) (by omega) ?_
        refine lv_lconst (v := 0) hx hb dW_divisorLength_14 (by decide) ?_
        refine lc_eq (tgt := 37) hx hb dW_divisorLength_15 dW_divisorLength_16 (by decide) (fun c_16 => ?_) (fun c_16 => ?_)
        · skip
          refine lv_iinc (v := nI (i + 1)) (lv' := [(1, .int (nI (i + 1))), (0, .ref o)]) hx hb dW_divisorLength_37 hl (k := 1) rfl (nI_add _ 1) (by decide) rfl (fun ls hl => ?_)
          refine lv_goto (tgt := 2) hx hb dW_divisorLength_40 (by decide) ?_
          exact ih_2 n (i + 1) (by omega) (by omega) (by rw [← hg, m_dlen, if_pos c_16]) ls (lv_sub hl [1, 0] rfl)
        · skip
          refine lv_bipush (v := nI 32) hx hb dW_divisorLength_19 (by decide) ?_
          refine lv_bipush (v := nI 7) hx hb dW_divisorLength_21 (by decide) ?_
          refine lv_iload_n hx hb dW_divisorLength_23 rfl (lv_at hl 1 rfl) ?_
          refine lv_isub hx hb dW_divisorLength_24 ?_
          refine tp_i (y := nI (7 - i)) (pk_sub (by omega)) ?_
          refine lv_imul hx hb dW_divisorLength_25 ?_
          refine tp_i (y := nI (32 * (7 - i))) (pk_mul _ _) ?_
          refine lv_aload_n hx hb dW_divisorLength_26 rfl (lv_at hl 0 rfl) ?_
          refine va_get (D := D) (ci := 1) (v := .ref d) (C := RW) (T := TW) (N := 4) hx hb hts iW_divisorLength_W hown hK hP 0 rfl rfl 0 (by decide) (hts (.fieldLink RW 9 "TreeDesk$Worth" "divisor" "[J") (by decide +kernel)) (fun _ h9 => h9) rfl dW_divisorLength_27 ?_
          refine lv_iload_n hx hb dW_divisorLength_30 rfl (lv_at hl 1 rfl) ?_
          refine ar_lld (j := i) hx hb hK hP 1 1 rfl rfl dW_divisorLength_31 (by omega) (by omega) ?_
          refine ro_ki (va_runS (As := [.long (f i)]) (rest := [.int (nI (32 * (7 - i)))]) ⟨hx, hb, hml, hown, hts⟩ (c_B_lengthOf l D cI cJ cZ (f i)) (va_cwS 1 hts gW_divisorLength_B_lengthOf_66 rfl rfl rfl (by decide +kernel) ⟨Nat.le_of_ble_eq_true rfl, Nat.le_of_ble_eq_true rfl⟩) (ro_preS (hP.sub [] rfl) hK) rfl rfl hl.1 rfl (lv_room (Nat.le_of_ble_eq_true rfl)) dW_divisorLength_32 ⟨Nat.le_of_ble_eq_true rfl, Nat.le_of_ble_eq_true rfl⟩) ?_
          refine lv_iadd hx hb dW_divisorLength_35 ?_
          exact ro_iret hQ hx hb hr hlocks dW_divisorLength_36 (by rw [← hg, m_dlen, if_neg c_16])
  exact lp_2 9 8 0 (by omega) (by omega) rfl ls (lv_sub hl [1, 0] rfl)

abbrev rm_c_W_twice : Room := { frames := 0, cells := 0, slots := 0, locals := 0 }
set_option maxRecDepth 100000 in
set_option maxHeartbeats 4000000 in
theorem c_W_twice (l : Launch) (D : va_G) (cI cJ cZ : ClassId) (a : Nat) (f : Nat → Int64) (x : Int64)  : rw_C l yW_twice wW_twice rm_c_W_twice D vwCl (gT cI cJ cZ) [.ref a, .long x] [(a, .inl (cJ, 8, .inr (.inl f)))] (fun v9 w9 => v9 = none ∧ w9 = [(a, .inl (cJ, 8, .inr (.inl (m_tw f x))))]) 0 0 := by
  refine rw_of (cc := cW_twice) (maxL := 8) (ret := none) (by decide) rfl (Nat.le_of_ble_eq_true rfl) ?_
  intro p e s m args below meth c Q A ls hx hb hr hml hown hts hlocks hin hK hP hD hA hl hQ
  have hS : va_S A s.heap s.heap [] := va_S.rf
  have hl : lv_has ls 8 [(0, .ref a), (1, .long x)] := hl
  have hown : s.vm.findClass RW = some m.cls := hown
  obtain ⟨H, hHe⟩ : ∃ H : Heap, H = s.heap := ⟨_, rfl⟩
  rw [← hHe] at hP
  have hS : va_S A s.heap H [] := by rw [hHe]; exact va_S.rf
  suffices h9 : W p l e rm_c_W_twice s m args below meth c H [] 0 0 Q (F0 m 0 ls []) by rw [hHe] at h9; exact h9
  clear hHe
  refine lv_lload_n hx hb dW_twice_0 rfl (lv_at hl 1 rfl) ?_
  refine lv_lstore_n (lv' := [(3, .long x), (0, .ref a), (1, .long x)]) hx hb dW_twice_1 rfl hl (by decide) rfl (fun ls hl => ?_)
  refine lv_bipush (v := nI 7) hx hb dW_twice_2 (by decide) ?_
  refine lv_istore (lv' := [(5, .int (nI 7)), (3, .long x), (0, .ref a), (1, .long x)]) hx hb dW_twice_4 hl (by decide) rfl (fun ls hl => ?_)
  have lp_6 : ∀ (n_6 : Nat) (k : Nat) (i : Int32) (g : Nat → Int64) (cy : Int64), (k < n_6) → (k ≤ 8) → (i = nI k + (-1)) → (m_twL k g cy = m_twL 8 f x) → ∀ (H : Heap) (locs : List Loc), va_P D vwCl [(a, .inl (cJ, 8, .inr (.inl g)))] H → va_D A [(a, .inl (cJ, 8, .inr (.inl g)))] → va_S A s.heap H locs → ∀ (ls : Array Slot), lv_has ls 8 [(0, .ref a), (1, .long x), (3, .long cy), (5, .int i)] → W p l e rm_c_W_twice s m args below meth c H locs 0 0 Q (F0 m 6 ls []) := by
    intro n_6
    induction n_6 with
    | zero => intro k i g cy hn h8 hi hg H locs hP hD hS ls hl; exact absurd hn (by omega)
    | succ n_6 ih_6 =>
      intro k i g cy hn h8 hi hg H locs hP hD hS ls hl
      refine lv_iload hx hb dW_twice_6 (lv_at hl 3 rfl) ?_
      refine lv_if_lt (tgt := 43) hx hb dW_twice_8 (by decide) (fun c_8 => ?_) (fun c_8 => ?_)
      · skip
        have hk0 : k = 0 := dn_0 hi c_8 (by omega)
        subst hk0
        exact rw_vret (w := [(a, .inl (cJ, 8, .inr (.inl g)))]) hQ hx hb hr hlocks dW_twice_43 (hP.sub [0] rfl) (hD.sub [0] (by decide) rfl) hS ⟨rfl, by rw [show m_tw f x = g from hg.symm]⟩
      · skip
        obtain ⟨j, rfl, rfl⟩ := dn_s hi c_8
        refine lv_aload_n hx hb dW_twice_11 rfl (lv_at hl 0 rfl) ?_
        refine lv_iload hx hb dW_twice_12 (lv_at hl 3 rfl) ?_
        refine ar_lld (j := j) hx hb hK hP 0 1 rfl rfl dW_twice_14 (by omega) (by omega) ?_
        refine lv_iconst (v := nI 1) hx hb dW_twice_15 (by decide) ?_
        refine lv_lshl (v := j_shl (g j) (nI 1)) hx hb dW_twice_16 rfl ?_
        refine lv_lload_n hx hb dW_twice_17 rfl (lv_at hl 2 rfl) ?_
        refine lv_lor hx hb dW_twice_18 ?_
        refine lv_lstore (lv' := [(6, .long ((j_shl (g j) (nI 1)) ||| cy)), (0, .ref a), (1, .long x), (3, .long cy), (5, .int (nI j))]) hx hb dW_twice_19 hl (by decide) rfl (fun ls hl => ?_)
        refine lv_aload_n hx hb dW_twice_21 rfl (lv_at hl 1 rfl) ?_
        refine lv_iload hx hb dW_twice_22 (lv_at hl 4 rfl) ?_
        refine lv_lload hx hb dW_twice_24 (lv_at hl 0 rfl) ?_
        refine lv_ldc2 (v := 4294967295) hx hb hown (hts (.constantLong RW 38 4294967295) (by decide +kernel)) dW_twice_26 ?_
        refine lv_land hx hb dW_twice_29 ?_
        refine ar_lst (j := j) hx hb hK hP hD hS 0 1 rfl rfl dW_twice_30 (by omega) (by omega) (fun H locs hP hD hS => ?_)
        have hP : va_P D vwCl [(a, .inl (cJ, 8, .inr (.inl (vp_updL g j (((j_shl (g j) (nI 1)) ||| cy) &&& 4294967295)))))] H := hP
        have hD : va_D A [(a, .inl (cJ, 8, .inr (.inl (vp_updL g j (((j_shl (g j) (nI 1)) ||| cy) &&& 4294967295)))))] := hD
        refine lv_lload hx hb dW_twice_31 (lv_at hl 0 rfl) ?_
        refine lv_bipush (v := nI 32) hx hb dW_twice_33 (by decide) ?_
        refine lv_lushr (v := j_ushr ((j_shl (g j) (nI 1)) ||| cy) (nI 32)) hx hb dW_twice_35 rfl ?_
        refine lv_lstore_n (lv' := [(3, .long (j_ushr ((j_shl (g j) (nI 1)) ||| cy) (nI 32))), (6, .long ((j_shl (g j) (nI 1)) ||| cy)), (0, .ref a), (1, .long x), (5, .int (nI j))]) hx hb dW_twice_36 rfl hl (by decide) rfl (fun ls hl => ?_)
        refine lv_iinc (v := (nI j) + (-1)) (lv' := [(5, .int ((nI j) + (-1))), (3, .long (j_ushr ((j_shl (g j) (nI 1)) ||| cy) (nI 32))), (6, .long ((j_shl (g j) (nI 1)) ||| cy)), (0, .ref a), (1, .long x)]) hx hb dW_twice_37 hl (k := 4) rfl rfl (by decide) rfl (fun ls hl => ?_)
        refine lv_goto (tgt := 6) hx hb dW_twice_40 (by decide) ?_
        exact ih_6 j ((nI j) + (-1)) (vp_updL g j (((j_shl (g j) (nI 1)) ||| cy) &&& 4294967295)) (j_ushr ((j_shl (g j) (nI 1)) ||| cy) (nI 32)) (by omega) (by omega) rfl hg _ _ (hP.sub [0] rfl) (hD.sub [0] (by decide) rfl) hS ls (lv_sub hl [3, 4, 1, 0] rfl)
  exact lp_6 9 8 (nI 7) f x (by omega) (by omega) (pk_m1 7).symm rfl _ _ (hP.sub [0] rfl) (hD.sub [0] (by decide) rfl) hS ls (lv_sub hl [2, 3, 1, 0] rfl)

abbrev rm_c_W_restHolds : Room := { frames := 0, cells := 0, slots := 0, locals := 0 }
set_option maxRecDepth 100000 in
set_option maxHeartbeats 4000000 in
theorem c_W_restHolds (l : Launch) (D : va_G) (cI cJ cZ : ClassId) (o : Nat) (d : Nat) (r : Nat) (q : Nat) (kn : Int64) (f : Nat → Int64) (g : Nat → Int64)  : ro_C l yW_restHoldsDivisor wW_restHoldsDivisor rm_c_W_restHolds D vwCl (gT cI cJ cZ) [.ref o] [(o, .inr (1, [.ref d, .ref r, .ref q, .long kn])), (d, .inl (cJ, 8, .inr (.inl f))), (r, .inl (cJ, 8, .inr (.inl g)))] (some (.int (m_hold g f 8 0))) := by
  refine ro_of (cc := cW_restHoldsDivisor) (maxL := 2) (ret := some .boolean) (by decide) rfl (Nat.le_of_ble_eq_true rfl) ?_
  intro p e s m args below meth c Q ls hx hb hr hml hown hts hlocks hK hP hl hQ
  have hl : lv_has ls 2 [(0, .ref o)] := hl
  have hown : s.vm.findClass RW = some m.cls := hown
  refine lv_iconst (v := nI 0) hx hb dW_restHoldsDivisor_0 (by decide) ?_
  refine lv_istore_n (lv' := [(1, .int (nI 0)), (0, .ref o)]) hx hb dW_restHoldsDivisor_1 rfl hl (by decide) rfl (fun ls hl => ?_)
  have lp_2 : ∀ (n_2 : Nat) (n i : Nat), (n < n_2) → (i + n = 8) → (m_hold g f n i = m_hold g f 8 0) → ∀ (ls : Array Slot), lv_has ls 2 [(0, .ref o), (1, .int (nI i))] → W p l e rm_c_W_restHolds s m args below meth c s.heap [] 0 0 Q (F0 m 2 ls []) := by
    intro n_2
    induction n_2 with
    | zero => intro n i hn hd hg ls hl; exact absurd hn (by omega)
    | succ n_2 ih_2 =>
      intro n i hn hd hg ls hl
      refine lv_iload_n hx hb dW_restHoldsDivisor_2 rfl (lv_at hl 1 rfl) ?_
      refine lv_bipush (v := nI 8) hx hb dW_restHoldsDivisor_3 (by decide) ?_
      refine lv_icmp_ge (tgt := 52) hx hb dW_restHoldsDivisor_5 (by decide) (fun c_5 => ?_) (fun c_5 => ?_)
      · skip
        have c_5 : 8 ≤ i := n_le c_5 (by omega) (by omega)
        have hd0 : n = 0 := by omega
        subst hd0
        refine lv_iconst (v := nI 1) hx hb dW_restHoldsDivisor_52 (by decide) ?_
        exact ro_zret hQ hx hb hr hlocks dW_restHoldsDivisor_53 rfl (by rw [← hg]; rfl)
      · skip
        have c_5 : i < 8 := n_nle c_5 (by omega) (by omega)
        obtain ⟨n, rfl⟩ : ∃ d' : Nat, n = d' + 1 := ⟨n - 1, by omega⟩
        refine lv_aload_n hx hb dW_restHoldsDivisor_8 rfl (lv_at hl 0 rfl) ?_
        refine va_get (D := D) (ci := 1) (v := .ref r) (C := RW) (T := TW) (N := 4) hx hb hts iW_restHoldsDivisor_W hown hK hP 0 rfl rfl 1 (by decide) (hts (.fieldLink RW 15 "TreeDesk$Worth" "rest" "[J") (by decide +kernel)) (fun _ h9 => h9) rfl dW_restHoldsDivisor_9 ?_
        refine lv_iload_n hx hb dW_restHoldsDivisor_12 rfl (lv_at hl 1 rfl) ?_
        refine ar_lld (j := i) hx hb hK hP 2 1 rfl rfl dW_restHoldsDivisor_13 (by omega) (by omega) ?_
        refine lv_aload_n hx hb dW_restHoldsDivisor_14 rfl (lv_at hl 0 rfl) ?_
        refine va_get (D := D) (ci := 1) (v := .ref d) (C := RW) (T := TW) (N := 4) hx hb hts iW_restHoldsDivisor_W hown hK hP 0 rfl rfl 0 (by decide) (hts (.fieldLink RW 9 "TreeDesk$Worth" "divisor" "[J") (by decide +kernel)) (fun _ h9 => h9) rfl dW_restHoldsDivisor_15 ?_
        refine lv_iload_n hx hb dW_restHoldsDivisor_18 rfl (lv_at hl 1 rfl) ?_
        refine ar_lld (j := i) hx hb hK hP 1 1 rfl rfl dW_restHoldsDivisor_19 (by omega) (by omega) ?_
        refine lc_eq (tgt := 46) hx hb dW_restHoldsDivisor_20 dW_restHoldsDivisor_21 (by decide) (fun c_21 => ?_) (fun c_21 => ?_)
        · skip
          refine lv_iinc (v := nI (i + 1)) (lv' := [(1, .int (nI (i + 1))), (0, .ref o)]) hx hb dW_restHoldsDivisor_46 hl (k := 1) rfl (nI_add _ 1) (by decide) rfl (fun ls hl => ?_)
          refine lv_goto (tgt := 2) hx hb dW_restHoldsDivisor_49 (by decide) ?_
          exact ih_2 n (i + 1) (by omega) (by omega) (by rw [← hg, m_hold, if_pos c_21]) ls (lv_sub hl [1, 0] rfl)
        · skip
          refine lv_aload_n hx hb dW_restHoldsDivisor_24 rfl (lv_at hl 0 rfl) ?_
          refine va_get (D := D) (ci := 1) (v := .ref r) (C := RW) (T := TW) (N := 4) hx hb hts iW_restHoldsDivisor_W hown hK hP 0 rfl rfl 1 (by decide) (hts (.fieldLink RW 15 "TreeDesk$Worth" "rest" "[J") (by decide +kernel)) (fun _ h9 => h9) rfl dW_restHoldsDivisor_25 ?_
          refine lv_iload_n hx hb dW_restHoldsDivisor_28 rfl (lv_at hl 1 rfl) ?_
          refine ar_lld (j := i) hx hb hK hP 2 1 rfl rfl dW_restHoldsDivisor_29 (by omega) (by omega) ?_
          refine lv_aload_n hx hb dW_restHoldsDivisor_30 rfl (lv_at hl 0 rfl) ?_
          refine va_get (D := D) (ci := 1) (v := .ref d) (C := RW) (T := TW) (N := 4) hx hb hts iW_restHoldsDivisor_W hown hK hP 0 rfl rfl 0 (by decide) (hts (.fieldLink RW 9 "TreeDesk$Worth" "divisor" "[J") (by decide +kernel)) (fun _ h9 => h9) rfl dW_restHoldsDivisor_31 ?_
          refine lv_iload_n hx hb dW_restHoldsDivisor_34 rfl (lv_at hl 1 rfl) ?_
          refine ar_lld (j := i) hx hb hK hP 1 1 rfl rfl dW_restHoldsDivisor_35 (by omega) (by omega) ?_
          refine lc_le (tgt := 44) hx hb dW_restHoldsDivisor_36 dW_restHoldsDivisor_37 (by decide) (fun c_37 => ?_) (fun c_37 => ?_)
          · skip
            refine lv_iconst (v := nI 0) hx hb dW_restHoldsDivisor_44 (by decide) ?_
            exact ro_zret hQ hx hb hr hlocks dW_restHoldsDivisor_45 rfl (by rw [← hg, m_hold, if_neg c_21, if_pos c_37])
          · skip
            refine lv_iconst (v := nI 1) hx hb dW_restHoldsDivisor_40 (by decide) ?_
            refine lv_goto (tgt := 45) hx hb dW_restHoldsDivisor_41 (by decide) ?_
            exact ro_zret hQ hx hb hr hlocks dW_restHoldsDivisor_45 rfl (by rw [← hg, m_hold, if_neg c_21, if_neg c_37])
  exact lp_2 9 8 0 (by omega) (by omega) rfl ls (lv_sub hl [1, 0] rfl)

abbrev rm_c_W_subtract : Room := { frames := 0, cells := 0, slots := 0, locals := 0 }
set_option maxRecDepth 100000 in
set_option maxHeartbeats 4000000 in
theorem c_W_subtract (l : Launch) (D : va_G) (cI cJ cZ : ClassId) (o : Nat) (d : Nat) (r : Nat) (q : Nat) (kn : Int64) (f : Nat → Int64) (g0 : Nat → Int64)  : rw_C l yW_subtractDivisor wW_subtractDivisor rm_c_W_subtract D vwCl (gT cI cJ cZ) [.ref o] [(o, .inr (1, [.ref d, .ref r, .ref q, .long kn])), (d, .inl (cJ, 8, .inr (.inl f))), (r, .inl (cJ, 8, .inr (.inl g0)))] (fun v9 w9 => v9 = none ∧ w9 = [(o, .inr (1, [.ref d, .ref r, .ref q, .long kn])), (d, .inl (cJ, 8, .inr (.inl f))), (r, .inl (cJ, 8, .inr (.inl (m_sub g0 f))))]) 0 0 := by
  refine rw_of (cc := cW_subtractDivisor) (maxL := 6) (ret := none) (by decide) rfl (Nat.le_of_ble_eq_true rfl) ?_
  intro p e s m args below meth c Q A ls hx hb hr hml hown hts hlocks hin hK hP hD hA hl hQ
  have hS : va_S A s.heap s.heap [] := va_S.rf
  have hl : lv_has ls 6 [(0, .ref o)] := hl
  have hown : s.vm.findClass RW = some m.cls := hown
  obtain ⟨H, hHe⟩ : ∃ H : Heap, H = s.heap := ⟨_, rfl⟩
  rw [← hHe] at hP
  have hS : va_S A s.heap H [] := by rw [hHe]; exact va_S.rf
  suffices h9 : W p l e rm_c_W_subtract s m args below meth c H [] 0 0 Q (F0 m 0 ls []) by rw [hHe] at h9; exact h9
  clear hHe
  refine lv_lconst (v := 0) hx hb dW_subtractDivisor_0 (by decide) ?_
  refine lv_lstore_n (lv' := [(1, .long 0), (0, .ref o)]) hx hb dW_subtractDivisor_1 rfl hl (by decide) rfl (fun ls hl => ?_)
  refine lv_bipush (v := nI 7) hx hb dW_subtractDivisor_2 (by decide) ?_
  refine lv_istore_n (lv' := [(3, .int (nI 7)), (1, .long 0), (0, .ref o)]) hx hb dW_subtractDivisor_4 rfl hl (by decide) rfl (fun ls hl => ?_)
  have lp_5 : ∀ (n_5 : Nat) (k : Nat) (i : Int32) (g : Nat → Int64) (bo : Int64), (k < n_5) → (k ≤ 8) → (i = nI k + (-1)) → (m_subL f k g bo = m_subL f 8 g0 0) → ∀ (H : Heap) (locs : List Loc), va_P D vwCl [(o, .inr (1, [.ref d, .ref r, .ref q, .long kn])), (d, .inl (cJ, 8, .inr (.inl f))), (r, .inl (cJ, 8, .inr (.inl g)))] H → va_D A [(o, .inr (1, [.ref d, .ref r, .ref q, .long kn])), (d, .inl (cJ, 8, .inr (.inl f))), (r, .inl (cJ, 8, .inr (.inl g)))] → va_S A s.heap H locs → ∀ (ls : Array Slot), lv_has ls 6 [(0, .ref o), (1, .long bo), (3, .int i)] → W p l e rm_c_W_subtract s m args below meth c H locs 0 0 Q (F0 m 5 ls []) := by
    intro n_5
    induction n_5 with
    | zero => intro k i g bo hn h8 hi hg H locs hP hD hS ls hl; exact absurd hn (by omega)
    | succ n_5 ih_5 =>
      intro k i g bo hn h8 hi hg H locs hP hD hS ls hl
      refine lv_iload_n hx hb dW_subtractDivisor_5 rfl (lv_at hl 2 rfl) ?_
      refine lv_if_lt (tgt := 57) hx hb dW_subtractDivisor_6 (by decide) (fun c_6 => ?_) (fun c_6 => ?_)
      · skip
        have hk0 : k = 0 := dn_0 hi c_6 (by omega)
        subst hk0
        exact rw_vret (w := [(o, .inr (1, [.ref d, .ref r, .ref q, .long kn])), (d, .inl (cJ, 8, .inr (.inl f))), (r, .inl (cJ, 8, .inr (.inl g)))]) hQ hx hb hr hlocks dW_subtractDivisor_57 (hP.sub [0, 1, 2] rfl) (hD.sub [0, 1, 2] (by decide) rfl) hS ⟨rfl, by rw [show m_sub g0 f = g from hg.symm]⟩
      · skip
        obtain ⟨j, rfl, rfl⟩ := dn_s hi c_6
        refine lv_aload_n hx hb dW_subtractDivisor_9 rfl (lv_at hl 0 rfl) ?_
        refine va_get (D := D) (ci := 1) (v := .ref r) (C := RW) (T := TW) (N := 4) hx hb hts iW_subtractDivisor_W hown hK hP 0 rfl rfl 1 (by decide) (hts (.fieldLink RW 15 "TreeDesk$Worth" "rest" "[J") (by decide +kernel)) (fun _ h9 => h9) rfl dW_subtractDivisor_10 ?_
        refine lv_iload_n hx hb dW_subtractDivisor_13 rfl (lv_at hl 2 rfl) ?_
        refine ar_lld (j := j) hx hb hK hP 2 1 rfl rfl dW_subtractDivisor_14 (by omega) (by omega) ?_
        refine lv_aload_n hx hb dW_subtractDivisor_15 rfl (lv_at hl 0 rfl) ?_
        refine va_get (D := D) (ci := 1) (v := .ref d) (C := RW) (T := TW) (N := 4) hx hb hts iW_subtractDivisor_W hown hK hP 0 rfl rfl 0 (by decide) (hts (.fieldLink RW 9 "TreeDesk$Worth" "divisor" "[J") (by decide +kernel)) (fun _ h9 => h9) rfl dW_subtractDivisor_16 ?_
        refine lv_iload_n hx hb dW_subtractDivisor_19 rfl (lv_at hl 2 rfl) ?_
        refine ar_lld (j := j) hx hb hK hP 1 1 rfl rfl dW_subtractDivisor_20 (by omega) (by omega) ?_
        refine lv_lsub hx hb dW_subtractDivisor_21 ?_
        refine lv_lload_n hx hb dW_subtractDivisor_22 rfl (lv_at hl 1 rfl) ?_
        refine lv_lsub hx hb dW_subtractDivisor_23 ?_
        refine lv_lstore (lv' := [(4, .long (((g j) - (f j)) - bo)), (0, .ref o), (1, .long bo), (3, .int (nI j))]) hx hb dW_subtractDivisor_24 hl (by decide) rfl (fun ls hl => ?_)
        refine lv_aload_n hx hb dW_subtractDivisor_26 rfl (lv_at hl 1 rfl) ?_
        refine va_get (D := D) (ci := 1) (v := .ref r) (C := RW) (T := TW) (N := 4) hx hb hts iW_subtractDivisor_W hown hK hP 0 rfl rfl 1 (by decide) (hts (.fieldLink RW 15 "TreeDesk$Worth" "rest" "[J") (by decide +kernel)) (fun _ h9 => h9) rfl dW_subtractDivisor_27 ?_
        refine lv_iload_n hx hb dW_subtractDivisor_30 rfl (lv_at hl 3 rfl) ?_
        refine lv_lload hx hb dW_subtractDivisor_31 (lv_at hl 0 rfl) ?_
        refine lv_ldc2 (v := 4294967295) hx hb hown (hts (.constantLong RW 38 4294967295) (by decide +kernel)) dW_subtractDivisor_33 ?_
        refine lv_land hx hb dW_subtractDivisor_36 ?_
        refine ar_lst (j := j) hx hb hK hP hD hS 2 1 rfl rfl dW_subtractDivisor_37 (by omega) (by omega) (fun H locs hP hD hS => ?_)
        have hP : va_P D vwCl [(o, .inr (1, [.ref d, .ref r, .ref q, .long kn])), (d, .inl (cJ, 8, .inr (.inl f))), (r, .inl (cJ, 8, .inr (.inl (vp_updL g j ((((g j) - (f j)) - bo) &&& 4294967295)))))] H := hP
        have hD : va_D A [(o, .inr (1, [.ref d, .ref r, .ref q, .long kn])), (d, .inl (cJ, 8, .inr (.inl f))), (r, .inl (cJ, 8, .inr (.inl (vp_updL g j ((((g j) - (f j)) - bo) &&& 4294967295)))))] := hD
        refine lv_lload hx hb dW_subtractDivisor_38 (lv_at hl 0 rfl) ?_
        refine lv_lconst (v := 0) hx hb dW_subtractDivisor_40 (by decide) ?_
        refine lc_ge (tgt := 49) hx hb dW_subtractDivisor_41 dW_subtractDivisor_42 (by decide) (fun c_42 => ?_) (fun c_42 => ?_)
        · skip
          refine lv_lconst (v := 0) hx hb dW_subtractDivisor_49 (by decide) ?_
          refine lv_lstore_n (lv' := [(1, .long 0), (4, .long (((g j) - (f j)) - bo)), (0, .ref o), (3, .int (nI j))]) hx hb dW_subtractDivisor_50 rfl hl (by decide) rfl (fun ls hl => ?_)
          refine lv_iinc (v := (nI j) + (-1)) (lv' := [(3, .int ((nI j) + (-1))), (1, .long 0), (4, .long (((g j) - (f j)) - bo)), (0, .ref o)]) hx hb dW_subtractDivisor_51 hl (k := 3) rfl rfl (by decide) rfl (fun ls hl => ?_)
          refine lv_goto (tgt := 5) hx hb dW_subtractDivisor_54 (by decide) ?_
          exact ih_5 j ((nI j) + (-1)) (vp_updL g j ((((g j) - (f j)) - bo) &&& 4294967295)) 0 (by omega) (by omega) rfl (by rw [← hg, m_subL, if_pos c_42]) _ _ (hP.sub [0, 1, 2] rfl) (hD.sub [0, 1, 2] (by decide) rfl) hS ls (lv_sub hl [3, 1, 0] rfl)
        · skip
          refine lv_lconst (v := 1) hx hb dW_subtractDivisor_45 (by decide) ?_
          refine lv_goto (tgt := 50) hx hb dW_subtractDivisor_46 (by decide) ?_
          refine lv_lstore_n (lv' := [(1, .long 1), (4, .long (((g j) - (f j)) - bo)), (0, .ref o), (3, .int (nI j))]) hx hb dW_subtractDivisor_50 rfl hl (by decide) rfl (fun ls hl => ?_)
          refine lv_iinc (v := (nI j) + (-1)) (lv' := [(3, .int ((nI j) + (-1))), (1, .long 1), (4, .long (((g j) - (f j)) - bo)), (0, .ref o)]) hx hb dW_subtractDivisor_51 hl (k := 3) rfl rfl (by decide) rfl (fun ls hl => ?_)
          refine lv_goto (tgt := 5) hx hb dW_subtractDivisor_54 (by decide) ?_
          exact ih_5 j ((nI j) + (-1)) (vp_updL g j ((((g j) - (f j)) - bo) &&& 4294967295)) 1 (by omega) (by omega) rfl (by rw [← hg, m_subL, if_neg c_42]) _ _ (hP.sub [0, 1, 2] rfl) (hD.sub [0, 1, 2] (by decide) rfl) hS ls (lv_sub hl [3, 1, 0] rfl)
  exact lp_5 9 8 (nI 7) g0 0 (by omega) (by omega) (pk_m1 7).symm rfl _ _ (hP.sub [0, 1, 2] rfl) (hD.sub [0, 1, 2] (by decide) rfl) hS ls (lv_sub hl [2, 1, 0] rfl)

abbrev rm_c_W_divide : Room := { frames := 4, cells := 0, slots := 0, locals := 85 }
set_option maxRecDepth 100000 in
set_option maxHeartbeats 4000000 in
theorem c_W_divide (l : Launch) (D : va_G) (cI cJ cZ : ClassId) (o : Nat) (d : Nat) (r : Nat) (q : Nat) (kn : Int64) (f : Nat → Int64) (g0 : Nat → Int64) (h0 : Nat → Int64) (Ld : Nat) (hLd : m_dlen f 8 0 = nI Ld) (hL2 : 2 ≤ Ld) (hL6 : Ld ≤ 256) : rw_C l yW_divide wW_divide rm_c_W_divide D vwCl (gT cI cJ cZ) [.ref o] [(o, .inr (1, [.ref d, .ref r, .ref q, .long kn])), (d, .inl (cJ, 8, .inr (.inl f))), (r, .inl (cJ, 8, .inr (.inl g0))), (q, .inl (cJ, 8, .inr (.inl h0)))] (fun v9 w9 => v9 = none ∧ w9 = [(o, .inr (1, [.ref d, .ref r, .ref q, .long kn])), (d, .inl (cJ, 8, .inr (.inl f))), (r, .inl (cJ, 8, .inr (.inl ((m_dv f g0 h0 (Ld - 2)).1)))), (q, .inl (cJ, 8, .inr (.inl ((m_dv f g0 h0 (Ld - 2)).2))))]) 0 0 := by
  refine rw_of (cc := cW_divide) (maxL := 4) (ret := none) (by decide) rfl (Nat.le_of_ble_eq_true rfl) ?_
  intro p e s m args below meth c Q A ls hx hb hr hml hown hts hlocks hin hK hP hD hA hl hQ
  have hS : va_S A s.heap s.heap [] := va_S.rf
  have hl : lv_has ls 4 [(0, .ref o)] := hl
  have hown : s.vm.findClass RW = some m.cls := hown
  obtain ⟨H, hHe⟩ : ∃ H : Heap, H = s.heap := ⟨_, rfl⟩
  rw [← hHe] at hP
  have hS : va_S A s.heap H [] := by rw [hHe]; exact va_S.rf
  suffices h9 : W p l e rm_c_W_divide s m args below meth c H [] 0 0 Q (F0 m 0 ls []) by rw [hHe] at h9; exact h9
  clear hHe
  refine lv_aload_n hx hb dW_divide_0 rfl (lv_at hl 0 rfl) ?_
  refine va_get (D := D) (ci := 1) (v := .ref r) (C := RW) (T := TW) (N := 4) hx hb hts iW_divide_W hown hK hP 0 rfl rfl 1 (by decide) (hts (.fieldLink RW 15 "TreeDesk$Worth" "rest" "[J") (by decide +kernel)) (fun _ h9 => h9) rfl dW_divide_1 ?_
  refine lv_lconst (v := 0) hx hb dW_divide_4 (by decide) ?_
  refine rw_k (wc := [(r, .inl (cJ, 8, .inr (.inl g0)))]) (wr := [(o, .inr (1, [.ref d, .ref r, .ref q, .long kn])), (d, .inl (cJ, 8, .inr (.inl f))), (q, .inl (cJ, 8, .inr (.inl h0)))]) (va_runS (As := [.ref r, .long 0]) (rest := []) ⟨hx, hb, hml, hown, hts⟩ (c_J_fill l D cI cJ cZ r 8 g0 0 (by omega) H.size) (va_cwS 2 hts gW_divide_JA_fill_40 rfl rfl rfl (by decide +kernel) ⟨Nat.le_of_ble_eq_true rfl, Nat.le_of_ble_eq_true rfl⟩) (rw_preS (hP.sub [2] rfl) hK (hD.sub [2] (by decide) rfl)) rfl rfl hl.1 rfl (lv_room (Nat.le_of_ble_eq_true rfl)) dW_divide_5 ⟨Nat.le_of_ble_eq_true rfl, Nat.le_of_ble_eq_true rfl⟩) hP hD hS hA [2] [0, 1, 3] rfl rfl (by decide) (by decide) (fun v9 w9 H locs hp9 hP hD hS => ?_)
  obtain ⟨rfl, rfl⟩ := hp9
  have hP : va_P D vwCl [(o, .inr (1, [.ref d, .ref r, .ref q, .long kn])), (d, .inl (cJ, 8, .inr (.inl f))), (q, .inl (cJ, 8, .inr (.inl h0))), (r, .inl (cJ, 8, .inr (.inl (m_fill g0 8 0))))] H := hP
  have hD : va_D A [(o, .inr (1, [.ref d, .ref r, .ref q, .long kn])), (d, .inl (cJ, 8, .inr (.inl f))), (q, .inl (cJ, 8, .inr (.inl h0))), (r, .inl (cJ, 8, .inr (.inl (m_fill g0 8 0))))] := hD
  refine W.eq (g2 := F0 m 8 ls []) rfl ?_
  refine lv_aload_n hx hb dW_divide_8 rfl (lv_at hl 0 rfl) ?_
  refine va_get (D := D) (ci := 1) (v := .ref q) (C := RW) (T := TW) (N := 4) hx hb hts iW_divide_W hown hK hP 0 rfl rfl 2 (by decide) (hts (.fieldLink RW 18 "TreeDesk$Worth" "quotient" "[J") (by decide +kernel)) (fun _ h9 => h9) rfl dW_divide_9 ?_
  refine lv_lconst (v := 0) hx hb dW_divide_12 (by decide) ?_
  refine rw_k (wc := [(q, .inl (cJ, 8, .inr (.inl h0)))]) (wr := [(o, .inr (1, [.ref d, .ref r, .ref q, .long kn])), (d, .inl (cJ, 8, .inr (.inl f))), (r, .inl (cJ, 8, .inr (.inl (m_fill g0 8 0))))]) (va_runS (As := [.ref q, .long 0]) (rest := []) ⟨hx, hb, hml, hown, hts⟩ (c_J_fill l D cI cJ cZ q 8 h0 0 (by omega) H.size) (va_cwS 2 hts gW_divide_JA_fill_40 rfl rfl rfl (by decide +kernel) ⟨Nat.le_of_ble_eq_true rfl, Nat.le_of_ble_eq_true rfl⟩) (rw_preS (hP.sub [2] rfl) hK (hD.sub [2] (by decide) rfl)) rfl rfl hl.1 rfl (lv_room (Nat.le_of_ble_eq_true rfl)) dW_divide_13 ⟨Nat.le_of_ble_eq_true rfl, Nat.le_of_ble_eq_true rfl⟩) hP hD hS hA [2] [0, 1, 3] rfl rfl (by decide) (by decide) (fun v9 w9 H locs hp9 hP hD hS => ?_)
  obtain ⟨rfl, rfl⟩ := hp9
  have hP : va_P D vwCl [(o, .inr (1, [.ref d, .ref r, .ref q, .long kn])), (d, .inl (cJ, 8, .inr (.inl f))), (r, .inl (cJ, 8, .inr (.inl (m_fill g0 8 0)))), (q, .inl (cJ, 8, .inr (.inl (m_fill h0 8 0))))] H := hP
  have hD : va_D A [(o, .inr (1, [.ref d, .ref r, .ref q, .long kn])), (d, .inl (cJ, 8, .inr (.inl f))), (r, .inl (cJ, 8, .inr (.inl (m_fill g0 8 0)))), (q, .inl (cJ, 8, .inr (.inl (m_fill h0 8 0))))] := hD
  refine W.eq (g2 := F0 m 16 ls []) rfl ?_
  refine lv_iconst (v := nI 0) hx hb dW_divide_16 (by decide) ?_
  refine lv_aload_n hx hb dW_divide_17 rfl (lv_at hl 0 rfl) ?_
  refine ro_ki (va_runV (As := []) (rest := [.int (nI 0)]) ⟨hx, hb, hml, hown, hts⟩ (c_W_divisorLength l D cI cJ cZ o d r q kn f) (cwV 0 hts gW_divide_W_divisorLength_46 rfl rfl rfl (by decide +kernel) ⟨Nat.le_of_ble_eq_true rfl, Nat.le_of_ble_eq_true rfl⟩) (ro_preV (hP.sub [0, 1] rfl) hK (va_recv hK hP (ci := 1) (q0 := 0) rfl rfl)) rfl rfl hl.1 rfl (lv_room (Nat.le_of_ble_eq_true rfl)) dW_divide_18 ⟨Nat.le_of_ble_eq_true rfl, Nat.le_of_ble_eq_true rfl⟩) ?_
  refine tp_i (y := nI Ld) hLd ?_
  refine lv_iconst (v := nI 2) hx hb dW_divide_21 (by decide) ?_
  refine lv_isub hx hb dW_divide_22 ?_
  refine tp_i (y := nI (Ld - 2)) (pk_sub (by omega)) ?_
  refine va_mmax hx hb (hml.trans hl.1.symm) hown (hts (.methodLink RW 50 Lib.Math.max.name) (by decide +kernel)) (hts (.static Lib.Math.max.name) (by decide +kernel)) (hts (.initialized "java/lang/Math") (by decide +kernel)) (hts (.code Lib.Math.max.name Lib.Math.max.code 2 (some .int)) (by decide +kernel)) (Nat.le_of_ble_eq_true rfl) (Nat.le_of_ble_eq_true rfl) (Nat.le_of_ble_eq_true rfl) (Nat.le_of_ble_eq_true rfl) dW_divide_23 ?_
  refine tp_i (y := nI (Ld - 2)) (mx_0 (by omega)) ?_
  refine lv_istore_n (lv' := [(1, .int (nI (Ld - 2))), (0, .ref o)]) hx hb dW_divide_26 rfl hl (by decide) rfl (fun ls hl => ?_)
  refine lv_aload_n hx hb dW_divide_27 rfl (lv_at hl 1 rfl) ?_
  refine va_get (D := D) (ci := 1) (v := .ref r) (C := RW) (T := TW) (N := 4) hx hb hts iW_divide_W hown hK hP 0 rfl rfl 1 (by decide) (hts (.fieldLink RW 15 "TreeDesk$Worth" "rest" "[J") (by decide +kernel)) (fun _ h9 => h9) rfl dW_divide_28 ?_
  refine lv_bipush (v := nI 7) hx hb dW_divide_31 (by decide) ?_
  refine lv_iload_n hx hb dW_divide_33 rfl (lv_at hl 0 rfl) ?_
  refine lv_bipush (v := nI 32) hx hb dW_divide_34 (by decide) ?_
  refine lv_idiv hx hb dW_divide_36 (nI_ne0 (by omega) (by omega)) ?_
  refine tp_i (y := nI ((Ld - 2) / 32)) (pk_div (by omega) (by omega) (by omega)) ?_
  refine lv_isub hx hb dW_divide_37 ?_
  refine tp_i (y := nI (7 - ((Ld - 2) / 32))) (pk_sub (by omega)) ?_
  refine lv_lconst (v := 1) hx hb dW_divide_38 (by decide) ?_
  refine lv_iload_n hx hb dW_divide_39 rfl (lv_at hl 0 rfl) ?_
  refine lv_bipush (v := nI 32) hx hb dW_divide_40 (by decide) ?_
  refine lv_irem hx hb dW_divide_42 (nI_ne0 (by omega) (by omega)) ?_
  refine tp_i (y := nI ((Ld - 2) % 32)) (pk_rem (by omega) (by omega) (by omega)) ?_
  refine lv_lshl (v := j_shl 1 (nI ((Ld - 2) % 32))) hx hb dW_divide_43 rfl ?_
  refine ar_lst (j := 7 - ((Ld - 2) / 32)) hx hb hK hP hD hS 2 1 rfl rfl dW_divide_44 (by omega) (by omega) (fun H locs hP hD hS => ?_)
  have hP : va_P D vwCl [(o, .inr (1, [.ref d, .ref r, .ref q, .long kn])), (d, .inl (cJ, 8, .inr (.inl f))), (r, .inl (cJ, 8, .inr (.inl (vp_updL (m_fill g0 8 0) (7 - ((Ld - 2) / 32)) (j_shl 1 (nI ((Ld - 2) % 32))))))), (q, .inl (cJ, 8, .inr (.inl (m_fill h0 8 0))))] H := hP
  have hD : va_D A [(o, .inr (1, [.ref d, .ref r, .ref q, .long kn])), (d, .inl (cJ, 8, .inr (.inl f))), (r, .inl (cJ, 8, .inr (.inl (vp_updL (m_fill g0 8 0) (7 - ((Ld - 2) / 32)) (j_shl 1 (nI ((Ld - 2) % 32))))))), (q, .inl (cJ, 8, .inr (.inl (m_fill h0 8 0))))] := hD
  refine lv_iload_n hx hb dW_divide_45 rfl (lv_at hl 0 rfl) ?_
  refine lv_istore_n (lv' := [(2, .int (nI (Ld - 2))), (1, .int (nI (Ld - 2))), (0, .ref o)]) hx hb dW_divide_46 rfl hl (by decide) rfl (fun ls hl => ?_)
  have lp_47 : ∀ (n_47 : Nat) (n i : Nat) (g h : Nat → Int64), (n < n_47) → (i + n = 256) → (m_dvL f n g h = m_dv f g0 h0 (Ld - 2)) → ∀ (H : Heap) (locs : List Loc), va_P D vwCl [(o, .inr (1, [.ref d, .ref r, .ref q, .long kn])), (d, .inl (cJ, 8, .inr (.inl f))), (r, .inl (cJ, 8, .inr (.inl g))), (q, .inl (cJ, 8, .inr (.inl h)))] H → va_D A [(o, .inr (1, [.ref d, .ref r, .ref q, .long kn])), (d, .inl (cJ, 8, .inr (.inl f))), (r, .inl (cJ, 8, .inr (.inl g))), (q, .inl (cJ, 8, .inr (.inl h)))] → va_S A s.heap H locs → ∀ (ls : Array Slot), lv_has ls 4 [(0, .ref o), (2, .int (nI i))] → W p l e rm_c_W_divide s m args below meth c H locs 0 0 Q (F0 m 47 ls []) := by
    intro n_47
    induction n_47 with
    | zero => intro n i g h hn hd hg H locs hP hD hS ls hl; exact absurd hn (by omega)
    | succ n_47 ih_47 =>
      intro n i g h hn hd hg H locs hP hD hS ls hl
      refine lv_iload_n hx hb dW_divide_47 rfl (lv_at hl 1 rfl) ?_
      refine lv_sipush (v := nI 256) hx hb dW_divide_48 (by decide) ?_
      refine lv_icmp_ge (tgt := 97) hx hb dW_divide_51 (by decide) (fun c_51 => ?_) (fun c_51 => ?_)
      · skip
        have c_51 : 256 ≤ i := n_le c_51 (by omega) (by omega)
        have hd0 : n = 0 := by omega
        subst hd0
        exact rw_vret (w := [(o, .inr (1, [.ref d, .ref r, .ref q, .long kn])), (d, .inl (cJ, 8, .inr (.inl f))), (r, .inl (cJ, 8, .inr (.inl g))), (q, .inl (cJ, 8, .inr (.inl h)))]) hQ hx hb hr hlocks dW_divide_97 (hP.sub [0, 1, 2, 3] rfl) (hD.sub [0, 1, 2, 3] (by decide) rfl) hS ⟨rfl, by rw [show m_dv f g0 h0 (Ld - 2) = (g, h) from hg.symm]⟩
      · skip
        have c_51 : i < 256 := n_nle c_51 (by omega) (by omega)
        obtain ⟨n, rfl⟩ : ∃ d' : Nat, n = d' + 1 := ⟨n - 1, by omega⟩
        refine lv_aload_n hx hb dW_divide_54 rfl (lv_at hl 0 rfl) ?_
        refine va_get (D := D) (ci := 1) (v := .ref r) (C := RW) (T := TW) (N := 4) hx hb hts iW_divide_W hown hK hP 0 rfl rfl 1 (by decide) (hts (.fieldLink RW 15 "TreeDesk$Worth" "rest" "[J") (by decide +kernel)) (fun _ h9 => h9) rfl dW_divide_55 ?_
        refine lv_lconst (v := 0) hx hb dW_divide_58 (by decide) ?_
        refine rw_k (wc := [(r, .inl (cJ, 8, .inr (.inl g)))]) (wr := [(o, .inr (1, [.ref d, .ref r, .ref q, .long kn])), (d, .inl (cJ, 8, .inr (.inl f))), (q, .inl (cJ, 8, .inr (.inl h)))]) (va_runS (As := [.ref r, .long 0]) (rest := []) ⟨hx, hb, hml, hown, hts⟩ (c_W_twice l D cI cJ cZ r g 0 H.size) (va_cwS 2 hts gW_divide_W_twice_56 rfl rfl rfl (by decide +kernel) ⟨Nat.le_of_ble_eq_true rfl, Nat.le_of_ble_eq_true rfl⟩) (rw_preS (hP.sub [2] rfl) hK (hD.sub [2] (by decide) rfl)) rfl rfl hl.1 rfl (lv_room (Nat.le_of_ble_eq_true rfl)) dW_divide_59 ⟨Nat.le_of_ble_eq_true rfl, Nat.le_of_ble_eq_true rfl⟩) hP hD hS hA [2] [0, 1, 3] rfl rfl (by decide) (by decide) (fun v9 w9 H locs hp9 hP hD hS => ?_)
        obtain ⟨rfl, rfl⟩ := hp9
        have hP : va_P D vwCl [(o, .inr (1, [.ref d, .ref r, .ref q, .long kn])), (d, .inl (cJ, 8, .inr (.inl f))), (q, .inl (cJ, 8, .inr (.inl h))), (r, .inl (cJ, 8, .inr (.inl (m_tw g 0))))] H := hP
        have hD : va_D A [(o, .inr (1, [.ref d, .ref r, .ref q, .long kn])), (d, .inl (cJ, 8, .inr (.inl f))), (q, .inl (cJ, 8, .inr (.inl h))), (r, .inl (cJ, 8, .inr (.inl (m_tw g 0))))] := hD
        refine W.eq (g2 := F0 m 62 ls []) rfl ?_
        refine lv_aload_n hx hb dW_divide_62 rfl (lv_at hl 0 rfl) ?_
        refine ro_ki (va_runV (As := []) (rest := []) ⟨hx, hb, hml, hown, hts⟩ (c_W_restHolds l D cI cJ cZ o d r q kn f (m_tw g 0)) (cwV 0 hts gW_divide_W_restHoldsDivisor_59 rfl rfl rfl (by decide +kernel) ⟨Nat.le_of_ble_eq_true rfl, Nat.le_of_ble_eq_true rfl⟩) (ro_preV (hP.sub [0, 1, 3] rfl) hK (va_recv hK hP (ci := 1) (q0 := 0) rfl rfl)) rfl rfl hl.1 rfl (lv_room (Nat.le_of_ble_eq_true rfl)) dW_divide_63 ⟨Nat.le_of_ble_eq_true rfl, Nat.le_of_ble_eq_true rfl⟩) ?_
        refine lv_istore_n (lv' := [(3, .int (m_hold (m_tw g 0) f 8 0)), (0, .ref o), (2, .int (nI i))]) hx hb dW_divide_66 rfl hl (by decide) rfl (fun ls hl => ?_)
        refine lv_iload_n hx hb dW_divide_67 rfl (lv_at hl 0 rfl) ?_
        refine lv_if_eq (tgt := 75) hx hb dW_divide_68 (by decide) (fun c_68 => ?_) (fun c_68 => ?_)
        · skip
          refine lv_aload_n hx hb dW_divide_75 rfl (lv_at hl 1 rfl) ?_
          refine va_get (D := D) (ci := 1) (v := .ref q) (C := RW) (T := TW) (N := 4) hx hb hts iW_divide_W hown hK hP 0 rfl rfl 2 (by decide) (hts (.fieldLink RW 18 "TreeDesk$Worth" "quotient" "[J") (by decide +kernel)) (fun _ h9 => h9) rfl dW_divide_76 ?_
          refine lv_iload_n hx hb dW_divide_79 rfl (lv_at hl 0 rfl) ?_
          refine lv_if_eq (tgt := 87) hx hb dW_divide_80 (by decide) (fun c_80 => ?_) (fun c_80 => ?_)
          · skip
            refine lv_lconst (v := 0) hx hb dW_divide_87 (by decide) ?_
            refine rw_k (wc := [(q, .inl (cJ, 8, .inr (.inl h)))]) (wr := [(o, .inr (1, [.ref d, .ref r, .ref q, .long kn])), (d, .inl (cJ, 8, .inr (.inl f))), (r, .inl (cJ, 8, .inr (.inl (m_tw g 0))))]) (va_runS (As := [.ref q, .long 0]) (rest := []) ⟨hx, hb, hml, hown, hts⟩ (c_W_twice l D cI cJ cZ q h 0 H.size) (va_cwS 2 hts gW_divide_W_twice_56 rfl rfl rfl (by decide +kernel) ⟨Nat.le_of_ble_eq_true rfl, Nat.le_of_ble_eq_true rfl⟩) (rw_preS (hP.sub [2] rfl) hK (hD.sub [2] (by decide) rfl)) rfl rfl hl.1 rfl (lv_room (Nat.le_of_ble_eq_true rfl)) dW_divide_88 ⟨Nat.le_of_ble_eq_true rfl, Nat.le_of_ble_eq_true rfl⟩) hP hD hS hA [2] [0, 1, 3] rfl rfl (by decide) (by decide) (fun v9 w9 H locs hp9 hP hD hS => ?_)
            obtain ⟨rfl, rfl⟩ := hp9
            have hP : va_P D vwCl [(o, .inr (1, [.ref d, .ref r, .ref q, .long kn])), (d, .inl (cJ, 8, .inr (.inl f))), (r, .inl (cJ, 8, .inr (.inl (m_tw g 0)))), (q, .inl (cJ, 8, .inr (.inl (m_tw h 0))))] H := hP
            have hD : va_D A [(o, .inr (1, [.ref d, .ref r, .ref q, .long kn])), (d, .inl (cJ, 8, .inr (.inl f))), (r, .inl (cJ, 8, .inr (.inl (m_tw g 0)))), (q, .inl (cJ, 8, .inr (.inl (m_tw h 0))))] := hD
            refine W.eq (g2 := F0 m 91 ls []) rfl ?_
            refine lv_iinc (v := nI (i + 1)) (lv' := [(2, .int (nI (i + 1))), (3, .int (m_hold (m_tw g 0) f 8 0)), (0, .ref o)]) hx hb dW_divide_91 hl (k := 2) rfl (nI_add _ 1) (by decide) rfl (fun ls hl => ?_)
            refine lv_goto (tgt := 47) hx hb dW_divide_94 (by decide) ?_
            exact ih_47 n (i + 1) (m_tw g 0) (m_tw h 0) (by omega) (by omega) (by rw [← hg, m_dvL, if_pos c_68]) _ _ (hP.sub [0, 1, 2, 3] rfl) (hD.sub [0, 1, 2, 3] (by decide) rfl) hS ls (lv_sub hl [2, 0] rfl)
          · skip
            exact absurd c_68 c_80
        · skip
          refine lv_aload_n hx hb dW_divide_71 rfl (lv_at hl 1 rfl) ?_
          refine rw_k (wc := [(o, .inr (1, [.ref d, .ref r, .ref q, .long kn])), (d, .inl (cJ, 8, .inr (.inl f))), (r, .inl (cJ, 8, .inr (.inl (m_tw g 0))))]) (wr := [(q, .inl (cJ, 8, .inr (.inl h)))]) (va_runV (As := []) (rest := []) ⟨hx, hb, hml, hown, hts⟩ (c_W_subtract l D cI cJ cZ o d r q kn f (m_tw g 0) H.size) (cwV 0 hts gW_divide_W_subtractDivisor_63 rfl rfl rfl (by decide +kernel) ⟨Nat.le_of_ble_eq_true rfl, Nat.le_of_ble_eq_true rfl⟩) (rw_preV (hP.sub [0, 1, 3] rfl) hK (hD.sub [0, 1, 3] (by decide) rfl) (va_recv hK hP (ci := 1) (q0 := 0) rfl rfl)) rfl rfl hl.1 rfl (lv_room (Nat.le_of_ble_eq_true rfl)) dW_divide_72 ⟨Nat.le_of_ble_eq_true rfl, Nat.le_of_ble_eq_true rfl⟩) hP hD hS hA [0, 1, 3] [2] rfl rfl (by decide) (by decide) (fun v9 w9 H locs hp9 hP hD hS => ?_)
          obtain ⟨rfl, rfl⟩ := hp9
          have hP : va_P D vwCl [(q, .inl (cJ, 8, .inr (.inl h))), (o, .inr (1, [.ref d, .ref r, .ref q, .long kn])), (d, .inl (cJ, 8, .inr (.inl f))), (r, .inl (cJ, 8, .inr (.inl (m_sub (m_tw g 0) f))))] H := hP
          have hD : va_D A [(q, .inl (cJ, 8, .inr (.inl h))), (o, .inr (1, [.ref d, .ref r, .ref q, .long kn])), (d, .inl (cJ, 8, .inr (.inl f))), (r, .inl (cJ, 8, .inr (.inl (m_sub (m_tw g 0) f))))] := hD
          refine W.eq (g2 := F0 m 75 ls []) rfl ?_
          refine lv_aload_n hx hb dW_divide_75 rfl (lv_at hl 1 rfl) ?_
          refine va_get (D := D) (ci := 1) (v := .ref q) (C := RW) (T := TW) (N := 4) hx hb hts iW_divide_W hown hK hP 1 rfl rfl 2 (by decide) (hts (.fieldLink RW 18 "TreeDesk$Worth" "quotient" "[J") (by decide +kernel)) (fun _ h9 => h9) rfl dW_divide_76 ?_
          refine lv_iload_n hx hb dW_divide_79 rfl (lv_at hl 0 rfl) ?_
          refine lv_if_eq (tgt := 87) hx hb dW_divide_80 (by decide) (fun c_80 => ?_) (fun c_80 => ?_)
          · skip
            exact absurd c_80 c_68
          · skip
            refine lv_lconst (v := 1) hx hb dW_divide_83 (by decide) ?_
            refine lv_goto (tgt := 88) hx hb dW_divide_84 (by decide) ?_
            refine rw_k (wc := [(q, .inl (cJ, 8, .inr (.inl h)))]) (wr := [(o, .inr (1, [.ref d, .ref r, .ref q, .long kn])), (d, .inl (cJ, 8, .inr (.inl f))), (r, .inl (cJ, 8, .inr (.inl (m_sub (m_tw g 0) f))))]) (va_runS (As := [.ref q, .long 1]) (rest := []) ⟨hx, hb, hml, hown, hts⟩ (c_W_twice l D cI cJ cZ q h 1 H.size) (va_cwS 2 hts gW_divide_W_twice_56 rfl rfl rfl (by decide +kernel) ⟨Nat.le_of_ble_eq_true rfl, Nat.le_of_ble_eq_true rfl⟩) (rw_preS (hP.sub [0] rfl) hK (hD.sub [0] (by decide) rfl)) rfl rfl hl.1 rfl (lv_room (Nat.le_of_ble_eq_true rfl)) dW_divide_88 ⟨Nat.le_of_ble_eq_true rfl, Nat.le_of_ble_eq_true rfl⟩) hP hD hS hA [0] [1, 2, 3] rfl rfl (by decide) (by decide) (fun v9 w9 H locs hp9 hP hD hS => ?_)
            obtain ⟨rfl, rfl⟩ := hp9
            have hP : va_P D vwCl [(o, .inr (1, [.ref d, .ref r, .ref q, .long kn])), (d, .inl (cJ, 8, .inr (.inl f))), (r, .inl (cJ, 8, .inr (.inl (m_sub (m_tw g 0) f)))), (q, .inl (cJ, 8, .inr (.inl (m_tw h 1))))] H := hP
            have hD : va_D A [(o, .inr (1, [.ref d, .ref r, .ref q, .long kn])), (d, .inl (cJ, 8, .inr (.inl f))), (r, .inl (cJ, 8, .inr (.inl (m_sub (m_tw g 0) f)))), (q, .inl (cJ, 8, .inr (.inl (m_tw h 1))))] := hD
            refine W.eq (g2 := F0 m 91 ls []) rfl ?_
            refine lv_iinc (v := nI (i + 1)) (lv' := [(2, .int (nI (i + 1))), (3, .int (m_hold (m_tw g 0) f 8 0)), (0, .ref o)]) hx hb dW_divide_91 hl (k := 2) rfl (nI_add _ 1) (by decide) rfl (fun ls hl => ?_)
            refine lv_goto (tgt := 47) hx hb dW_divide_94 (by decide) ?_
            exact ih_47 n (i + 1) (m_sub (m_tw g 0) f) (m_tw h 1) (by omega) (by omega) (by rw [← hg, m_dvL, if_neg c_68]) _ _ (hP.sub [0, 1, 2, 3] rfl) (hD.sub [0, 1, 2, 3] (by decide) rfl) hS ls (lv_sub hl [2, 0] rfl)
  exact lp_47 257 (256 - (Ld - 2)) (Ld - 2) (vp_updL (m_fill g0 8 0) (7 - ((Ld - 2) / 32)) (j_shl 1 (nI ((Ld - 2) % 32)))) (m_fill h0 8 0) (by omega) (by omega) rfl _ _ (hP.sub [0, 1, 2, 3] rfl) (hD.sub [0, 1, 2, 3] (by decide) rfl) hS ls (lv_sub hl [2, 0] rfl)

abbrev rm_c_W_ofBits_new : Room := { frames := 5, cells := 0, slots := 0, locals := 108 }
set_option maxRecDepth 100000 in
set_option maxHeartbeats 4000000 in
theorem c_W_ofBits_new (l : Launch) (D : va_G) (cI cJ cZ : ClassId) (o : Nat) (d : Nat) (r : Nat) (q : Nat) (kn : Int64) (f : Nat → Int64) (g0 : Nat → Int64) (h0 : Nat → Int64) (b : Int64) (Ld : Nat) (hb9 : ¬ b = kn) (hLd : m_dlen (m_set b f) 8 0 = nI Ld) (hL2 : 2 ≤ Ld) (hL6 : Ld ≤ 256) : rw_C l yW_ofBits wW_ofBits rm_c_W_ofBits_new D vwCl (gT cI cJ cZ) [.ref o, .long b] [(o, .inr (1, [.ref d, .ref r, .ref q, .long kn])), (d, .inl (cJ, 8, .inr (.inl f))), (r, .inl (cJ, 8, .inr (.inl g0))), (q, .inl (cJ, 8, .inr (.inl h0)))] (fun v9 w9 => v9 = some (.ref q) ∧ w9 = [(o, .inr (1, [.ref d, .ref r, .ref q, .long b])), (d, .inl (cJ, 8, .inr (.inl (m_set b f)))), (r, .inl (cJ, 8, .inr (.inl ((m_dv (m_set b f) g0 h0 (Ld - 2)).1)))), (q, .inl (cJ, 8, .inr (.inl ((m_dv (m_set b f) g0 h0 (Ld - 2)).2))))]) 0 0 := by
  refine rw_of (cc := cW_ofBits) (maxL := 3) (ret := some (.array .long)) (by decide) rfl (Nat.le_of_ble_eq_true rfl) ?_
  intro p e s m args below meth c Q A ls hx hb hr hml hown hts hlocks hin hK hP hD hA hl hQ
  have hS : va_S A s.heap s.heap [] := va_S.rf
  have hl : lv_has ls 3 [(0, .ref o), (1, .long b)] := hl
  have hown : s.vm.findClass RW = some m.cls := hown
  obtain ⟨H, hHe⟩ : ∃ H : Heap, H = s.heap := ⟨_, rfl⟩
  rw [← hHe] at hP
  have hS : va_S A s.heap H [] := by rw [hHe]; exact va_S.rf
  suffices h9 : W p l e rm_c_W_ofBits_new s m args below meth c H [] 0 0 Q (F0 m 0 ls []) by rw [hHe] at h9; exact h9
  clear hHe
  refine lv_lload_n hx hb dW_ofBits_0 rfl (lv_at hl 1 rfl) ?_
  refine lv_aload_n hx hb dW_ofBits_1 rfl (lv_at hl 0 rfl) ?_
  refine va_get (D := D) (ci := 1) (v := .long kn) (C := RW) (T := TW) (N := 4) hx hb hts iW_ofBits_W hown hK hP 0 rfl rfl 3 (by decide) (hts (.fieldLink RW 23 "TreeDesk$Worth" "known" "J") (by decide +kernel)) (fun _ h9 => h9) rfl dW_ofBits_2 ?_
  refine lc_eq (tgt := 23) hx hb dW_ofBits_5 dW_ofBits_6 (by decide) (fun c_6 => ?_) (fun c_6 => ?_)
  · skip
    exact absurd c_6 hb9
  · skip
    refine lv_aload_n hx hb dW_ofBits_9 rfl (lv_at hl 0 rfl) ?_
    refine lv_lload_n hx hb dW_ofBits_10 rfl (lv_at hl 1 rfl) ?_
    refine rw_k (wc := [(o, .inr (1, [.ref d, .ref r, .ref q, .long kn])), (d, .inl (cJ, 8, .inr (.inl f)))]) (wr := [(r, .inl (cJ, 8, .inr (.inl g0))), (q, .inl (cJ, 8, .inr (.inl h0)))]) (va_runV (As := [.long b]) (rest := []) ⟨hx, hb, hml, hown, hts⟩ (c_W_setDivisor l D cI cJ cZ o d r q kn f b H.size) (cwV 1 hts gW_ofBits_W_setDivisor_27 rfl rfl rfl (by decide +kernel) ⟨Nat.le_of_ble_eq_true rfl, Nat.le_of_ble_eq_true rfl⟩) (rw_preV (hP.sub [0, 1] rfl) hK (hD.sub [0, 1] (by decide) rfl) (va_recv hK hP (ci := 1) (q0 := 0) rfl rfl)) rfl rfl hl.1 rfl (lv_room (Nat.le_of_ble_eq_true rfl)) dW_ofBits_11 ⟨Nat.le_of_ble_eq_true rfl, Nat.le_of_ble_eq_true rfl⟩) hP hD hS hA [0, 1] [2, 3] rfl rfl (by decide) (by decide) (fun v9 w9 H locs hp9 hP hD hS => ?_)
    obtain ⟨rfl, rfl⟩ := hp9
    have hP : va_P D vwCl [(r, .inl (cJ, 8, .inr (.inl g0))), (q, .inl (cJ, 8, .inr (.inl h0))), (o, .inr (1, [.ref d, .ref r, .ref q, .long kn])), (d, .inl (cJ, 8, .inr (.inl (m_set b f))))] H := hP
    have hD : va_D A [(r, .inl (cJ, 8, .inr (.inl g0))), (q, .inl (cJ, 8, .inr (.inl h0))), (o, .inr (1, [.ref d, .ref r, .ref q, .long kn])), (d, .inl (cJ, 8, .inr (.inl (m_set b f))))] := hD
    refine W.eq (g2 := F0 m 14 ls []) rfl ?_
    refine lv_aload_n hx hb dW_ofBits_14 rfl (lv_at hl 0 rfl) ?_
    refine rw_k (wc := [(o, .inr (1, [.ref d, .ref r, .ref q, .long kn])), (d, .inl (cJ, 8, .inr (.inl (m_set b f)))), (r, .inl (cJ, 8, .inr (.inl g0))), (q, .inl (cJ, 8, .inr (.inl h0)))]) (wr := []) (va_runV (As := []) (rest := []) ⟨hx, hb, hml, hown, hts⟩ (c_W_divide l D cI cJ cZ o d r q kn (m_set b f) g0 h0 Ld hLd hL2 hL6 H.size) (cwV 0 hts gW_ofBits_W_divide_31 rfl rfl rfl (by decide +kernel) ⟨Nat.le_of_ble_eq_true rfl, Nat.le_of_ble_eq_true rfl⟩) (rw_preV (hP.sub [2, 3, 0, 1] rfl) hK (hD.sub [2, 3, 0, 1] (by decide) rfl) (va_recv hK hP (ci := 1) (q0 := 2) rfl rfl)) rfl rfl hl.1 rfl (lv_room (Nat.le_of_ble_eq_true rfl)) dW_ofBits_15 ⟨Nat.le_of_ble_eq_true rfl, Nat.le_of_ble_eq_true rfl⟩) hP hD hS hA [2, 3, 0, 1] [] rfl rfl (by decide) (by decide) (fun v9 w9 H locs hp9 hP hD hS => ?_)
    obtain ⟨rfl, rfl⟩ := hp9
    have hP : va_P D vwCl [(o, .inr (1, [.ref d, .ref r, .ref q, .long kn])), (d, .inl (cJ, 8, .inr (.inl (m_set b f)))), (r, .inl (cJ, 8, .inr (.inl ((m_dv (m_set b f) g0 h0 (Ld - 2)).1)))), (q, .inl (cJ, 8, .inr (.inl ((m_dv (m_set b f) g0 h0 (Ld - 2)).2))))] H := hP
    have hD : va_D A [(o, .inr (1, [.ref d, .ref r, .ref q, .long kn])), (d, .inl (cJ, 8, .inr (.inl (m_set b f)))), (r, .inl (cJ, 8, .inr (.inl ((m_dv (m_set b f) g0 h0 (Ld - 2)).1)))), (q, .inl (cJ, 8, .inr (.inl ((m_dv (m_set b f) g0 h0 (Ld - 2)).2))))] := hD
    refine W.eq (g2 := F0 m 18 ls []) rfl ?_
    refine lv_aload_n hx hb dW_ofBits_18 rfl (lv_at hl 0 rfl) ?_
    refine lv_lload_n hx hb dW_ofBits_19 rfl (lv_at hl 1 rfl) ?_
    refine va_put (D := D) (ci := 1) (v := .long b) (ty := .long) (C := RW) (T := TW) (N := 4) hx hb hts iW_ofBits_W tyW tyW_ok nmW hown hK hP hD hS 0 rfl rfl 3 (by decide) (hts (.fieldLink RW 23 "TreeDesk$Worth" "known" "J") (by decide +kernel)) (fun _ h9 => h9) rfl (by decide +kernel) rfl rfl (Nat.le_of_ble_eq_true rfl) dW_ofBits_20 (fun H locs hP hD hS => ?_)
    have hP : va_P D vwCl [(o, .inr (1, [.ref d, .ref r, .ref q, .long b])), (d, .inl (cJ, 8, .inr (.inl (m_set b f)))), (r, .inl (cJ, 8, .inr (.inl ((m_dv (m_set b f) g0 h0 (Ld - 2)).1)))), (q, .inl (cJ, 8, .inr (.inl ((m_dv (m_set b f) g0 h0 (Ld - 2)).2))))] H := hP
    have hD : va_D A [(o, .inr (1, [.ref d, .ref r, .ref q, .long b])), (d, .inl (cJ, 8, .inr (.inl (m_set b f)))), (r, .inl (cJ, 8, .inr (.inl ((m_dv (m_set b f) g0 h0 (Ld - 2)).1)))), (q, .inl (cJ, 8, .inr (.inl ((m_dv (m_set b f) g0 h0 (Ld - 2)).2))))] := hD
    refine lv_aload_n hx hb dW_ofBits_23 rfl (lv_at hl 0 rfl) ?_
    refine va_get (D := D) (ci := 1) (v := .ref q) (C := RW) (T := TW) (N := 4) hx hb hts iW_ofBits_W hown hK hP 0 rfl rfl 2 (by decide) (hts (.fieldLink RW 18 "TreeDesk$Worth" "quotient" "[J") (by decide +kernel)) (fun _ h9 => h9) rfl dW_ofBits_24 ?_
    exact rw_aret (w := [(o, .inr (1, [.ref d, .ref r, .ref q, .long b])), (d, .inl (cJ, 8, .inr (.inl (m_set b f)))), (r, .inl (cJ, 8, .inr (.inl ((m_dv (m_set b f) g0 h0 (Ld - 2)).1)))), (q, .inl (cJ, 8, .inr (.inl ((m_dv (m_set b f) g0 h0 (Ld - 2)).2))))]) hQ hx hb hr (Or.inr ⟨_, rfl⟩) hlocks dW_ofBits_27 (hP.sub [0, 1, 2, 3] rfl) (hD.sub [0, 1, 2, 3] (by decide) rfl) hS ⟨rfl, rfl⟩

abbrev rm_c_W_ofBits_old : Room := { frames := 0, cells := 0, slots := 0, locals := 0 }
set_option maxRecDepth 100000 in
set_option maxHeartbeats 4000000 in
theorem c_W_ofBits_old (l : Launch) (D : va_G) (cI cJ cZ : ClassId) (o : Nat) (d : Nat) (r : Nat) (q : Nat) (kn : Int64) (f : Nat → Int64) (g0 : Nat → Int64) (h0 : Nat → Int64)  : rw_C l yW_ofBits wW_ofBits rm_c_W_ofBits_old D vwCl (gT cI cJ cZ) [.ref o, .long kn] [(o, .inr (1, [.ref d, .ref r, .ref q, .long kn])), (d, .inl (cJ, 8, .inr (.inl f))), (r, .inl (cJ, 8, .inr (.inl g0))), (q, .inl (cJ, 8, .inr (.inl h0)))] (fun v9 w9 => v9 = some (.ref q) ∧ w9 = [(o, .inr (1, [.ref d, .ref r, .ref q, .long kn])), (d, .inl (cJ, 8, .inr (.inl f))), (r, .inl (cJ, 8, .inr (.inl g0))), (q, .inl (cJ, 8, .inr (.inl h0)))]) 0 0 := by
  refine rw_of (cc := cW_ofBits) (maxL := 3) (ret := some (.array .long)) (by decide) rfl (Nat.le_of_ble_eq_true rfl) ?_
  intro p e s m args below meth c Q A ls hx hb hr hml hown hts hlocks hin hK hP hD hA hl hQ
  have hS : va_S A s.heap s.heap [] := va_S.rf
  have hl : lv_has ls 3 [(0, .ref o), (1, .long kn)] := hl
  have hown : s.vm.findClass RW = some m.cls := hown
  obtain ⟨H, hHe⟩ : ∃ H : Heap, H = s.heap := ⟨_, rfl⟩
  rw [← hHe] at hP
  have hS : va_S A s.heap H [] := by rw [hHe]; exact va_S.rf
  suffices h9 : W p l e rm_c_W_ofBits_old s m args below meth c H [] 0 0 Q (F0 m 0 ls []) by rw [hHe] at h9; exact h9
  clear hHe
  refine lv_lload_n hx hb dW_ofBits_0 rfl (lv_at hl 1 rfl) ?_
  refine lv_aload_n hx hb dW_ofBits_1 rfl (lv_at hl 0 rfl) ?_
  refine va_get (D := D) (ci := 1) (v := .long kn) (C := RW) (T := TW) (N := 4) hx hb hts iW_ofBits_W hown hK hP 0 rfl rfl 3 (by decide) (hts (.fieldLink RW 23 "TreeDesk$Worth" "known" "J") (by decide +kernel)) (fun _ h9 => h9) rfl dW_ofBits_2 ?_
  refine lc_eq (tgt := 23) hx hb dW_ofBits_5 dW_ofBits_6 (by decide) (fun c_6 => ?_) (fun c_6 => ?_)
  · skip
    refine lv_aload_n hx hb dW_ofBits_23 rfl (lv_at hl 0 rfl) ?_
    refine va_get (D := D) (ci := 1) (v := .ref q) (C := RW) (T := TW) (N := 4) hx hb hts iW_ofBits_W hown hK hP 0 rfl rfl 2 (by decide) (hts (.fieldLink RW 18 "TreeDesk$Worth" "quotient" "[J") (by decide +kernel)) (fun _ h9 => h9) rfl dW_ofBits_24 ?_
    exact rw_aret (w := [(o, .inr (1, [.ref d, .ref r, .ref q, .long kn])), (d, .inl (cJ, 8, .inr (.inl f))), (r, .inl (cJ, 8, .inr (.inl g0))), (q, .inl (cJ, 8, .inr (.inl h0)))]) hQ hx hb hr (Or.inr ⟨_, rfl⟩) hlocks dW_ofBits_27 (hP.sub [0, 1, 2, 3] rfl) (hD.sub [0, 1, 2, 3] (by decide) rfl) hS ⟨rfl, rfl⟩
  · skip
    exact absurd rfl c_6
end
section
abbrev rm_c_isBlock_ok : Room := { frames := 0, cells := 0, slots := 0, locals := 0 }
set_option maxRecDepth 100000 in
set_option maxHeartbeats 4000000 in
theorem c_isBlock_ok (l : Launch) (D : va_G) (cI cJ cZ : ClassId) (o : Nat) (rm : Nat) (n : Nat) (bs : Nat) (aP : Nat) (aH : Nat) (aC : Nat) (aT : Nat) (aB : Nat) (aZ : Nat) (aW : Nat) (aR : Nat) (oR : Nat) (oW : Nat) (j : Nat) (hn9 : n ≤ 300) (hj : j < n) : ro_C l yT_isBlock wT_isBlock rm_c_isBlock_ok D vwCl (gT cI cJ cZ) [.ref o, .int (nI j)] [(o, .inr (2, [.int (nI rm), .int (nI n), .int (nI bs), .ref aP, .ref aH, .ref aC, .ref aT, .ref aB, .ref aZ, .ref aW, .ref aR, .ref oR, .ref oW]))] (some (.int (nI 1))) := by
  refine ro_of (cc := cT_isBlock) (maxL := 2) (ret := some .boolean) (by decide) rfl (Nat.le_of_ble_eq_true rfl) ?_
  intro p e s m args below meth c Q ls hx hb hr hml hown hts hlocks hK hP hl hQ
  have hl : lv_has ls 2 [(0, .ref o), (1, .int (nI j))] := hl
  have hown : s.vm.findClass RT = some m.cls := hown
  refine lv_iload_n hx hb dT_isBlock_0 rfl (lv_at hl 1 rfl) ?_
  refine lv_if_lt (tgt := 16) hx hb dT_isBlock_1 (by decide) (fun c_1 => ?_) (fun c_1 => ?_)
  · skip
    rw [← nI_0] at c_1
    have c_1 : j < 0 := n_lt c_1 (by omega) (by omega)
    omega
  · skip
    rw [← nI_0] at c_1
    have c_1 : 0 ≤ j := n_nlt c_1 (by omega) (by omega)
    refine lv_iload_n hx hb dT_isBlock_4 rfl (lv_at hl 1 rfl) ?_
    refine lv_aload_n hx hb dT_isBlock_5 rfl (lv_at hl 0 rfl) ?_
    refine va_get (D := D) (ci := 2) (v := .int (nI n)) (C := RT) (T := TT) (N := 13) hx hb hts iT_isBlock_T hown hK hP 0 rfl rfl 1 (by decide) (hts (.fieldLink RT 70 "TreeDesk" "count" "I") (by decide +kernel)) (fun _ h9 => h9) rfl dT_isBlock_6 ?_
    refine lv_icmp_ge (tgt := 16) hx hb dT_isBlock_9 (by decide) (fun c_9 => ?_) (fun c_9 => ?_)
    · skip
      have c_9 : n ≤ j := n_le c_9 (by omega) (by omega)
      omega
    · skip
      have c_9 : j < n := n_nle c_9 (by omega) (by omega)
      refine lv_iconst (v := nI 1) hx hb dT_isBlock_12 (by decide) ?_
      refine lv_goto (tgt := 17) hx hb dT_isBlock_13 (by decide) ?_
      exact ro_zret hQ hx hb hr hlocks dT_isBlock_17 rfl rfl

abbrev rm_c_isBlock_no : Room := { frames := 0, cells := 0, slots := 0, locals := 0 }
set_option maxRecDepth 100000 in
set_option maxHeartbeats 4000000 in
theorem c_isBlock_no (l : Launch) (D : va_G) (cI cJ cZ : ClassId) (o : Nat) (rm : Nat) (n : Nat) (bs : Nat) (aP : Nat) (aH : Nat) (aC : Nat) (aT : Nat) (aB : Nat) (aZ : Nat) (aW : Nat) (aR : Nat) (oR : Nat) (oW : Nat) (x : Int32) (hx9 : ¬ (0 ≤ x ∧ x < nI n)) : ro_C l yT_isBlock wT_isBlock rm_c_isBlock_no D vwCl (gT cI cJ cZ) [.ref o, .int x] [(o, .inr (2, [.int (nI rm), .int (nI n), .int (nI bs), .ref aP, .ref aH, .ref aC, .ref aT, .ref aB, .ref aZ, .ref aW, .ref aR, .ref oR, .ref oW]))] (some (.int (nI 0))) := by
  refine ro_of (cc := cT_isBlock) (maxL := 2) (ret := some .boolean) (by decide) rfl (Nat.le_of_ble_eq_true rfl) ?_
  intro p e s m args below meth c Q ls hx hb hr hml hown hts hlocks hK hP hl hQ
  have hl : lv_has ls 2 [(0, .ref o), (1, .int x)] := hl
  have hown : s.vm.findClass RT = some m.cls := hown
  refine lv_iload_n hx hb dT_isBlock_0 rfl (lv_at hl 1 rfl) ?_
  refine lv_if_lt (tgt := 16) hx hb dT_isBlock_1 (by decide) (fun c_1 => ?_) (fun c_1 => ?_)
  · skip
    refine lv_iconst (v := nI 0) hx hb dT_isBlock_16 (by decide) ?_
    exact ro_zret hQ hx hb hr hlocks dT_isBlock_17 rfl rfl
  · skip
    refine lv_iload_n hx hb dT_isBlock_4 rfl (lv_at hl 1 rfl) ?_
    refine lv_aload_n hx hb dT_isBlock_5 rfl (lv_at hl 0 rfl) ?_
    refine va_get (D := D) (ci := 2) (v := .int (nI n)) (C := RT) (T := TT) (N := 13) hx hb hts iT_isBlock_T hown hK hP 0 rfl rfl 1 (by decide) (hts (.fieldLink RT 70 "TreeDesk" "count" "I") (by decide +kernel)) (fun _ h9 => h9) rfl dT_isBlock_6 ?_
    refine lv_icmp_ge (tgt := 16) hx hb dT_isBlock_9 (by decide) (fun c_9 => ?_) (fun c_9 => ?_)
    · skip
      refine lv_iconst (v := nI 0) hx hb dT_isBlock_16 (by decide) ?_
      exact ro_zret hQ hx hb hr hlocks dT_isBlock_17 rfl rfl
    · skip
      exact absurd ⟨Int32.not_lt.mp c_1, Int32.not_le.mp c_9⟩ hx9

abbrev rm_c_tip : Room := { frames := 0, cells := 0, slots := 0, locals := 0 }
set_option maxRecDepth 100000 in
set_option maxHeartbeats 4000000 in
theorem c_tip (l : Launch) (D : va_G) (cI cJ cZ : ClassId) (o : Nat) (rm : Nat) (n : Nat) (bs : Nat) (aP : Nat) (aH : Nat) (aC : Nat) (aT : Nat) (aB : Nat) (aZ : Nat) (aW : Nat) (aR : Nat) (oR : Nat) (oW : Nat)  : ro_C l yT_tip wT_tip rm_c_tip D vwCl (gT cI cJ cZ) [.ref o] [(o, .inr (2, [.int (nI rm), .int (nI n), .int (nI bs), .ref aP, .ref aH, .ref aC, .ref aT, .ref aB, .ref aZ, .ref aW, .ref aR, .ref oR, .ref oW]))] (some (.int (nI bs))) := by
  refine ro_of (cc := cT_tip) (maxL := 1) (ret := some .int) (by decide) rfl (Nat.le_of_ble_eq_true rfl) ?_
  intro p e s m args below meth c Q ls hx hb hr hml hown hts hlocks hK hP hl hQ
  have hl : lv_has ls 1 [(0, .ref o)] := hl
  have hown : s.vm.findClass RT = some m.cls := hown
  refine lv_aload_n hx hb dT_tip_0 rfl (lv_at hl 0 rfl) ?_
  refine va_get (D := D) (ci := 2) (v := .int (nI bs)) (C := RT) (T := TT) (N := 13) hx hb hts iT_tip_T hown hK hP 0 rfl rfl 2 (by decide) (hts (.fieldLink RT 73 "TreeDesk" "best" "I") (by decide +kernel)) (fun _ h9 => h9) rfl dT_tip_1 ?_
  exact ro_iret hQ hx hb hr hlocks dT_tip_4 rfl

abbrev rm_c_size : Room := { frames := 0, cells := 0, slots := 0, locals := 0 }
set_option maxRecDepth 100000 in
set_option maxHeartbeats 4000000 in
theorem c_size (l : Launch) (D : va_G) (cI cJ cZ : ClassId) (o : Nat) (rm : Nat) (n : Nat) (bs : Nat) (aP : Nat) (aH : Nat) (aC : Nat) (aT : Nat) (aB : Nat) (aZ : Nat) (aW : Nat) (aR : Nat) (oR : Nat) (oW : Nat)  : ro_C l yT_size wT_size rm_c_size D vwCl (gT cI cJ cZ) [.ref o] [(o, .inr (2, [.int (nI rm), .int (nI n), .int (nI bs), .ref aP, .ref aH, .ref aC, .ref aT, .ref aB, .ref aZ, .ref aW, .ref aR, .ref oR, .ref oW]))] (some (.int (nI n))) := by
  refine ro_of (cc := cT_size) (maxL := 1) (ret := some .int) (by decide) rfl (Nat.le_of_ble_eq_true rfl) ?_
  intro p e s m args below meth c Q ls hx hb hr hml hown hts hlocks hK hP hl hQ
  have hl : lv_has ls 1 [(0, .ref o)] := hl
  have hown : s.vm.findClass RT = some m.cls := hown
  refine lv_aload_n hx hb dT_size_0 rfl (lv_at hl 0 rfl) ?_
  refine va_get (D := D) (ci := 2) (v := .int (nI n)) (C := RT) (T := TT) (N := 13) hx hb hts iT_size_T hown hK hP 0 rfl rfl 1 (by decide) (hts (.fieldLink RT 70 "TreeDesk" "count" "I") (by decide +kernel)) (fun _ h9 => h9) rfl dT_size_1 ?_
  exact ro_iret hQ hx hb hr hlocks dT_size_4 rfl

abbrev rm_c_compareWorks : Room := { frames := 0, cells := 0, slots := 0, locals := 0 }
set_option maxRecDepth 100000 in
set_option maxHeartbeats 4000000 in
theorem c_compareWorks (l : Launch) (D : va_G) (cI cJ cZ : ClassId) (o : Nat) (rm : Nat) (n : Nat) (bs : Nat) (aP : Nat) (aH : Nat) (aC : Nat) (aT : Nat) (aB : Nat) (aZ : Nat) (aW : Nat) (aR : Nat) (oR : Nat) (oW : Nat) (Wk : Nat → Int64) (x : Nat) (y : Nat) (hr3 : rm ≤ 300) (hx9 : x < rm) (hy9 : y < rm) : ro_C l yT_compareWorks wT_compareWorks rm_c_compareWorks D vwCl (gT cI cJ cZ) [.ref o, .int (nI x), .int (nI y)] [(o, .inr (2, [.int (nI rm), .int (nI n), .int (nI bs), .ref aP, .ref aH, .ref aC, .ref aT, .ref aB, .ref aZ, .ref aW, .ref aR, .ref oR, .ref oW])), (aW, .inl (cJ, rm * 8, .inr (.inl Wk)))] (some (.int (m_cmp Wk x y 8 0))) := by
  refine ro_of (cc := cT_compareWorks) (maxL := 8) (ret := some .int) (by decide) rfl (Nat.le_of_ble_eq_true rfl) ?_
  intro p e s m args below meth c Q ls hx hb hr hml hown hts hlocks hK hP hl hQ
  have hl : lv_has ls 8 [(0, .ref o), (1, .int (nI x)), (2, .int (nI y))] := hl
  have hown : s.vm.findClass RT = some m.cls := hown
  refine lv_iconst (v := nI 0) hx hb dT_compareWorks_0 (by decide) ?_
  refine lv_istore_n (lv' := [(3, .int (nI 0)), (0, .ref o), (1, .int (nI x)), (2, .int (nI y))]) hx hb dT_compareWorks_1 rfl hl (by decide) rfl (fun ls hl => ?_)
  have lp_2 : ∀ (n_2 : Nat) (d i : Nat), (d < n_2) → (i + d = 8) → (m_cmp Wk x y d i = m_cmp Wk x y 8 0) → ∀ (ls : Array Slot), lv_has ls 8 [(0, .ref o), (1, .int (nI x)), (2, .int (nI y)), (3, .int (nI i))] → W p l e rm_c_compareWorks s m args below meth c s.heap [] 0 0 Q (F0 m 2 ls []) := by
    intro n_2
    induction n_2 with
    | zero => intro d i hn hd hg ls hl; exact absurd hn (by omega)
    | succ n_2 ih_2 =>
      intro d i hn hd hg ls hl
      refine lv_iload_n hx hb dT_compareWorks_2 rfl (lv_at hl 3 rfl) ?_
      refine lv_bipush (v := nI 8) hx hb dT_compareWorks_3 (by decide) ?_
      refine lv_icmp_ge (tgt := 62) hx hb dT_compareWorks_5 (by decide) (fun c_5 => ?_) (fun c_5 => ?_)
      · skip
        have c_5 : 8 ≤ i := n_le c_5 (by omega) (by omega)
        have hd0 : d = 0 := by omega
        subst hd0
        refine lv_iconst (v := nI 0) hx hb dT_compareWorks_62 (by decide) ?_
        exact ro_iret hQ hx hb hr hlocks dT_compareWorks_63 (by rw [← hg]; rfl)
      · skip
        have c_5 : i < 8 := n_nle c_5 (by omega) (by omega)
        obtain ⟨d, rfl⟩ : ∃ d' : Nat, d = d' + 1 := ⟨d - 1, by omega⟩
        refine lv_aload_n hx hb dT_compareWorks_8 rfl (lv_at hl 0 rfl) ?_
        refine va_get (D := D) (ci := 2) (v := .ref aW) (C := RT) (T := TT) (N := 13) hx hb hts iT_compareWorks_T hown hK hP 0 rfl rfl 9 (by decide) (hts (.fieldLink RT 36 "TreeDesk" "works" "[J") (by decide +kernel)) (fun _ h9 => h9) rfl dT_compareWorks_9 ?_
        refine lv_iload_n hx hb dT_compareWorks_12 rfl (lv_at hl 1 rfl) ?_
        refine lv_bipush (v := nI 8) hx hb dT_compareWorks_13 (by decide) ?_
        refine lv_imul hx hb dT_compareWorks_15 ?_
        refine tp_i (y := nI (x * 8)) (pk_mul _ _) ?_
        refine lv_iload_n hx hb dT_compareWorks_16 rfl (lv_at hl 3 rfl) ?_
        refine lv_iadd hx hb dT_compareWorks_17 ?_
        refine tp_i (y := nI ((x * 8) + i)) (nI_add _ _) ?_
        refine ar_lld (j := (x * 8) + i) hx hb hK hP 1 1 rfl rfl dT_compareWorks_18 (by omega) (by omega) ?_
        refine lv_lstore (lv' := [(4, .long (Wk ((x * 8) + i))), (0, .ref o), (1, .int (nI x)), (2, .int (nI y)), (3, .int (nI i))]) hx hb dT_compareWorks_19 hl (by decide) rfl (fun ls hl => ?_)
        refine lv_aload_n hx hb dT_compareWorks_21 rfl (lv_at hl 1 rfl) ?_
        refine va_get (D := D) (ci := 2) (v := .ref aW) (C := RT) (T := TT) (N := 13) hx hb hts iT_compareWorks_T hown hK hP 0 rfl rfl 9 (by decide) (hts (.fieldLink RT 36 "TreeDesk" "works" "[J") (by decide +kernel)) (fun _ h9 => h9) rfl dT_compareWorks_22 ?_
        refine lv_iload_n hx hb dT_compareWorks_25 rfl (lv_at hl 3 rfl) ?_
        refine lv_bipush (v := nI 8) hx hb dT_compareWorks_26 (by decide) ?_
        refine lv_imul hx hb dT_compareWorks_28 ?_
        refine tp_i (y := nI (y * 8)) (pk_mul _ _) ?_
        refine lv_iload_n hx hb dT_compareWorks_29 rfl (lv_at hl 4 rfl) ?_
        refine lv_iadd hx hb dT_compareWorks_30 ?_
        refine tp_i (y := nI ((y * 8) + i)) (nI_add _ _) ?_
        refine ar_lld (j := (y * 8) + i) hx hb hK hP 1 1 rfl rfl dT_compareWorks_31 (by omega) (by omega) ?_
        refine lv_lstore (lv' := [(6, .long (Wk ((y * 8) + i))), (4, .long (Wk ((x * 8) + i))), (0, .ref o), (1, .int (nI x)), (2, .int (nI y)), (3, .int (nI i))]) hx hb dT_compareWorks_32 hl (by decide) rfl (fun ls hl => ?_)
        refine lv_lload hx hb dT_compareWorks_34 (lv_at hl 1 rfl) ?_
        refine lv_lload hx hb dT_compareWorks_36 (lv_at hl 0 rfl) ?_
        refine lc_eq (tgt := 56) hx hb dT_compareWorks_38 dT_compareWorks_39 (by decide) (fun c_39 => ?_) (fun c_39 => ?_)
        · skip
          refine lv_iinc (v := nI (i + 1)) (lv' := [(3, .int (nI (i + 1))), (6, .long (Wk ((y * 8) + i))), (4, .long (Wk ((x * 8) + i))), (0, .ref o), (1, .int (nI x)), (2, .int (nI y))]) hx hb dT_compareWorks_56 hl (k := 5) rfl (nI_add _ 1) (by decide) rfl (fun ls hl => ?_)
          refine lv_goto (tgt := 2) hx hb dT_compareWorks_59 (by decide) ?_
          exact ih_2 d (i + 1) (by omega) (by omega) (by rw [← hg, m_cmp, if_pos c_39]) ls (lv_sub hl [3, 4, 5, 0] rfl)
        · skip
          refine lv_lload hx hb dT_compareWorks_42 (lv_at hl 1 rfl) ?_
          refine lv_lload hx hb dT_compareWorks_44 (lv_at hl 0 rfl) ?_
          refine lc_ge (tgt := 54) hx hb dT_compareWorks_46 dT_compareWorks_47 (by decide) (fun c_47 => ?_) (fun c_47 => ?_)
          · skip
            refine lv_iconst (v := nI 1) hx hb dT_compareWorks_54 (by decide) ?_
            exact ro_iret hQ hx hb hr hlocks dT_compareWorks_55 (by rw [← hg, m_cmp, if_neg c_39, if_pos c_47])
          · skip
            refine lv_iconst (v := (-1)) hx hb dT_compareWorks_50 (by decide) ?_
            refine lv_goto (tgt := 55) hx hb dT_compareWorks_51 (by decide) ?_
            exact ro_iret hQ hx hb hr hlocks dT_compareWorks_55 (by rw [← hg, m_cmp, if_neg c_39, if_neg c_47])
  exact lp_2 9 8 0 (by omega) (by omega) rfl ls (lv_sub hl [1, 2, 3, 0] rfl)

abbrev rm_c_compare_ok : Room := { frames := 1, cells := 0, slots := 0, locals := 27 }
set_option maxRecDepth 100000 in
set_option maxHeartbeats 4000000 in
theorem c_compare_ok (l : Launch) (D : va_G) (cI cJ cZ : ClassId) (o : Nat) (rm : Nat) (n : Nat) (bs : Nat) (aP : Nat) (aH : Nat) (aC : Nat) (aT : Nat) (aB : Nat) (aZ : Nat) (aW : Nat) (aR : Nat) (oR : Nat) (oW : Nat) (Wk : Nat → Int64) (x : Nat) (y : Nat) (hn3 : n ≤ rm) (hr3 : rm ≤ 300) (hx9 : x < n) (hy9 : y < n) : ro_C l yT_compare wT_compare rm_c_compare_ok D vwCl (gT cI cJ cZ) [.ref o, .int (nI x), .int (nI y)] [(o, .inr (2, [.int (nI rm), .int (nI n), .int (nI bs), .ref aP, .ref aH, .ref aC, .ref aT, .ref aB, .ref aZ, .ref aW, .ref aR, .ref oR, .ref oW])), (aW, .inl (cJ, rm * 8, .inr (.inl Wk)))] (some (.int (m_cmp Wk x y 8 0))) := by
  refine ro_of (cc := cT_compare) (maxL := 3) (ret := some .int) (by decide) rfl (Nat.le_of_ble_eq_true rfl) ?_
  intro p e s m args below meth c Q ls hx hb hr hml hown hts hlocks hK hP hl hQ
  have hl : lv_has ls 3 [(0, .ref o), (1, .int (nI x)), (2, .int (nI y))] := hl
  have hown : s.vm.findClass RT = some m.cls := hown
  refine lv_aload_n hx hb dT_compare_0 rfl (lv_at hl 0 rfl) ?_
  refine lv_iload_n hx hb dT_compare_1 rfl (lv_at hl 1 rfl) ?_
  refine ro_ki (va_runV (As := [.int (nI x)]) (rest := []) ⟨hx, hb, hml, hown, hts⟩ (c_isBlock_ok l D cI cJ cZ o rm n bs aP aH aC aT aB aZ aW aR oR oW x (by omega) (by omega)) (cwV 1 hts gT_compare_T_isBlock_76 rfl rfl rfl (by decide +kernel) ⟨Nat.le_of_ble_eq_true rfl, Nat.le_of_ble_eq_true rfl⟩) (ro_preV (hP.sub [0] rfl) hK (va_recv hK hP (ci := 2) (q0 := 0) rfl rfl)) rfl rfl hl.1 rfl (lv_room (Nat.le_of_ble_eq_true rfl)) dT_compare_2 ⟨Nat.le_of_ble_eq_true rfl, Nat.le_of_ble_eq_true rfl⟩) ?_
  refine lv_if_eq (tgt := 16) hx hb dT_compare_5 (by decide) (fun c_5 => ?_) (fun c_5 => ?_)
  · skip
    rw [← nI_0] at c_5
    have c_5 : 1 = 0 := n_eq c_5 (by omega) (by omega)
    omega
  · skip
    rw [← nI_0] at c_5
    have c_5 : ¬ 1 = 0 := n_ne c_5
    refine lv_aload_n hx hb dT_compare_8 rfl (lv_at hl 0 rfl) ?_
    refine lv_iload_n hx hb dT_compare_9 rfl (lv_at hl 2 rfl) ?_
    refine ro_ki (va_runV (As := [.int (nI y)]) (rest := []) ⟨hx, hb, hml, hown, hts⟩ (c_isBlock_ok l D cI cJ cZ o rm n bs aP aH aC aT aB aZ aW aR oR oW y (by omega) (by omega)) (cwV 1 hts gT_compare_T_isBlock_76 rfl rfl rfl (by decide +kernel) ⟨Nat.le_of_ble_eq_true rfl, Nat.le_of_ble_eq_true rfl⟩) (ro_preV (hP.sub [0] rfl) hK (va_recv hK hP (ci := 2) (q0 := 0) rfl rfl)) rfl rfl hl.1 rfl (lv_room (Nat.le_of_ble_eq_true rfl)) dT_compare_10 ⟨Nat.le_of_ble_eq_true rfl, Nat.le_of_ble_eq_true rfl⟩) ?_
    refine lv_if_ne (tgt := 19) hx hb dT_compare_13 (by decide) (fun c_13 => ?_) (fun c_13 => ?_)
    · skip
      rw [← nI_0] at c_13
      have c_13 : ¬ 1 = 0 := n_ne c_13
      refine lv_aload_n hx hb dT_compare_19 rfl (lv_at hl 0 rfl) ?_
      refine lv_iload_n hx hb dT_compare_20 rfl (lv_at hl 1 rfl) ?_
      refine lv_iload_n hx hb dT_compare_21 rfl (lv_at hl 2 rfl) ?_
      refine ro_ki (va_runV (As := [.int (nI x), .int (nI y)]) (rest := []) ⟨hx, hb, hml, hown, hts⟩ (c_compareWorks l D cI cJ cZ o rm n bs aP aH aC aT aB aZ aW aR oR oW Wk x y (by omega) (by omega) (by omega)) (cwV 2 hts gT_compare_T_compareWorks_116 rfl rfl rfl (by decide +kernel) ⟨Nat.le_of_ble_eq_true rfl, Nat.le_of_ble_eq_true rfl⟩) (ro_preV (hP.sub [0, 1] rfl) hK (va_recv hK hP (ci := 2) (q0 := 0) rfl rfl)) rfl rfl hl.1 rfl (lv_room (Nat.le_of_ble_eq_true rfl)) dT_compare_22 ⟨Nat.le_of_ble_eq_true rfl, Nat.le_of_ble_eq_true rfl⟩) ?_
      exact ro_iret hQ hx hb hr hlocks dT_compare_25 rfl
    · skip
      rw [← nI_0] at c_13
      have c_13 : 1 = 0 := n_eq c_13 (by omega) (by omega)
      omega

abbrev rm_c_compare_noa : Room := { frames := 1, cells := 0, slots := 0, locals := 21 }
set_option maxRecDepth 100000 in
set_option maxHeartbeats 4000000 in
theorem c_compare_noa (l : Launch) (D : va_G) (cI cJ cZ : ClassId) (o : Nat) (rm : Nat) (n : Nat) (bs : Nat) (aP : Nat) (aH : Nat) (aC : Nat) (aT : Nat) (aB : Nat) (aZ : Nat) (aW : Nat) (aR : Nat) (oR : Nat) (oW : Nat) (x : Int32) (y : Int32) (hx9 : ¬ (0 ≤ x ∧ x < nI n)) : ro_C l yT_compare wT_compare rm_c_compare_noa D vwCl (gT cI cJ cZ) [.ref o, .int x, .int y] [(o, .inr (2, [.int (nI rm), .int (nI n), .int (nI bs), .ref aP, .ref aH, .ref aC, .ref aT, .ref aB, .ref aZ, .ref aW, .ref aR, .ref oR, .ref oW]))] (some (.int (-2))) := by
  refine ro_of (cc := cT_compare) (maxL := 3) (ret := some .int) (by decide) rfl (Nat.le_of_ble_eq_true rfl) ?_
  intro p e s m args below meth c Q ls hx hb hr hml hown hts hlocks hK hP hl hQ
  have hl : lv_has ls 3 [(0, .ref o), (1, .int x), (2, .int y)] := hl
  have hown : s.vm.findClass RT = some m.cls := hown
  refine lv_aload_n hx hb dT_compare_0 rfl (lv_at hl 0 rfl) ?_
  refine lv_iload_n hx hb dT_compare_1 rfl (lv_at hl 1 rfl) ?_
  refine ro_ki (va_runV (As := [.int x]) (rest := []) ⟨hx, hb, hml, hown, hts⟩ (c_isBlock_no l D cI cJ cZ o rm n bs aP aH aC aT aB aZ aW aR oR oW x hx9) (cwV 1 hts gT_compare_T_isBlock_76 rfl rfl rfl (by decide +kernel) ⟨Nat.le_of_ble_eq_true rfl, Nat.le_of_ble_eq_true rfl⟩) (ro_preV (hP.sub [0] rfl) hK (va_recv hK hP (ci := 2) (q0 := 0) rfl rfl)) rfl rfl hl.1 rfl (lv_room (Nat.le_of_ble_eq_true rfl)) dT_compare_2 ⟨Nat.le_of_ble_eq_true rfl, Nat.le_of_ble_eq_true rfl⟩) ?_
  refine lv_if_eq (tgt := 16) hx hb dT_compare_5 (by decide) (fun c_5 => ?_) (fun c_5 => ?_)
  · skip
    rw [← nI_0] at c_5
    have c_5 : 0 = 0 := n_eq c_5 (by omega) (by omega)
    refine lv_bipush (v := (-2)) hx hb dT_compare_16 (by decide) ?_
    exact ro_iret hQ hx hb hr hlocks dT_compare_18 rfl
  · skip
    rw [← nI_0] at c_5
    have c_5 : ¬ 0 = 0 := n_ne c_5
    omega

abbrev rm_c_compare_nob : Room := { frames := 1, cells := 0, slots := 0, locals := 21 }
set_option maxRecDepth 100000 in
set_option maxHeartbeats 4000000 in
theorem c_compare_nob (l : Launch) (D : va_G) (cI cJ cZ : ClassId) (o : Nat) (rm : Nat) (n : Nat) (bs : Nat) (aP : Nat) (aH : Nat) (aC : Nat) (aT : Nat) (aB : Nat) (aZ : Nat) (aW : Nat) (aR : Nat) (oR : Nat) (oW : Nat) (x : Nat) (y : Int32) (hn9 : n ≤ 300) (hx8 : x < n) (hx9 : ¬ (0 ≤ y ∧ y < nI n)) : ro_C l yT_compare wT_compare rm_c_compare_nob D vwCl (gT cI cJ cZ) [.ref o, .int (nI x), .int y] [(o, .inr (2, [.int (nI rm), .int (nI n), .int (nI bs), .ref aP, .ref aH, .ref aC, .ref aT, .ref aB, .ref aZ, .ref aW, .ref aR, .ref oR, .ref oW]))] (some (.int (-2))) := by
  refine ro_of (cc := cT_compare) (maxL := 3) (ret := some .int) (by decide) rfl (Nat.le_of_ble_eq_true rfl) ?_
  intro p e s m args below meth c Q ls hx hb hr hml hown hts hlocks hK hP hl hQ
  have hl : lv_has ls 3 [(0, .ref o), (1, .int (nI x)), (2, .int y)] := hl
  have hown : s.vm.findClass RT = some m.cls := hown
  refine lv_aload_n hx hb dT_compare_0 rfl (lv_at hl 0 rfl) ?_
  refine lv_iload_n hx hb dT_compare_1 rfl (lv_at hl 1 rfl) ?_
  refine ro_ki (va_runV (As := [.int (nI x)]) (rest := []) ⟨hx, hb, hml, hown, hts⟩ (c_isBlock_ok l D cI cJ cZ o rm n bs aP aH aC aT aB aZ aW aR oR oW x (by omega) (by omega)) (cwV 1 hts gT_compare_T_isBlock_76 rfl rfl rfl (by decide +kernel) ⟨Nat.le_of_ble_eq_true rfl, Nat.le_of_ble_eq_true rfl⟩) (ro_preV (hP.sub [0] rfl) hK (va_recv hK hP (ci := 2) (q0 := 0) rfl rfl)) rfl rfl hl.1 rfl (lv_room (Nat.le_of_ble_eq_true rfl)) dT_compare_2 ⟨Nat.le_of_ble_eq_true rfl, Nat.le_of_ble_eq_true rfl⟩) ?_
  refine lv_if_eq (tgt := 16) hx hb dT_compare_5 (by decide) (fun c_5 => ?_) (fun c_5 => ?_)
  · skip
    rw [← nI_0] at c_5
    have c_5 : 1 = 0 := n_eq c_5 (by omega) (by omega)
    omega
  · skip
    rw [← nI_0] at c_5
    have c_5 : ¬ 1 = 0 := n_ne c_5
    refine lv_aload_n hx hb dT_compare_8 rfl (lv_at hl 0 rfl) ?_
    refine lv_iload_n hx hb dT_compare_9 rfl (lv_at hl 2 rfl) ?_
    refine ro_ki (va_runV (As := [.int y]) (rest := []) ⟨hx, hb, hml, hown, hts⟩ (c_isBlock_no l D cI cJ cZ o rm n bs aP aH aC aT aB aZ aW aR oR oW y hx9) (cwV 1 hts gT_compare_T_isBlock_76 rfl rfl rfl (by decide +kernel) ⟨Nat.le_of_ble_eq_true rfl, Nat.le_of_ble_eq_true rfl⟩) (ro_preV (hP.sub [0] rfl) hK (va_recv hK hP (ci := 2) (q0 := 0) rfl rfl)) rfl rfl hl.1 rfl (lv_room (Nat.le_of_ble_eq_true rfl)) dT_compare_10 ⟨Nat.le_of_ble_eq_true rfl, Nat.le_of_ble_eq_true rfl⟩) ?_
    refine lv_if_ne (tgt := 19) hx hb dT_compare_13 (by decide) (fun c_13 => ?_) (fun c_13 => ?_)
    · skip
      rw [← nI_0] at c_13
      have c_13 : ¬ 0 = 0 := n_ne c_13
      omega
    · skip
      rw [← nI_0] at c_13
      have c_13 : 0 = 0 := n_eq c_13 (by omega) (by omega)
      refine lv_bipush (v := (-2)) hx hb dT_compare_16 (by decide) ?_
      exact ro_iret hQ hx hb hr hlocks dT_compare_18 rfl

abbrev rm_c_work_ok : Room := { frames := 1, cells := 0, slots := 0, locals := 23 }
set_option maxRecDepth 100000 in
set_option maxHeartbeats 4000000 in
theorem c_work_ok (l : Launch) (D : va_G) (cI cJ cZ : ClassId) (o : Nat) (rm : Nat) (n : Nat) (bs : Nat) (aP : Nat) (aH : Nat) (aC : Nat) (aT : Nat) (aB : Nat) (aZ : Nat) (aW : Nat) (aR : Nat) (oR : Nat) (oW : Nat) (Wk : Nat → Int64) (j : Nat) (k : Nat) (hn3 : n ≤ rm) (hr3 : rm ≤ 300) (hj : j < n) (hk : k < 4) : ro_C l yT_work wT_work rm_c_work_ok D vwCl (gT cI cJ cZ) [.ref o, .int (nI j), .int (nI k)] [(o, .inr (2, [.int (nI rm), .int (nI n), .int (nI bs), .ref aP, .ref aH, .ref aC, .ref aT, .ref aB, .ref aZ, .ref aW, .ref aR, .ref oR, .ref oW])), (aW, .inl (cJ, rm * 8, .inr (.inl Wk)))] (some (.long (m_join (Wk (j * 8 + 2 * k)) (Wk (j * 8 + 2 * k + 1))))) := by
  refine ro_of (cc := cT_work) (maxL := 4) (ret := some .long) (by decide) rfl (Nat.le_of_ble_eq_true rfl) ?_
  intro p e s m args below meth c Q ls hx hb hr hml hown hts hlocks hK hP hl hQ
  have hl : lv_has ls 4 [(0, .ref o), (1, .int (nI j)), (2, .int (nI k))] := hl
  have hown : s.vm.findClass RT = some m.cls := hown
  refine lv_aload_n hx hb dT_work_0 rfl (lv_at hl 0 rfl) ?_
  refine lv_iload_n hx hb dT_work_1 rfl (lv_at hl 1 rfl) ?_
  refine ro_ki (va_runV (As := [.int (nI j)]) (rest := []) ⟨hx, hb, hml, hown, hts⟩ (c_isBlock_ok l D cI cJ cZ o rm n bs aP aH aC aT aB aZ aW aR oR oW j (by omega) (by omega)) (cwV 1 hts gT_work_T_isBlock_76 rfl rfl rfl (by decide +kernel) ⟨Nat.le_of_ble_eq_true rfl, Nat.le_of_ble_eq_true rfl⟩) (ro_preV (hP.sub [0] rfl) hK (va_recv hK hP (ci := 2) (q0 := 0) rfl rfl)) rfl rfl hl.1 rfl (lv_room (Nat.le_of_ble_eq_true rfl)) dT_work_2 ⟨Nat.le_of_ble_eq_true rfl, Nat.le_of_ble_eq_true rfl⟩) ?_
  refine lv_if_eq (tgt := 17) hx hb dT_work_5 (by decide) (fun c_5 => ?_) (fun c_5 => ?_)
  · skip
    rw [← nI_0] at c_5
    have c_5 : 1 = 0 := n_eq c_5 (by omega) (by omega)
    omega
  · skip
    rw [← nI_0] at c_5
    have c_5 : ¬ 1 = 0 := n_ne c_5
    refine lv_iload_n hx hb dT_work_8 rfl (lv_at hl 2 rfl) ?_
    refine lv_if_lt (tgt := 17) hx hb dT_work_9 (by decide) (fun c_9 => ?_) (fun c_9 => ?_)
    · skip
      rw [← nI_0] at c_9
      have c_9 : k < 0 := n_lt c_9 (by omega) (by omega)
      omega
    · skip
      rw [← nI_0] at c_9
      have c_9 : 0 ≤ k := n_nlt c_9 (by omega) (by omega)
      refine lv_iload_n hx hb dT_work_12 rfl (lv_at hl 2 rfl) ?_
      refine lv_iconst (v := nI 4) hx hb dT_work_13 (by decide) ?_
      refine lv_icmp_lt (tgt := 19) hx hb dT_work_14 (by decide) (fun c_14 => ?_) (fun c_14 => ?_)
      · skip
        have c_14 : k < 4 := n_lt c_14 (by omega) (by omega)
        refine lv_iload_n hx hb dT_work_19 rfl (lv_at hl 1 rfl) ?_
        refine lv_bipush (v := nI 8) hx hb dT_work_20 (by decide) ?_
        refine lv_imul hx hb dT_work_22 ?_
        refine tp_i (y := nI (j * 8)) (pk_mul _ _) ?_
        refine lv_iconst (v := nI 2) hx hb dT_work_23 (by decide) ?_
        refine lv_iload_n hx hb dT_work_24 rfl (lv_at hl 2 rfl) ?_
        refine lv_imul hx hb dT_work_25 ?_
        refine tp_i (y := nI (2 * k)) (pk_mul _ _) ?_
        refine lv_iadd hx hb dT_work_26 ?_
        refine tp_i (y := nI ((j * 8) + (2 * k))) (nI_add _ _) ?_
        refine lv_istore_n (lv' := [(3, .int (nI ((j * 8) + (2 * k)))), (0, .ref o), (1, .int (nI j)), (2, .int (nI k))]) hx hb dT_work_27 rfl hl (by decide) rfl (fun ls hl => ?_)
        refine lv_aload_n hx hb dT_work_28 rfl (lv_at hl 1 rfl) ?_
        refine va_get (D := D) (ci := 2) (v := .ref aW) (C := RT) (T := TT) (N := 13) hx hb hts iT_work_T hown hK hP 0 rfl rfl 9 (by decide) (hts (.fieldLink RT 36 "TreeDesk" "works" "[J") (by decide +kernel)) (fun _ h9 => h9) rfl dT_work_29 ?_
        refine lv_iload_n hx hb dT_work_32 rfl (lv_at hl 0 rfl) ?_
        refine ar_lld (j := (j * 8) + (2 * k)) hx hb hK hP 1 1 rfl rfl dT_work_33 (by omega) (by omega) ?_
        refine lv_aload_n hx hb dT_work_34 rfl (lv_at hl 1 rfl) ?_
        refine va_get (D := D) (ci := 2) (v := .ref aW) (C := RT) (T := TT) (N := 13) hx hb hts iT_work_T hown hK hP 0 rfl rfl 9 (by decide) (hts (.fieldLink RT 36 "TreeDesk" "works" "[J") (by decide +kernel)) (fun _ h9 => h9) rfl dT_work_35 ?_
        refine lv_iload_n hx hb dT_work_38 rfl (lv_at hl 0 rfl) ?_
        refine lv_iconst (v := nI 1) hx hb dT_work_39 (by decide) ?_
        refine lv_iadd hx hb dT_work_40 ?_
        refine tp_i (y := nI (((j * 8) + (2 * k)) + 1)) (nI_add _ _) ?_
        refine ar_lld (j := ((j * 8) + (2 * k)) + 1) hx hb hK hP 1 1 rfl rfl dT_work_41 (by omega) (by omega) ?_
        refine ro_kl (va_runS (As := [.long (Wk ((j * 8) + (2 * k))), .long (Wk (((j * 8) + (2 * k)) + 1))]) (rest := []) ⟨hx, hb, hml, hown, hts⟩ (c_B_join l D cI cJ cZ (Wk ((j * 8) + (2 * k))) (Wk (((j * 8) + (2 * k)) + 1))) (va_cwS 2 hts gT_work_B_join_113 rfl rfl rfl (by decide +kernel) ⟨Nat.le_of_ble_eq_true rfl, Nat.le_of_ble_eq_true rfl⟩) (ro_preS (hP.sub [] rfl) hK) rfl rfl hl.1 rfl (lv_room (Nat.le_of_ble_eq_true rfl)) dT_work_42 ⟨Nat.le_of_ble_eq_true rfl, Nat.le_of_ble_eq_true rfl⟩) ?_
        exact ro_lret hQ hx hb hr hlocks dT_work_45 rfl
      · skip
        have c_14 : 4 ≤ k := n_nlt c_14 (by omega) (by omega)
        omega

abbrev rm_c_work_nob : Room := { frames := 1, cells := 0, slots := 0, locals := 21 }
set_option maxRecDepth 100000 in
set_option maxHeartbeats 4000000 in
theorem c_work_nob (l : Launch) (D : va_G) (cI cJ cZ : ClassId) (o : Nat) (rm : Nat) (n : Nat) (bs : Nat) (aP : Nat) (aH : Nat) (aC : Nat) (aT : Nat) (aB : Nat) (aZ : Nat) (aW : Nat) (aR : Nat) (oR : Nat) (oW : Nat) (x : Int32) (k : Int32) (hx9 : ¬ (0 ≤ x ∧ x < nI n)) : ro_C l yT_work wT_work rm_c_work_nob D vwCl (gT cI cJ cZ) [.ref o, .int x, .int k] [(o, .inr (2, [.int (nI rm), .int (nI n), .int (nI bs), .ref aP, .ref aH, .ref aC, .ref aT, .ref aB, .ref aZ, .ref aW, .ref aR, .ref oR, .ref oW]))] (some (.long 0)) := by
  refine ro_of (cc := cT_work) (maxL := 4) (ret := some .long) (by decide) rfl (Nat.le_of_ble_eq_true rfl) ?_
  intro p e s m args below meth c Q ls hx hb hr hml hown hts hlocks hK hP hl hQ
  have hl : lv_has ls 4 [(0, .ref o), (1, .int x), (2, .int k)] := hl
  have hown : s.vm.findClass RT = some m.cls := hown
  refine lv_aload_n hx hb dT_work_0 rfl (lv_at hl 0 rfl) ?_
  refine lv_iload_n hx hb dT_work_1 rfl (lv_at hl 1 rfl) ?_
  refine ro_ki (va_runV (As := [.int x]) (rest := []) ⟨hx, hb, hml, hown, hts⟩ (c_isBlock_no l D cI cJ cZ o rm n bs aP aH aC aT aB aZ aW aR oR oW x hx9) (cwV 1 hts gT_work_T_isBlock_76 rfl rfl rfl (by decide +kernel) ⟨Nat.le_of_ble_eq_true rfl, Nat.le_of_ble_eq_true rfl⟩) (ro_preV (hP.sub [0] rfl) hK (va_recv hK hP (ci := 2) (q0 := 0) rfl rfl)) rfl rfl hl.1 rfl (lv_room (Nat.le_of_ble_eq_true rfl)) dT_work_2 ⟨Nat.le_of_ble_eq_true rfl, Nat.le_of_ble_eq_true rfl⟩) ?_
  refine lv_if_eq (tgt := 17) hx hb dT_work_5 (by decide) (fun c_5 => ?_) (fun c_5 => ?_)
  · skip
    rw [← nI_0] at c_5
    have c_5 : 0 = 0 := n_eq c_5 (by omega) (by omega)
    refine lv_lconst (v := 0) hx hb dT_work_17 (by decide) ?_
    exact ro_lret hQ hx hb hr hlocks dT_work_18 rfl
  · skip
    rw [← nI_0] at c_5
    have c_5 : ¬ 0 = 0 := n_ne c_5
    omega

abbrev rm_c_work_nok : Room := { frames := 1, cells := 0, slots := 0, locals := 21 }
set_option maxRecDepth 100000 in
set_option maxHeartbeats 4000000 in
theorem c_work_nok (l : Launch) (D : va_G) (cI cJ cZ : ClassId) (o : Nat) (rm : Nat) (n : Nat) (bs : Nat) (aP : Nat) (aH : Nat) (aC : Nat) (aT : Nat) (aB : Nat) (aZ : Nat) (aW : Nat) (aR : Nat) (oR : Nat) (oW : Nat) (j : Nat) (k : Int32) (hn9 : n ≤ 300) (hj : j < n) (hk9 : ¬ (0 ≤ k ∧ k < nI 4)) : ro_C l yT_work wT_work rm_c_work_nok D vwCl (gT cI cJ cZ) [.ref o, .int (nI j), .int k] [(o, .inr (2, [.int (nI rm), .int (nI n), .int (nI bs), .ref aP, .ref aH, .ref aC, .ref aT, .ref aB, .ref aZ, .ref aW, .ref aR, .ref oR, .ref oW]))] (some (.long 0)) := by
  refine ro_of (cc := cT_work) (maxL := 4) (ret := some .long) (by decide) rfl (Nat.le_of_ble_eq_true rfl) ?_
  intro p e s m args below meth c Q ls hx hb hr hml hown hts hlocks hK hP hl hQ
  have hl : lv_has ls 4 [(0, .ref o), (1, .int (nI j)), (2, .int k)] := hl
  have hown : s.vm.findClass RT = some m.cls := hown
  refine lv_aload_n hx hb dT_work_0 rfl (lv_at hl 0 rfl) ?_
  refine lv_iload_n hx hb dT_work_1 rfl (lv_at hl 1 rfl) ?_
  refine ro_ki (va_runV (As := [.int (nI j)]) (rest := []) ⟨hx, hb, hml, hown, hts⟩ (c_isBlock_ok l D cI cJ cZ o rm n bs aP aH aC aT aB aZ aW aR oR oW j (by omega) (by omega)) (cwV 1 hts gT_work_T_isBlock_76 rfl rfl rfl (by decide +kernel) ⟨Nat.le_of_ble_eq_true rfl, Nat.le_of_ble_eq_true rfl⟩) (ro_preV (hP.sub [0] rfl) hK (va_recv hK hP (ci := 2) (q0 := 0) rfl rfl)) rfl rfl hl.1 rfl (lv_room (Nat.le_of_ble_eq_true rfl)) dT_work_2 ⟨Nat.le_of_ble_eq_true rfl, Nat.le_of_ble_eq_true rfl⟩) ?_
  refine lv_if_eq (tgt := 17) hx hb dT_work_5 (by decide) (fun c_5 => ?_) (fun c_5 => ?_)
  · skip
    rw [← nI_0] at c_5
    have c_5 : 1 = 0 := n_eq c_5 (by omega) (by omega)
    omega
  · skip
    rw [← nI_0] at c_5
    have c_5 : ¬ 1 = 0 := n_ne c_5
    refine lv_iload_n hx hb dT_work_8 rfl (lv_at hl 2 rfl) ?_
    refine lv_if_lt (tgt := 17) hx hb dT_work_9 (by decide) (fun c_9 => ?_) (fun c_9 => ?_)
    · skip
      refine lv_lconst (v := 0) hx hb dT_work_17 (by decide) ?_
      exact ro_lret hQ hx hb hr hlocks dT_work_18 rfl
    · skip
      refine lv_iload_n hx hb dT_work_12 rfl (lv_at hl 2 rfl) ?_
      refine lv_iconst (v := nI 4) hx hb dT_work_13 (by decide) ?_
      refine lv_icmp_lt (tgt := 19) hx hb dT_work_14 (by decide) (fun c_14 => ?_) (fun c_14 => ?_)
      · skip
        exact absurd ⟨Int32.not_lt.mp c_9, c_14⟩ hk9
      · skip
        refine lv_lconst (v := 0) hx hb dT_work_17 (by decide) ?_
        exact ro_lret hQ hx hb hr hlocks dT_work_18 rfl

abbrev rm_c_ancestor : Room := { frames := 0, cells := 0, slots := 0, locals := 0 }
set_option maxRecDepth 100000 in
set_option maxHeartbeats 4000000 in
theorem c_ancestor (l : Launch) (D : va_G) (cI cJ cZ : ClassId) (o : Nat) (rm : Nat) (n : Nat) (bs : Nat) (aP : Nat) (aH : Nat) (aC : Nat) (aT : Nat) (aB : Nat) (aZ : Nat) (aW : Nat) (aR : Nat) (oR : Nat) (oW : Nat) (P : Nat → Nat) (Hh : Nat → Nat) (j : Nat) (h : Nat) (hn3 : n ≤ rm) (hr3 : rm ≤ 300) (hj : j < n) (hHj : Hh j < 300) (hh : h ≤ Hh j) (hpar : ∀ x : Nat, 0 < x → x < n → P x < x) : ro_C l yT_ancestor wT_ancestor rm_c_ancestor D vwCl (gT cI cJ cZ) [.ref o, .int (nI j), .int (nI h)] [(o, .inr (2, [.int (nI rm), .int (nI n), .int (nI bs), .ref aP, .ref aH, .ref aC, .ref aT, .ref aB, .ref aZ, .ref aW, .ref aR, .ref oR, .ref oW])), (aP, .inl (cI, rm, .inl (pF P))), (aH, .inl (cI, rm, .inl (nF Hh)))] (some (.int (nI (m_anc P (Hh j - h) j)))) := by
  refine ro_of (cc := cT_ancestor) (maxL := 5) (ret := some .int) (by decide) rfl (Nat.le_of_ble_eq_true rfl) ?_
  intro p e s m args below meth c Q ls hx hb hr hml hown hts hlocks hK hP hl hQ
  have hl : lv_has ls 5 [(0, .ref o), (1, .int (nI j)), (2, .int (nI h))] := hl
  have hown : s.vm.findClass RT = some m.cls := hown
  refine lv_iload_n hx hb dT_ancestor_0 rfl (lv_at hl 1 rfl) ?_
  refine lv_istore_n (lv' := [(3, .int (nI j)), (0, .ref o), (1, .int (nI j)), (2, .int (nI h))]) hx hb dT_ancestor_1 rfl hl (by decide) rfl (fun ls hl => ?_)
  refine lv_aload_n hx hb dT_ancestor_2 rfl (lv_at hl 1 rfl) ?_
  refine va_get (D := D) (ci := 2) (v := .ref aH) (C := RT) (T := TT) (N := 13) hx hb hts iT_ancestor_T hown hK hP 0 rfl rfl 4 (by decide) (hts (.fieldLink RT 17 "TreeDesk" "heights" "[I") (by decide +kernel)) (fun _ h9 => h9) rfl dT_ancestor_3 ?_
  refine lv_iload_n hx hb dT_ancestor_6 rfl (lv_at hl 2 rfl) ?_
  refine ar_ild (j := j) hx hb hK hP 2 0 rfl rfl dT_ancestor_7 (by omega) (by omega) ?_
  refine tp_i (y := nI (Hh j)) rfl ?_
  refine lv_iload_n hx hb dT_ancestor_8 rfl (lv_at hl 3 rfl) ?_
  refine lv_isub hx hb dT_ancestor_9 ?_
  refine tp_i (y := nI ((Hh j) - h)) (pk_sub (by omega)) ?_
  refine lv_istore (lv' := [(4, .int (nI ((Hh j) - h))), (3, .int (nI j)), (0, .ref o), (1, .int (nI j)), (2, .int (nI h))]) hx hb dT_ancestor_10 hl (by decide) rfl (fun ls hl => ?_)
  have lp_12 : ∀ (n_12 : Nat) (d x : Nat), (d < n_12) → (d < 300) → (x < n) → (m_anc P d x = m_anc P (Hh j - h) j) → ∀ (ls : Array Slot), lv_has ls 5 [(0, .ref o), (3, .int (nI x)), (4, .int (nI d))] → W p l e rm_c_ancestor s m args below meth c s.heap [] 0 0 Q (F0 m 12 ls []) := by
    intro n_12
    induction n_12 with
    | zero => intro d x hn hd hx9 hg ls hl; exact absurd hn (by omega)
    | succ n_12 ih_12 =>
      intro d x hn hd hx9 hg ls hl
      refine lv_iload hx hb dT_ancestor_12 (lv_at hl 2 rfl) ?_
      refine lv_if_le (tgt := 34) hx hb dT_ancestor_14 (by decide) (fun c_14 => ?_) (fun c_14 => ?_)
      · skip
        rw [← nI_0] at c_14
        have c_14 : d ≤ 0 := n_le c_14 (by omega) (by omega)
        refine lv_iload_n hx hb dT_ancestor_34 rfl (lv_at hl 1 rfl) ?_
        exact ro_iret hQ hx hb hr hlocks dT_ancestor_35 (by rw [← hg, m_anc_d (by omega)])
      · skip
        rw [← nI_0] at c_14
        have c_14 : 0 < d := n_nle c_14 (by omega) (by omega)
        refine lv_iload_n hx hb dT_ancestor_17 rfl (lv_at hl 1 rfl) ?_
        refine lv_if_le (tgt := 34) hx hb dT_ancestor_18 (by decide) (fun c_18 => ?_) (fun c_18 => ?_)
        · skip
          rw [← nI_0] at c_18
          have c_18 : x ≤ 0 := n_le c_18 (by omega) (by omega)
          refine lv_iload_n hx hb dT_ancestor_34 rfl (lv_at hl 1 rfl) ?_
          exact ro_iret hQ hx hb hr hlocks dT_ancestor_35 (by rw [← hg, m_anc_0 (by omega)])
        · skip
          rw [← nI_0] at c_18
          have c_18 : 0 < x := n_nle c_18 (by omega) (by omega)
          refine lv_aload_n hx hb dT_ancestor_21 rfl (lv_at hl 0 rfl) ?_
          refine va_get (D := D) (ci := 2) (v := .ref aP) (C := RT) (T := TT) (N := 13) hx hb hts iT_ancestor_T hown hK hP 0 rfl rfl 3 (by decide) (hts (.fieldLink RT 13 "TreeDesk" "parents" "[I") (by decide +kernel)) (fun _ h9 => h9) rfl dT_ancestor_22 ?_
          refine lv_iload_n hx hb dT_ancestor_25 rfl (lv_at hl 1 rfl) ?_
          refine ar_ild (j := x) hx hb hK hP 1 0 rfl rfl dT_ancestor_26 (by omega) (by omega) ?_
          refine tp_i (y := nI (P x)) (pF_s (by omega)) ?_
          refine lv_istore_n (lv' := [(3, .int (nI (P x))), (0, .ref o), (4, .int (nI d))]) hx hb dT_ancestor_27 rfl hl (by decide) rfl (fun ls hl => ?_)
          refine lv_iinc (v := nI (d - 1)) (lv' := [(4, .int (nI (d - 1))), (3, .int (nI (P x))), (0, .ref o)]) hx hb dT_ancestor_28 hl (k := 2) rfl (sb_m1 (by omega)) (by decide) rfl (fun ls hl => ?_)
          refine lv_goto (tgt := 12) hx hb dT_ancestor_31 (by decide) ?_
          exact ih_12 (d - 1) (P x) (by omega) (by omega) (by have := hpar x (by omega) hx9; omega) ((m_anc_s (by omega) (by omega)).trans hg) ls (lv_sub hl [2, 1, 0] rfl)
  exact lp_12 301 (Hh j - h) j (by omega) (by omega) (by omega) rfl ls (lv_sub hl [2, 1, 0] rfl)

abbrev rm_c_below_ok : Room := { frames := 1, cells := 0, slots := 0, locals := 24 }
set_option maxRecDepth 100000 in
set_option maxHeartbeats 4000000 in
theorem c_below_ok (l : Launch) (D : va_G) (cI cJ cZ : ClassId) (o : Nat) (rm : Nat) (n : Nat) (bs : Nat) (aP : Nat) (aH : Nat) (aC : Nat) (aT : Nat) (aB : Nat) (aZ : Nat) (aW : Nat) (aR : Nat) (oR : Nat) (oW : Nat) (P : Nat → Nat) (Hh : Nat → Nat) (j : Nat) (h : Nat) (hn3 : n ≤ rm) (hr3 : rm ≤ 300) (hj : j < n) (hHj : Hh j < 300) (hh : h ≤ Hh j) (hpar : ∀ x : Nat, 0 < x → x < n → P x < x) : ro_C l yT_below wT_below rm_c_below_ok D vwCl (gT cI cJ cZ) [.ref o, .int (nI j), .int (nI h)] [(o, .inr (2, [.int (nI rm), .int (nI n), .int (nI bs), .ref aP, .ref aH, .ref aC, .ref aT, .ref aB, .ref aZ, .ref aW, .ref aR, .ref oR, .ref oW])), (aP, .inl (cI, rm, .inl (pF P))), (aH, .inl (cI, rm, .inl (nF Hh)))] (some (.int (nI (m_anc P (Hh j - h) j)))) := by
  refine ro_of (cc := cT_below) (maxL := 3) (ret := some .int) (by decide) rfl (Nat.le_of_ble_eq_true rfl) ?_
  intro p e s m args below meth c Q ls hx hb hr hml hown hts hlocks hK hP hl hQ
  have hl : lv_has ls 3 [(0, .ref o), (1, .int (nI j)), (2, .int (nI h))] := hl
  have hown : s.vm.findClass RT = some m.cls := hown
  refine lv_aload_n hx hb dT_below_0 rfl (lv_at hl 0 rfl) ?_
  refine lv_iload_n hx hb dT_below_1 rfl (lv_at hl 1 rfl) ?_
  refine ro_ki (va_runV (As := [.int (nI j)]) (rest := []) ⟨hx, hb, hml, hown, hts⟩ (c_isBlock_ok l D cI cJ cZ o rm n bs aP aH aC aT aB aZ aW aR oR oW j (by omega) (by omega)) (cwV 1 hts gT_below_T_isBlock_76 rfl rfl rfl (by decide +kernel) ⟨Nat.le_of_ble_eq_true rfl, Nat.le_of_ble_eq_true rfl⟩) (ro_preV (hP.sub [0] rfl) hK (va_recv hK hP (ci := 2) (q0 := 0) rfl rfl)) rfl rfl hl.1 rfl (lv_room (Nat.le_of_ble_eq_true rfl)) dT_below_2 ⟨Nat.le_of_ble_eq_true rfl, Nat.le_of_ble_eq_true rfl⟩) ?_
  refine lv_if_eq (tgt := 22) hx hb dT_below_5 (by decide) (fun c_5 => ?_) (fun c_5 => ?_)
  · skip
    rw [← nI_0] at c_5
    have c_5 : 1 = 0 := n_eq c_5 (by omega) (by omega)
    omega
  · skip
    rw [← nI_0] at c_5
    have c_5 : ¬ 1 = 0 := n_ne c_5
    refine lv_iload_n hx hb dT_below_8 rfl (lv_at hl 2 rfl) ?_
    refine lv_if_lt (tgt := 22) hx hb dT_below_9 (by decide) (fun c_9 => ?_) (fun c_9 => ?_)
    · skip
      rw [← nI_0] at c_9
      have c_9 : h < 0 := n_lt c_9 (by omega) (by omega)
      omega
    · skip
      rw [← nI_0] at c_9
      have c_9 : 0 ≤ h := n_nlt c_9 (by omega) (by omega)
      refine lv_iload_n hx hb dT_below_12 rfl (lv_at hl 2 rfl) ?_
      refine lv_aload_n hx hb dT_below_13 rfl (lv_at hl 0 rfl) ?_
      refine va_get (D := D) (ci := 2) (v := .ref aH) (C := RT) (T := TT) (N := 13) hx hb hts iT_below_T hown hK hP 0 rfl rfl 4 (by decide) (hts (.fieldLink RT 17 "TreeDesk" "heights" "[I") (by decide +kernel)) (fun _ h9 => h9) rfl dT_below_14 ?_
      refine lv_iload_n hx hb dT_below_17 rfl (lv_at hl 1 rfl) ?_
      refine ar_ild (j := j) hx hb hK hP 2 0 rfl rfl dT_below_18 (by omega) (by omega) ?_
      refine tp_i (y := nI (Hh j)) rfl ?_
      refine lv_icmp_le (tgt := 24) hx hb dT_below_19 (by decide) (fun c_19 => ?_) (fun c_19 => ?_)
      · skip
        have c_19 : h ≤ (Hh j) := n_le c_19 (by omega) (by omega)
        refine lv_aload_n hx hb dT_below_24 rfl (lv_at hl 0 rfl) ?_
        refine lv_iload_n hx hb dT_below_25 rfl (lv_at hl 1 rfl) ?_
        refine lv_iload_n hx hb dT_below_26 rfl (lv_at hl 2 rfl) ?_
        refine ro_ki (va_runV (As := [.int (nI j), .int (nI h)]) (rest := []) ⟨hx, hb, hml, hown, hts⟩ (c_ancestor l D cI cJ cZ o rm n bs aP aH aC aT aB aZ aW aR oR oW P Hh j h (by omega) (by omega) (by omega) (by omega) (by omega) hpar) (cwV 2 hts gT_below_T_ancestor_101 rfl rfl rfl (by decide +kernel) ⟨Nat.le_of_ble_eq_true rfl, Nat.le_of_ble_eq_true rfl⟩) (ro_preV (hP.sub [0, 1, 2] rfl) hK (va_recv hK hP (ci := 2) (q0 := 0) rfl rfl)) rfl rfl hl.1 rfl (lv_room (Nat.le_of_ble_eq_true rfl)) dT_below_27 ⟨Nat.le_of_ble_eq_true rfl, Nat.le_of_ble_eq_true rfl⟩) ?_
        exact ro_iret hQ hx hb hr hlocks dT_below_30 rfl
      · skip
        have c_19 : (Hh j) < h := n_nle c_19 (by omega) (by omega)
        omega

abbrev rm_c_below_nob : Room := { frames := 1, cells := 0, slots := 0, locals := 21 }
set_option maxRecDepth 100000 in
set_option maxHeartbeats 4000000 in
theorem c_below_nob (l : Launch) (D : va_G) (cI cJ cZ : ClassId) (o : Nat) (rm : Nat) (n : Nat) (bs : Nat) (aP : Nat) (aH : Nat) (aC : Nat) (aT : Nat) (aB : Nat) (aZ : Nat) (aW : Nat) (aR : Nat) (oR : Nat) (oW : Nat) (x : Int32) (h : Int32) (hx9 : ¬ (0 ≤ x ∧ x < nI n)) : ro_C l yT_below wT_below rm_c_below_nob D vwCl (gT cI cJ cZ) [.ref o, .int x, .int h] [(o, .inr (2, [.int (nI rm), .int (nI n), .int (nI bs), .ref aP, .ref aH, .ref aC, .ref aT, .ref aB, .ref aZ, .ref aW, .ref aR, .ref oR, .ref oW]))] (some (.int (-1))) := by
  refine ro_of (cc := cT_below) (maxL := 3) (ret := some .int) (by decide) rfl (Nat.le_of_ble_eq_true rfl) ?_
  intro p e s m args below meth c Q ls hx hb hr hml hown hts hlocks hK hP hl hQ
  have hl : lv_has ls 3 [(0, .ref o), (1, .int x), (2, .int h)] := hl
  have hown : s.vm.findClass RT = some m.cls := hown
  refine lv_aload_n hx hb dT_below_0 rfl (lv_at hl 0 rfl) ?_
  refine lv_iload_n hx hb dT_below_1 rfl (lv_at hl 1 rfl) ?_
  refine ro_ki (va_runV (As := [.int x]) (rest := []) ⟨hx, hb, hml, hown, hts⟩ (c_isBlock_no l D cI cJ cZ o rm n bs aP aH aC aT aB aZ aW aR oR oW x hx9) (cwV 1 hts gT_below_T_isBlock_76 rfl rfl rfl (by decide +kernel) ⟨Nat.le_of_ble_eq_true rfl, Nat.le_of_ble_eq_true rfl⟩) (ro_preV (hP.sub [0] rfl) hK (va_recv hK hP (ci := 2) (q0 := 0) rfl rfl)) rfl rfl hl.1 rfl (lv_room (Nat.le_of_ble_eq_true rfl)) dT_below_2 ⟨Nat.le_of_ble_eq_true rfl, Nat.le_of_ble_eq_true rfl⟩) ?_
  refine lv_if_eq (tgt := 22) hx hb dT_below_5 (by decide) (fun c_5 => ?_) (fun c_5 => ?_)
  · skip
    rw [← nI_0] at c_5
    have c_5 : 0 = 0 := n_eq c_5 (by omega) (by omega)
    refine lv_iconst (v := (-1)) hx hb dT_below_22 (by decide) ?_
    exact ro_iret hQ hx hb hr hlocks dT_below_23 rfl
  · skip
    rw [← nI_0] at c_5
    have c_5 : ¬ 0 = 0 := n_ne c_5
    omega

abbrev rm_c_below_noh : Room := { frames := 1, cells := 0, slots := 0, locals := 21 }
set_option maxRecDepth 100000 in
set_option maxHeartbeats 4000000 in
theorem c_below_noh (l : Launch) (D : va_G) (cI cJ cZ : ClassId) (o : Nat) (rm : Nat) (n : Nat) (bs : Nat) (aP : Nat) (aH : Nat) (aC : Nat) (aT : Nat) (aB : Nat) (aZ : Nat) (aW : Nat) (aR : Nat) (oR : Nat) (oW : Nat) (Hh : Nat → Nat) (j : Nat) (h : Int32) (hn3 : n ≤ rm) (hr3 : rm ≤ 300) (hj : j < n) (hh9 : ¬ (0 ≤ h ∧ h ≤ nI (Hh j))) : ro_C l yT_below wT_below rm_c_below_noh D vwCl (gT cI cJ cZ) [.ref o, .int (nI j), .int h] [(o, .inr (2, [.int (nI rm), .int (nI n), .int (nI bs), .ref aP, .ref aH, .ref aC, .ref aT, .ref aB, .ref aZ, .ref aW, .ref aR, .ref oR, .ref oW])), (aH, .inl (cI, rm, .inl (nF Hh)))] (some (.int (-1))) := by
  refine ro_of (cc := cT_below) (maxL := 3) (ret := some .int) (by decide) rfl (Nat.le_of_ble_eq_true rfl) ?_
  intro p e s m args below meth c Q ls hx hb hr hml hown hts hlocks hK hP hl hQ
  have hl : lv_has ls 3 [(0, .ref o), (1, .int (nI j)), (2, .int h)] := hl
  have hown : s.vm.findClass RT = some m.cls := hown
  refine lv_aload_n hx hb dT_below_0 rfl (lv_at hl 0 rfl) ?_
  refine lv_iload_n hx hb dT_below_1 rfl (lv_at hl 1 rfl) ?_
  refine ro_ki (va_runV (As := [.int (nI j)]) (rest := []) ⟨hx, hb, hml, hown, hts⟩ (c_isBlock_ok l D cI cJ cZ o rm n bs aP aH aC aT aB aZ aW aR oR oW j (by omega) (by omega)) (cwV 1 hts gT_below_T_isBlock_76 rfl rfl rfl (by decide +kernel) ⟨Nat.le_of_ble_eq_true rfl, Nat.le_of_ble_eq_true rfl⟩) (ro_preV (hP.sub [0] rfl) hK (va_recv hK hP (ci := 2) (q0 := 0) rfl rfl)) rfl rfl hl.1 rfl (lv_room (Nat.le_of_ble_eq_true rfl)) dT_below_2 ⟨Nat.le_of_ble_eq_true rfl, Nat.le_of_ble_eq_true rfl⟩) ?_
  refine lv_if_eq (tgt := 22) hx hb dT_below_5 (by decide) (fun c_5 => ?_) (fun c_5 => ?_)
  · skip
    rw [← nI_0] at c_5
    have c_5 : 1 = 0 := n_eq c_5 (by omega) (by omega)
    omega
  · skip
    rw [← nI_0] at c_5
    have c_5 : ¬ 1 = 0 := n_ne c_5
    refine lv_iload_n hx hb dT_below_8 rfl (lv_at hl 2 rfl) ?_
    refine lv_if_lt (tgt := 22) hx hb dT_below_9 (by decide) (fun c_9 => ?_) (fun c_9 => ?_)
    · skip
      refine lv_iconst (v := (-1)) hx hb dT_below_22 (by decide) ?_
      exact ro_iret hQ hx hb hr hlocks dT_below_23 rfl
    · skip
      refine lv_iload_n hx hb dT_below_12 rfl (lv_at hl 2 rfl) ?_
      refine lv_aload_n hx hb dT_below_13 rfl (lv_at hl 0 rfl) ?_
      refine va_get (D := D) (ci := 2) (v := .ref aH) (C := RT) (T := TT) (N := 13) hx hb hts iT_below_T hown hK hP 0 rfl rfl 4 (by decide) (hts (.fieldLink RT 17 "TreeDesk" "heights" "[I") (by decide +kernel)) (fun _ h9 => h9) rfl dT_below_14 ?_
      refine lv_iload_n hx hb dT_below_17 rfl (lv_at hl 1 rfl) ?_
      refine ar_ild (j := j) hx hb hK hP 1 0 rfl rfl dT_below_18 (by omega) (by omega) ?_
      refine tp_i (y := nI (Hh j)) rfl ?_
      refine lv_icmp_le (tgt := 24) hx hb dT_below_19 (by decide) (fun c_19 => ?_) (fun c_19 => ?_)
      · skip
        exact absurd ⟨Int32.not_lt.mp c_9, c_19⟩ hh9
      · skip
        refine lv_iconst (v := (-1)) hx hb dT_below_22 (by decide) ?_
        exact ro_iret hQ hx hb hr hlocks dT_below_23 rfl

abbrev rm_c_fork_ok : Room := { frames := 1, cells := 0, slots := 0, locals := 21 }
set_option maxRecDepth 100000 in
set_option maxHeartbeats 4000000 in
theorem c_fork_ok (l : Launch) (D : va_G) (cI cJ cZ : ClassId) (o : Nat) (rm : Nat) (n : Nat) (bs : Nat) (aP : Nat) (aH : Nat) (aC : Nat) (aT : Nat) (aB : Nat) (aZ : Nat) (aW : Nat) (aR : Nat) (oR : Nat) (oW : Nat) (P : Nat → Nat) (x : Nat) (y : Nat) (hn3 : n ≤ rm) (hr3 : rm ≤ 300) (hx9 : x < n) (hy9 : y < n) (hpar : ∀ x : Nat, 0 < x → x < n → P x < x) : ro_C l yT_fork wT_fork rm_c_fork_ok D vwCl (gT cI cJ cZ) [.ref o, .int (nI x), .int (nI y)] [(o, .inr (2, [.int (nI rm), .int (nI n), .int (nI bs), .ref aP, .ref aH, .ref aC, .ref aT, .ref aB, .ref aZ, .ref aW, .ref aR, .ref oR, .ref oW])), (aP, .inl (cI, rm, .inl (pF P)))] (some (.int (nI (m_fork P (2 * n) x y)))) := by
  refine ro_of (cc := cT_fork) (maxL := 6) (ret := some .int) (by decide) rfl (Nat.le_of_ble_eq_true rfl) ?_
  intro p e s m args below meth c Q ls hx hb hr hml hown hts hlocks hK hP hl hQ
  have hl : lv_has ls 6 [(0, .ref o), (1, .int (nI x)), (2, .int (nI y))] := hl
  have hown : s.vm.findClass RT = some m.cls := hown
  refine lv_aload_n hx hb dT_fork_0 rfl (lv_at hl 0 rfl) ?_
  refine lv_iload_n hx hb dT_fork_1 rfl (lv_at hl 1 rfl) ?_
  refine ro_ki (va_runV (As := [.int (nI x)]) (rest := []) ⟨hx, hb, hml, hown, hts⟩ (c_isBlock_ok l D cI cJ cZ o rm n bs aP aH aC aT aB aZ aW aR oR oW x (by omega) (by omega)) (cwV 1 hts gT_fork_T_isBlock_76 rfl rfl rfl (by decide +kernel) ⟨Nat.le_of_ble_eq_true rfl, Nat.le_of_ble_eq_true rfl⟩) (ro_preV (hP.sub [0] rfl) hK (va_recv hK hP (ci := 2) (q0 := 0) rfl rfl)) rfl rfl hl.1 rfl (lv_room (Nat.le_of_ble_eq_true rfl)) dT_fork_2 ⟨Nat.le_of_ble_eq_true rfl, Nat.le_of_ble_eq_true rfl⟩) ?_
  refine lv_if_eq (tgt := 16) hx hb dT_fork_5 (by decide) (fun c_5 => ?_) (fun c_5 => ?_)
  · skip
    rw [← nI_0] at c_5
    have c_5 : 1 = 0 := n_eq c_5 (by omega) (by omega)
    omega
  · skip
    rw [← nI_0] at c_5
    have c_5 : ¬ 1 = 0 := n_ne c_5
    refine lv_aload_n hx hb dT_fork_8 rfl (lv_at hl 0 rfl) ?_
    refine lv_iload_n hx hb dT_fork_9 rfl (lv_at hl 2 rfl) ?_
    refine ro_ki (va_runV (As := [.int (nI y)]) (rest := []) ⟨hx, hb, hml, hown, hts⟩ (c_isBlock_ok l D cI cJ cZ o rm n bs aP aH aC aT aB aZ aW aR oR oW y (by omega) (by omega)) (cwV 1 hts gT_fork_T_isBlock_76 rfl rfl rfl (by decide +kernel) ⟨Nat.le_of_ble_eq_true rfl, Nat.le_of_ble_eq_true rfl⟩) (ro_preV (hP.sub [0] rfl) hK (va_recv hK hP (ci := 2) (q0 := 0) rfl rfl)) rfl rfl hl.1 rfl (lv_room (Nat.le_of_ble_eq_true rfl)) dT_fork_10 ⟨Nat.le_of_ble_eq_true rfl, Nat.le_of_ble_eq_true rfl⟩) ?_
    refine lv_if_ne (tgt := 18) hx hb dT_fork_13 (by decide) (fun c_13 => ?_) (fun c_13 => ?_)
    · skip
      rw [← nI_0] at c_13
      have c_13 : ¬ 1 = 0 := n_ne c_13
      refine lv_iload_n hx hb dT_fork_18 rfl (lv_at hl 1 rfl) ?_
      refine lv_istore_n (lv' := [(3, .int (nI x)), (0, .ref o), (1, .int (nI x)), (2, .int (nI y))]) hx hb dT_fork_19 rfl hl (by decide) rfl (fun ls hl => ?_)
      refine lv_iload_n hx hb dT_fork_20 rfl (lv_at hl 3 rfl) ?_
      refine lv_istore (lv' := [(4, .int (nI y)), (3, .int (nI x)), (0, .ref o), (1, .int (nI x)), (2, .int (nI y))]) hx hb dT_fork_21 hl (by decide) rfl (fun ls hl => ?_)
      refine lv_iconst (v := nI 2) hx hb dT_fork_23 (by decide) ?_
      refine lv_aload_n hx hb dT_fork_24 rfl (lv_at hl 2 rfl) ?_
      refine va_get (D := D) (ci := 2) (v := .int (nI n)) (C := RT) (T := TT) (N := 13) hx hb hts iT_fork_T hown hK hP 0 rfl rfl 1 (by decide) (hts (.fieldLink RT 70 "TreeDesk" "count" "I") (by decide +kernel)) (fun _ h9 => h9) rfl dT_fork_25 ?_
      refine lv_imul hx hb dT_fork_28 ?_
      refine tp_i (y := nI (2 * n)) (pk_mul _ _) ?_
      refine lv_istore (lv' := [(5, .int (nI (2 * n))), (4, .int (nI y)), (3, .int (nI x)), (0, .ref o), (1, .int (nI x)), (2, .int (nI y))]) hx hb dT_fork_29 hl (by decide) rfl (fun ls hl => ?_)
      have lp_31 : ∀ (n_31 : Nat) (d u v : Nat), (d < n_31) → (d ≤ 600) → (u < n) → (v < n) → (m_fork P d u v = m_fork P (2 * n) x y) → ∀ (ls : Array Slot), lv_has ls 6 [(0, .ref o), (3, .int (nI u)), (4, .int (nI v)), (5, .int (nI d))] → W p l e rm_c_fork_ok s m args below meth c s.heap [] 0 0 Q (F0 m 31 ls []) := by
        intro n_31
        induction n_31 with
        | zero => intro d u v hn hd hu hv hg ls hl; exact absurd hn (by omega)
        | succ n_31 ih_31 =>
          intro d u v hn hd hu hv hg ls hl
          refine lv_iload hx hb dT_fork_31 (lv_at hl 3 rfl) ?_
          refine lv_if_le (tgt := 73) hx hb dT_fork_33 (by decide) (fun c_33 => ?_) (fun c_33 => ?_)
          · skip
            rw [← nI_0] at c_33
            have c_33 : d ≤ 0 := n_le c_33 (by omega) (by omega)
            refine lv_iload_n hx hb dT_fork_73 rfl (lv_at hl 1 rfl) ?_
            exact ro_iret hQ hx hb hr hlocks dT_fork_74 (by rw [← hg, m_fork_0 (by omega)])
          · skip
            rw [← nI_0] at c_33
            have c_33 : 0 < d := n_nle c_33 (by omega) (by omega)
            refine lv_iload_n hx hb dT_fork_36 rfl (lv_at hl 1 rfl) ?_
            refine lv_iload hx hb dT_fork_37 (lv_at hl 2 rfl) ?_
            refine lv_icmp_eq (tgt := 73) hx hb dT_fork_39 (by decide) (fun c_39 => ?_) (fun c_39 => ?_)
            · skip
              have c_39 : u = v := n_eq c_39 (by omega) (by omega)
              refine lv_iload_n hx hb dT_fork_73 rfl (lv_at hl 1 rfl) ?_
              exact ro_iret hQ hx hb hr hlocks dT_fork_74 (by rw [← hg, m_fork_e c_39])
            · skip
              have c_39 : ¬ u = v := n_ne c_39
              refine lv_iload_n hx hb dT_fork_42 rfl (lv_at hl 1 rfl) ?_
              refine lv_iload hx hb dT_fork_43 (lv_at hl 2 rfl) ?_
              refine lv_icmp_le (tgt := 58) hx hb dT_fork_45 (by decide) (fun c_45 => ?_) (fun c_45 => ?_)
              · skip
                have c_45 : u ≤ v := n_le c_45 (by omega) (by omega)
                refine lv_aload_n hx hb dT_fork_58 rfl (lv_at hl 0 rfl) ?_
                refine va_get (D := D) (ci := 2) (v := .ref aP) (C := RT) (T := TT) (N := 13) hx hb hts iT_fork_T hown hK hP 0 rfl rfl 3 (by decide) (hts (.fieldLink RT 13 "TreeDesk" "parents" "[I") (by decide +kernel)) (fun _ h9 => h9) rfl dT_fork_59 ?_
                refine lv_iload hx hb dT_fork_62 (lv_at hl 2 rfl) ?_
                refine ar_ild (j := v) hx hb hK hP 1 0 rfl rfl dT_fork_64 (by omega) (by omega) ?_
                refine tp_i (y := nI (P v)) (pF_s (by omega)) ?_
                refine lv_istore (lv' := [(4, .int (nI (P v))), (0, .ref o), (3, .int (nI u)), (5, .int (nI d))]) hx hb dT_fork_65 hl (by decide) rfl (fun ls hl => ?_)
                refine lv_iinc (v := nI (d - 1)) (lv' := [(5, .int (nI (d - 1))), (4, .int (nI (P v))), (0, .ref o), (3, .int (nI u))]) hx hb dT_fork_67 hl (k := 3) rfl (sb_m1 (by omega)) (by decide) rfl (fun ls hl => ?_)
                refine lv_goto (tgt := 31) hx hb dT_fork_70 (by decide) ?_
                exact ih_31 (d - 1) u (P v) (by omega) (by omega) hu (by have := hpar v (by omega) hv; omega) ((m_fork_r (by omega) c_45 c_39).trans hg) ls (lv_sub hl [2, 3, 1, 0] rfl)
              · skip
                have c_45 : v < u := n_nle c_45 (by omega) (by omega)
                refine lv_aload_n hx hb dT_fork_48 rfl (lv_at hl 0 rfl) ?_
                refine va_get (D := D) (ci := 2) (v := .ref aP) (C := RT) (T := TT) (N := 13) hx hb hts iT_fork_T hown hK hP 0 rfl rfl 3 (by decide) (hts (.fieldLink RT 13 "TreeDesk" "parents" "[I") (by decide +kernel)) (fun _ h9 => h9) rfl dT_fork_49 ?_
                refine lv_iload_n hx hb dT_fork_52 rfl (lv_at hl 1 rfl) ?_
                refine ar_ild (j := u) hx hb hK hP 1 0 rfl rfl dT_fork_53 (by omega) (by omega) ?_
                refine tp_i (y := nI (P u)) (pF_s (by omega)) ?_
                refine lv_istore_n (lv' := [(3, .int (nI (P u))), (0, .ref o), (4, .int (nI v)), (5, .int (nI d))]) hx hb dT_fork_54 rfl hl (by decide) rfl (fun ls hl => ?_)
                refine lv_goto (tgt := 67) hx hb dT_fork_55 (by decide) ?_
                refine lv_iinc (v := nI (d - 1)) (lv' := [(5, .int (nI (d - 1))), (3, .int (nI (P u))), (0, .ref o), (4, .int (nI v))]) hx hb dT_fork_67 hl (k := 3) rfl (sb_m1 (by omega)) (by decide) rfl (fun ls hl => ?_)
                refine lv_goto (tgt := 31) hx hb dT_fork_70 (by decide) ?_
                exact ih_31 (d - 1) (P u) v (by omega) (by omega) (by have := hpar u (by omega) hu; omega) hv ((m_fork_l (by omega) c_45).trans hg) ls (lv_sub hl [2, 1, 3, 0] rfl)
      exact lp_31 (2 * n + 1) (2 * n) x y (by omega) (by omega) hx9 hy9 rfl ls (lv_sub hl [3, 2, 1, 0] rfl)
    · skip
      rw [← nI_0] at c_13
      have c_13 : 1 = 0 := n_eq c_13 (by omega) (by omega)
      omega

abbrev rm_c_fork_noa : Room := { frames := 1, cells := 0, slots := 0, locals := 21 }
set_option maxRecDepth 100000 in
set_option maxHeartbeats 4000000 in
theorem c_fork_noa (l : Launch) (D : va_G) (cI cJ cZ : ClassId) (o : Nat) (rm : Nat) (n : Nat) (bs : Nat) (aP : Nat) (aH : Nat) (aC : Nat) (aT : Nat) (aB : Nat) (aZ : Nat) (aW : Nat) (aR : Nat) (oR : Nat) (oW : Nat) (x : Int32) (y : Int32) (hx9 : ¬ (0 ≤ x ∧ x < nI n)) : ro_C l yT_fork wT_fork rm_c_fork_noa D vwCl (gT cI cJ cZ) [.ref o, .int x, .int y] [(o, .inr (2, [.int (nI rm), .int (nI n), .int (nI bs), .ref aP, .ref aH, .ref aC, .ref aT, .ref aB, .ref aZ, .ref aW, .ref aR, .ref oR, .ref oW]))] (some (.int (-1))) := by
  refine ro_of (cc := cT_fork) (maxL := 6) (ret := some .int) (by decide) rfl (Nat.le_of_ble_eq_true rfl) ?_
  intro p e s m args below meth c Q ls hx hb hr hml hown hts hlocks hK hP hl hQ
  have hl : lv_has ls 6 [(0, .ref o), (1, .int x), (2, .int y)] := hl
  have hown : s.vm.findClass RT = some m.cls := hown
  refine lv_aload_n hx hb dT_fork_0 rfl (lv_at hl 0 rfl) ?_
  refine lv_iload_n hx hb dT_fork_1 rfl (lv_at hl 1 rfl) ?_
  refine ro_ki (va_runV (As := [.int x]) (rest := []) ⟨hx, hb, hml, hown, hts⟩ (c_isBlock_no l D cI cJ cZ o rm n bs aP aH aC aT aB aZ aW aR oR oW x hx9) (cwV 1 hts gT_fork_T_isBlock_76 rfl rfl rfl (by decide +kernel) ⟨Nat.le_of_ble_eq_true rfl, Nat.le_of_ble_eq_true rfl⟩) (ro_preV (hP.sub [0] rfl) hK (va_recv hK hP (ci := 2) (q0 := 0) rfl rfl)) rfl rfl hl.1 rfl (lv_room (Nat.le_of_ble_eq_true rfl)) dT_fork_2 ⟨Nat.le_of_ble_eq_true rfl, Nat.le_of_ble_eq_true rfl⟩) ?_
  refine lv_if_eq (tgt := 16) hx hb dT_fork_5 (by decide) (fun c_5 => ?_) (fun c_5 => ?_)
  · skip
    rw [← nI_0] at c_5
    have c_5 : 0 = 0 := n_eq c_5 (by omega) (by omega)
    refine lv_iconst (v := (-1)) hx hb dT_fork_16 (by decide) ?_
    exact ro_iret hQ hx hb hr hlocks dT_fork_17 rfl
  · skip
    rw [← nI_0] at c_5
    have c_5 : ¬ 0 = 0 := n_ne c_5
    omega

abbrev rm_c_fork_nob : Room := { frames := 1, cells := 0, slots := 0, locals := 21 }
set_option maxRecDepth 100000 in
set_option maxHeartbeats 4000000 in
theorem c_fork_nob (l : Launch) (D : va_G) (cI cJ cZ : ClassId) (o : Nat) (rm : Nat) (n : Nat) (bs : Nat) (aP : Nat) (aH : Nat) (aC : Nat) (aT : Nat) (aB : Nat) (aZ : Nat) (aW : Nat) (aR : Nat) (oR : Nat) (oW : Nat) (x : Nat) (y : Int32) (hn9 : n ≤ 300) (hx8 : x < n) (hx9 : ¬ (0 ≤ y ∧ y < nI n)) : ro_C l yT_fork wT_fork rm_c_fork_nob D vwCl (gT cI cJ cZ) [.ref o, .int (nI x), .int y] [(o, .inr (2, [.int (nI rm), .int (nI n), .int (nI bs), .ref aP, .ref aH, .ref aC, .ref aT, .ref aB, .ref aZ, .ref aW, .ref aR, .ref oR, .ref oW]))] (some (.int (-1))) := by
  refine ro_of (cc := cT_fork) (maxL := 6) (ret := some .int) (by decide) rfl (Nat.le_of_ble_eq_true rfl) ?_
  intro p e s m args below meth c Q ls hx hb hr hml hown hts hlocks hK hP hl hQ
  have hl : lv_has ls 6 [(0, .ref o), (1, .int (nI x)), (2, .int y)] := hl
  have hown : s.vm.findClass RT = some m.cls := hown
  refine lv_aload_n hx hb dT_fork_0 rfl (lv_at hl 0 rfl) ?_
  refine lv_iload_n hx hb dT_fork_1 rfl (lv_at hl 1 rfl) ?_
  refine ro_ki (va_runV (As := [.int (nI x)]) (rest := []) ⟨hx, hb, hml, hown, hts⟩ (c_isBlock_ok l D cI cJ cZ o rm n bs aP aH aC aT aB aZ aW aR oR oW x (by omega) (by omega)) (cwV 1 hts gT_fork_T_isBlock_76 rfl rfl rfl (by decide +kernel) ⟨Nat.le_of_ble_eq_true rfl, Nat.le_of_ble_eq_true rfl⟩) (ro_preV (hP.sub [0] rfl) hK (va_recv hK hP (ci := 2) (q0 := 0) rfl rfl)) rfl rfl hl.1 rfl (lv_room (Nat.le_of_ble_eq_true rfl)) dT_fork_2 ⟨Nat.le_of_ble_eq_true rfl, Nat.le_of_ble_eq_true rfl⟩) ?_
  refine lv_if_eq (tgt := 16) hx hb dT_fork_5 (by decide) (fun c_5 => ?_) (fun c_5 => ?_)
  · skip
    rw [← nI_0] at c_5
    have c_5 : 1 = 0 := n_eq c_5 (by omega) (by omega)
    omega
  · skip
    rw [← nI_0] at c_5
    have c_5 : ¬ 1 = 0 := n_ne c_5
    refine lv_aload_n hx hb dT_fork_8 rfl (lv_at hl 0 rfl) ?_
    refine lv_iload_n hx hb dT_fork_9 rfl (lv_at hl 2 rfl) ?_
    refine ro_ki (va_runV (As := [.int y]) (rest := []) ⟨hx, hb, hml, hown, hts⟩ (c_isBlock_no l D cI cJ cZ o rm n bs aP aH aC aT aB aZ aW aR oR oW y hx9) (cwV 1 hts gT_fork_T_isBlock_76 rfl rfl rfl (by decide +kernel) ⟨Nat.le_of_ble_eq_true rfl, Nat.le_of_ble_eq_true rfl⟩) (ro_preV (hP.sub [0] rfl) hK (va_recv hK hP (ci := 2) (q0 := 0) rfl rfl)) rfl rfl hl.1 rfl (lv_room (Nat.le_of_ble_eq_true rfl)) dT_fork_10 ⟨Nat.le_of_ble_eq_true rfl, Nat.le_of_ble_eq_true rfl⟩) ?_
    refine lv_if_ne (tgt := 18) hx hb dT_fork_13 (by decide) (fun c_13 => ?_) (fun c_13 => ?_)
    · skip
      rw [← nI_0] at c_13
      have c_13 : ¬ 0 = 0 := n_ne c_13
      omega
    · skip
      rw [← nI_0] at c_13
      have c_13 : 0 = 0 := n_eq c_13 (by omega) (by omega)
      refine lv_iconst (v := (-1)) hx hb dT_fork_16 (by decide) ?_
      exact ro_iret hQ hx hb hr hlocks dT_fork_17 rfl

abbrev rm_c_fault : Room := { frames := 4, cells := 0, slots := 0, locals := 90 }
set_option maxRecDepth 100000 in
set_option maxHeartbeats 4000000 in
theorem c_fault (l : Launch) (D : va_G) (cI cJ cZ : ClassId) (o : Nat) (rm : Nat) (n : Nat) (bs : Nat) (aP : Nat) (aH : Nat) (aC : Nat) (aT : Nat) (aB : Nat) (aZ : Nat) (aW : Nat) (aR : Nat) (oR : Nat) (oW : Nat) (b : Int64)  : ro_C l yT_fault wT_fault rm_c_fault D vwCl (gT cI cJ cZ) [.ref o, .long b] [(o, .inr (2, [.int (nI rm), .int (nI n), .int (nI bs), .ref aP, .ref aH, .ref aC, .ref aT, .ref aB, .ref aZ, .ref aW, .ref aR, .ref oR, .ref oW]))] (some (.int (m_fault b))) := by
  refine ro_of (cc := cT_fault) (maxL := 3) (ret := some .int) (by decide) rfl (Nat.le_of_ble_eq_true rfl) ?_
  intro p e s m args below meth c Q ls hx hb hr hml hown hts hlocks hK hP hl hQ
  have hl : lv_has ls 3 [(0, .ref o), (1, .long b)] := hl
  have hown : s.vm.findClass RT = some m.cls := hown
  refine lv_lload_n hx hb dT_fault_0 rfl (lv_at hl 1 rfl) ?_
  refine ro_ki (va_runS (As := [.long b]) (rest := []) ⟨hx, hb, hml, hown, hts⟩ (c_B_faultOf l D cI cJ cZ b) (va_cwS 1 hts gT_fault_B_faultOf_124 rfl rfl rfl (by decide +kernel) ⟨Nat.le_of_ble_eq_true rfl, Nat.le_of_ble_eq_true rfl⟩) (ro_preS (hP.sub [] rfl) hK) rfl rfl hl.1 rfl (lv_room (Nat.le_of_ble_eq_true rfl)) dT_fault_1 ⟨Nat.le_of_ble_eq_true rfl, Nat.le_of_ble_eq_true rfl⟩) ?_
  exact ro_iret hQ hx hb hr hlocks dT_fault_4 rfl

abbrev rm_c_compact : Room := { frames := 2, cells := 0, slots := 0, locals := 61 }
set_option maxRecDepth 100000 in
set_option maxHeartbeats 4000000 in
theorem c_compact (l : Launch) (D : va_G) (cI cJ cZ : ClassId) (o : Nat) (rm : Nat) (n : Nat) (bs : Nat) (aP : Nat) (aH : Nat) (aC : Nat) (aT : Nat) (aB : Nat) (aZ : Nat) (aW : Nat) (aR : Nat) (oR : Nat) (oW : Nat) (a : Int64) (b : Int64) (c0 : Int64) (d : Int64)  : ro_C l yT_compact wT_compact rm_c_compact D vwCl (gT cI cJ cZ) [.ref o, .long a, .long b, .long c0, .long d] [(o, .inr (2, [.int (nI rm), .int (nI n), .int (nI bs), .ref aP, .ref aH, .ref aC, .ref aT, .ref aB, .ref aZ, .ref aW, .ref aR, .ref oR, .ref oW]))] (some (.long (m_short a b c0 d))) := by
  refine ro_of (cc := cT_compact) (maxL := 9) (ret := some .long) (by decide) rfl (Nat.le_of_ble_eq_true rfl) ?_
  intro p e s m args below meth c Q ls hx hb hr hml hown hts hlocks hK hP hl hQ
  have hl : lv_has ls 9 [(0, .ref o), (1, .long a), (3, .long b), (5, .long c0), (7, .long d)] := hl
  have hown : s.vm.findClass RT = some m.cls := hown
  refine lv_lload_n hx hb dT_compact_0 rfl (lv_at hl 1 rfl) ?_
  refine lv_lload_n hx hb dT_compact_1 rfl (lv_at hl 2 rfl) ?_
  refine lv_lload hx hb dT_compact_2 (lv_at hl 3 rfl) ?_
  refine lv_lload hx hb dT_compact_4 (lv_at hl 4 rfl) ?_
  refine ro_kl (va_runS (As := [.long a, .long b, .long c0, .long d]) (rest := []) ⟨hx, hb, hml, hown, hts⟩ (c_B_shorten l D cI cJ cZ a b c0 d) (va_cwS 4 hts gT_compact_B_shorten_132 rfl rfl rfl (by decide +kernel) ⟨Nat.le_of_ble_eq_true rfl, Nat.le_of_ble_eq_true rfl⟩) (ro_preS (hP.sub [] rfl) hK) rfl rfl hl.1 rfl (lv_room (Nat.le_of_ble_eq_true rfl)) dT_compact_6 ⟨Nat.le_of_ble_eq_true rfl, Nat.le_of_ble_eq_true rfl⟩) ?_
  exact ro_lret hQ hx hb hr hlocks dT_compact_9 rfl

abbrev rm_c_target : Room := { frames := 4, cells := 0, slots := 0, locals := 90 }
set_option maxRecDepth 100000 in
set_option maxHeartbeats 4000000 in
theorem c_target (l : Launch) (D : va_G) (cI cJ cZ : ClassId) (o : Nat) (rm : Nat) (n : Nat) (bs : Nat) (aP : Nat) (aH : Nat) (aC : Nat) (aT : Nat) (aB : Nat) (aZ : Nat) (aW : Nat) (aR : Nat) (oR : Nat) (oW : Nat) (b : Int64) (k : Int32)  : ro_C l yT_target wT_target rm_c_target D vwCl (gT cI cJ cZ) [.ref o, .long b, .int k] [(o, .inr (2, [.int (nI rm), .int (nI n), .int (nI bs), .ref aP, .ref aH, .ref aC, .ref aT, .ref aB, .ref aZ, .ref aW, .ref aR, .ref oR, .ref oW]))] (some (.long (m_target b k))) := by
  refine ro_of (cc := cT_target) (maxL := 6) (ret := some .long) (by decide) rfl (Nat.le_of_ble_eq_true rfl) ?_
  intro p e s m args below meth c Q ls hx hb hr hml hown hts hlocks hK hP hl hQ
  have hl : lv_has ls 6 [(0, .ref o), (1, .long b), (3, .int k)] := hl
  have hown : s.vm.findClass RT = some m.cls := hown
  refine lv_lload_n hx hb dT_target_0 rfl (lv_at hl 1 rfl) ?_
  refine ro_ki (va_runS (As := [.long b]) (rest := []) ⟨hx, hb, hml, hown, hts⟩ (c_B_faultOf l D cI cJ cZ b) (va_cwS 1 hts gT_target_B_faultOf_124 rfl rfl rfl (by decide +kernel) ⟨Nat.le_of_ble_eq_true rfl, Nat.le_of_ble_eq_true rfl⟩) (ro_preS (hP.sub [] rfl) hK) rfl rfl hl.1 rfl (lv_room (Nat.le_of_ble_eq_true rfl)) dT_target_1 ⟨Nat.le_of_ble_eq_true rfl, Nat.le_of_ble_eq_true rfl⟩) ?_
  refine lv_istore (lv' := [(4, .int (m_fault b)), (0, .ref o), (1, .long b), (3, .int k)]) hx hb dT_target_4 hl (by decide) rfl (fun ls hl => ?_)
  refine lv_iload hx hb dT_target_6 (lv_at hl 0 rfl) ?_
  refine lv_if_eq (tgt := 17) hx hb dT_target_8 (by decide) (fun c_8 => ?_) (fun c_8 => ?_)
  · skip
    refine lv_iconst (v := nI 1) hx hb dT_target_17 (by decide) ?_
    refine lv_goto (tgt := 22) hx hb dT_target_18 (by decide) ?_
    refine lv_istore (lv' := [(5, .int (nI 1)), (4, .int (m_fault b)), (0, .ref o), (1, .long b), (3, .int k)]) hx hb dT_target_22 hl (by decide) rfl (fun ls hl => ?_)
    refine lv_iload hx hb dT_target_24 (lv_at hl 0 rfl) ?_
    refine lv_if_eq (tgt := 46) hx hb dT_target_26 (by decide) (fun c_26 => ?_) (fun c_26 => ?_)
    · skip
      rw [← nI_0] at c_26
      have c_26 : 1 = 0 := n_eq c_26 (by omega) (by omega)
      omega
    · skip
      rw [← nI_0] at c_26
      have c_26 : ¬ 1 = 0 := n_ne c_26
      refine lv_iload_n hx hb dT_target_29 rfl (lv_at hl 4 rfl) ?_
      refine lv_if_lt (tgt := 46) hx hb dT_target_30 (by decide) (fun c_30 => ?_) (fun c_30 => ?_)
      · skip
        refine lv_lconst (v := 0) hx hb dT_target_46 (by decide) ?_
        exact ro_lret hQ hx hb hr hlocks dT_target_47 (by simp [m_target, c_8, c_26, c_30])
      · skip
        refine lv_iload_n hx hb dT_target_33 rfl (lv_at hl 4 rfl) ?_
        refine lv_iconst (v := nI 4) hx hb dT_target_34 (by decide) ?_
        refine lv_icmp_ge (tgt := 46) hx hb dT_target_35 (by decide) (fun c_35 => ?_) (fun c_35 => ?_)
        · skip
          refine lv_lconst (v := 0) hx hb dT_target_46 (by decide) ?_
          exact ro_lret hQ hx hb hr hlocks dT_target_47 (by simp [m_target, c_8, c_26, c_30, c_35])
        · skip
          refine lv_lload_n hx hb dT_target_38 rfl (lv_at hl 3 rfl) ?_
          refine lv_iload_n hx hb dT_target_39 rfl (lv_at hl 4 rfl) ?_
          refine ro_kl (va_runS (As := [.long b, .int k]) (rest := []) ⟨hx, hb, hml, hown, hts⟩ (c_B_targetPart l D cI cJ cZ b k) (va_cwS 2 hts gT_target_B_targetPart_128 rfl rfl rfl (by decide +kernel) ⟨Nat.le_of_ble_eq_true rfl, Nat.le_of_ble_eq_true rfl⟩) (ro_preS (hP.sub [] rfl) hK) rfl rfl hl.1 rfl (lv_room (Nat.le_of_ble_eq_true rfl)) dT_target_40 ⟨Nat.le_of_ble_eq_true rfl, Nat.le_of_ble_eq_true rfl⟩) ?_
          refine lv_goto (tgt := 47) hx hb dT_target_43 (by decide) ?_
          exact ro_lret hQ hx hb hr hlocks dT_target_47 (by simp [m_target, c_8, c_26, c_30, c_35])
  · skip
    refine lv_iload hx hb dT_target_11 (lv_at hl 0 rfl) ?_
    refine lv_iconst (v := nI 4) hx hb dT_target_13 (by decide) ?_
    refine lv_icmp_ne (tgt := 21) hx hb dT_target_14 (by decide) (fun c_14 => ?_) (fun c_14 => ?_)
    · skip
      refine lv_iconst (v := nI 0) hx hb dT_target_21 (by decide) ?_
      refine lv_istore (lv' := [(5, .int (nI 0)), (4, .int (m_fault b)), (0, .ref o), (1, .long b), (3, .int k)]) hx hb dT_target_22 hl (by decide) rfl (fun ls hl => ?_)
      refine lv_iload hx hb dT_target_24 (lv_at hl 0 rfl) ?_
      refine lv_if_eq (tgt := 46) hx hb dT_target_26 (by decide) (fun c_26 => ?_) (fun c_26 => ?_)
      · skip
        rw [← nI_0] at c_26
        have c_26 : 0 = 0 := n_eq c_26 (by omega) (by omega)
        refine lv_lconst (v := 0) hx hb dT_target_46 (by decide) ?_
        exact ro_lret hQ hx hb hr hlocks dT_target_47 (by simp [m_target, c_8, c_14, c_26])
      · skip
        rw [← nI_0] at c_26
        have c_26 : ¬ 0 = 0 := n_ne c_26
        omega
    · skip
      refine lv_iconst (v := nI 1) hx hb dT_target_17 (by decide) ?_
      refine lv_goto (tgt := 22) hx hb dT_target_18 (by decide) ?_
      refine lv_istore (lv' := [(5, .int (nI 1)), (4, .int (m_fault b)), (0, .ref o), (1, .long b), (3, .int k)]) hx hb dT_target_22 hl (by decide) rfl (fun ls hl => ?_)
      refine lv_iload hx hb dT_target_24 (lv_at hl 0 rfl) ?_
      refine lv_if_eq (tgt := 46) hx hb dT_target_26 (by decide) (fun c_26 => ?_) (fun c_26 => ?_)
      · skip
        rw [← nI_0] at c_26
        have c_26 : 1 = 0 := n_eq c_26 (by omega) (by omega)
        omega
      · skip
        rw [← nI_0] at c_26
        have c_26 : ¬ 1 = 0 := n_ne c_26
        refine lv_iload_n hx hb dT_target_29 rfl (lv_at hl 4 rfl) ?_
        refine lv_if_lt (tgt := 46) hx hb dT_target_30 (by decide) (fun c_30 => ?_) (fun c_30 => ?_)
        · skip
          refine lv_lconst (v := 0) hx hb dT_target_46 (by decide) ?_
          exact ro_lret hQ hx hb hr hlocks dT_target_47 (by simp [m_target, c_8, c_14, c_26, c_30])
        · skip
          refine lv_iload_n hx hb dT_target_33 rfl (lv_at hl 4 rfl) ?_
          refine lv_iconst (v := nI 4) hx hb dT_target_34 (by decide) ?_
          refine lv_icmp_ge (tgt := 46) hx hb dT_target_35 (by decide) (fun c_35 => ?_) (fun c_35 => ?_)
          · skip
            refine lv_lconst (v := 0) hx hb dT_target_46 (by decide) ?_
            exact ro_lret hQ hx hb hr hlocks dT_target_47 (by simp [m_target, c_8, c_14, c_26, c_30, c_35])
          · skip
            refine lv_lload_n hx hb dT_target_38 rfl (lv_at hl 3 rfl) ?_
            refine lv_iload_n hx hb dT_target_39 rfl (lv_at hl 4 rfl) ?_
            refine ro_kl (va_runS (As := [.long b, .int k]) (rest := []) ⟨hx, hb, hml, hown, hts⟩ (c_B_targetPart l D cI cJ cZ b k) (va_cwS 2 hts gT_target_B_targetPart_128 rfl rfl rfl (by decide +kernel) ⟨Nat.le_of_ble_eq_true rfl, Nat.le_of_ble_eq_true rfl⟩) (ro_preS (hP.sub [] rfl) hK) rfl rfl hl.1 rfl (lv_room (Nat.le_of_ble_eq_true rfl)) dT_target_40 ⟨Nat.le_of_ble_eq_true rfl, Nat.le_of_ble_eq_true rfl⟩) ?_
            refine lv_goto (tgt := 47) hx hb dT_target_43 (by decide) ?_
            exact ro_lret hQ hx hb hr hlocks dT_target_47 (by simp [m_target, c_8, c_14, c_26, c_30, c_35])

abbrev rm_c_findBest : Room := { frames := 1, cells := 0, slots := 0, locals := 27 }
set_option maxRecDepth 100000 in
set_option maxHeartbeats 4000000 in
theorem c_findBest (l : Launch) (D : va_G) (cI cJ cZ : ClassId) (o : Nat) (rm : Nat) (n : Nat) (bs : Nat) (aP : Nat) (aH : Nat) (aC : Nat) (aT : Nat) (aB : Nat) (aZ : Nat) (aW : Nat) (aR : Nat) (oR : Nat) (oW : Nat) (Zb : Nat → Nat) (Wk : Nat → Int64) (hn3 : n ≤ rm) (hr3 : rm ≤ 300) (hn1 : 1 ≤ n) (hz9 : ∀ x : Nat, Zb x < 2) : ro_C l yT_findBest wT_findBest rm_c_findBest D vwCl (gT cI cJ cZ) [.ref o] [(o, .inr (2, [.int (nI rm), .int (nI n), .int (nI bs), .ref aP, .ref aH, .ref aC, .ref aT, .ref aB, .ref aZ, .ref aW, .ref aR, .ref oR, .ref oW])), (aZ, .inl (cZ, rm, .inl (nF Zb))), (aW, .inl (cJ, rm * 8, .inr (.inl Wk)))] (some (.int (nI (m_best Zb Wk (n - 1) 1 0)))) := by
  refine ro_of (cc := cT_findBest) (maxL := 3) (ret := some .int) (by decide) rfl (Nat.le_of_ble_eq_true rfl) ?_
  intro p e s m args below meth c Q ls hx hb hr hml hown hts hlocks hK hP hl hQ
  have hl : lv_has ls 3 [(0, .ref o)] := hl
  have hown : s.vm.findClass RT = some m.cls := hown
  refine lv_iconst (v := nI 0) hx hb dT_findBest_0 (by decide) ?_
  refine lv_istore_n (lv' := [(1, .int (nI 0)), (0, .ref o)]) hx hb dT_findBest_1 rfl hl (by decide) rfl (fun ls hl => ?_)
  refine lv_iconst (v := nI 1) hx hb dT_findBest_2 (by decide) ?_
  refine lv_istore_n (lv' := [(2, .int (nI 1)), (1, .int (nI 0)), (0, .ref o)]) hx hb dT_findBest_3 rfl hl (by decide) rfl (fun ls hl => ?_)
  have lp_4 : ∀ (n_4 : Nat) (d i x : Nat), (d < n_4) → (i + d = n) → (x < n) → (m_best Zb Wk d i x = m_best Zb Wk (n - 1) 1 0) → ∀ (ls : Array Slot), lv_has ls 3 [(0, .ref o), (1, .int (nI x)), (2, .int (nI i))] → W p l e rm_c_findBest s m args below meth c s.heap [] 0 0 Q (F0 m 4 ls []) := by
    intro n_4
    induction n_4 with
    | zero => intro d i x hn hd hx9 hg ls hl; exact absurd hn (by omega)
    | succ n_4 ih_4 =>
      intro d i x hn hd hx9 hg ls hl
      refine lv_iload_n hx hb dT_findBest_4 rfl (lv_at hl 2 rfl) ?_
      refine lv_aload_n hx hb dT_findBest_5 rfl (lv_at hl 0 rfl) ?_
      refine va_get (D := D) (ci := 2) (v := .int (nI n)) (C := RT) (T := TT) (N := 13) hx hb hts iT_findBest_T hown hK hP 0 rfl rfl 1 (by decide) (hts (.fieldLink RT 70 "TreeDesk" "count" "I") (by decide +kernel)) (fun _ h9 => h9) rfl dT_findBest_6 ?_
      refine lv_icmp_ge (tgt := 38) hx hb dT_findBest_9 (by decide) (fun c_9 => ?_) (fun c_9 => ?_)
      · skip
        have c_9 : n ≤ i := n_le c_9 (by omega) (by omega)
        have hd0 : d = 0 := by omega
        subst hd0
        refine lv_iload_n hx hb dT_findBest_38 rfl (lv_at hl 1 rfl) ?_
        exact ro_iret hQ hx hb hr hlocks dT_findBest_39 (by rw [← hg]; rfl)
      · skip
        have c_9 : i < n := n_nle c_9 (by omega) (by omega)
        obtain ⟨d, rfl⟩ : ∃ d' : Nat, d = d' + 1 := ⟨d - 1, by omega⟩
        have hzi := hz9 i
        refine lv_aload_n hx hb dT_findBest_12 rfl (lv_at hl 0 rfl) ?_
        refine va_get (D := D) (ci := 2) (v := .ref aZ) (C := RT) (T := TT) (N := 13) hx hb hts iT_findBest_T hown hK hP 0 rfl rfl 8 (by decide) (hts (.fieldLink RT 30 "TreeDesk" "bad" "[Z") (by decide +kernel)) (fun _ h9 => h9) rfl dT_findBest_13 ?_
        refine lv_iload_n hx hb dT_findBest_16 rfl (lv_at hl 2 rfl) ?_
        refine ar_zld (j := i) hx hb hK hP 1 2 rfl rfl dT_findBest_17 (by omega) (by omega) ?_
        refine tp_i (y := nI (Zb i)) rfl ?_
        refine lv_if_ne (tgt := 32) hx hb dT_findBest_18 (by decide) (fun c_18 => ?_) (fun c_18 => ?_)
        · skip
          rw [← nI_0] at c_18
          have c_18 : ¬ (Zb i) = 0 := n_ne c_18
          refine lv_iinc (v := nI (i + 1)) (lv' := [(2, .int (nI (i + 1))), (0, .ref o), (1, .int (nI x))]) hx hb dT_findBest_32 hl (k := 2) rfl (nI_add _ 1) (by decide) rfl (fun ls hl => ?_)
          refine lv_goto (tgt := 4) hx hb dT_findBest_35 (by decide) ?_
          exact ih_4 d (i + 1) x (by omega) (by omega) (by omega) (by rw [← hg, m_best, if_neg c_18]) ls (lv_sub hl [1, 2, 0] rfl)
        · skip
          rw [← nI_0] at c_18
          have c_18 : (Zb i) = 0 := n_eq c_18 (by omega) (by omega)
          refine lv_aload_n hx hb dT_findBest_21 rfl (lv_at hl 0 rfl) ?_
          refine lv_iload_n hx hb dT_findBest_22 rfl (lv_at hl 2 rfl) ?_
          refine lv_iload_n hx hb dT_findBest_23 rfl (lv_at hl 1 rfl) ?_
          refine ro_ki (va_runV (As := [.int (nI i), .int (nI x)]) (rest := []) ⟨hx, hb, hml, hown, hts⟩ (c_compareWorks l D cI cJ cZ o rm n bs aP aH aC aT aB aZ aW aR oR oW Wk i x (by omega) (by omega) (by omega)) (cwV 2 hts gT_findBest_T_compareWorks_116 rfl rfl rfl (by decide +kernel) ⟨Nat.le_of_ble_eq_true rfl, Nat.le_of_ble_eq_true rfl⟩) (ro_preV (hP.sub [0, 2] rfl) hK (va_recv hK hP (ci := 2) (q0 := 0) rfl rfl)) rfl rfl hl.1 rfl (lv_room (Nat.le_of_ble_eq_true rfl)) dT_findBest_24 ⟨Nat.le_of_ble_eq_true rfl, Nat.le_of_ble_eq_true rfl⟩) ?_
          refine lv_if_le (tgt := 32) hx hb dT_findBest_27 (by decide) (fun c_27 => ?_) (fun c_27 => ?_)
          · skip
            refine lv_iinc (v := nI (i + 1)) (lv' := [(2, .int (nI (i + 1))), (0, .ref o), (1, .int (nI x))]) hx hb dT_findBest_32 hl (k := 2) rfl (nI_add _ 1) (by decide) rfl (fun ls hl => ?_)
            refine lv_goto (tgt := 4) hx hb dT_findBest_35 (by decide) ?_
            exact ih_4 d (i + 1) x (by omega) (by omega) (by omega) (by rw [← hg, m_best, if_pos c_18, if_pos c_27]) ls (lv_sub hl [1, 2, 0] rfl)
          · skip
            refine lv_iload_n hx hb dT_findBest_30 rfl (lv_at hl 2 rfl) ?_
            refine lv_istore_n (lv' := [(1, .int (nI i)), (0, .ref o), (2, .int (nI i))]) hx hb dT_findBest_31 rfl hl (by decide) rfl (fun ls hl => ?_)
            refine lv_iinc (v := nI (i + 1)) (lv' := [(2, .int (nI (i + 1))), (1, .int (nI i)), (0, .ref o)]) hx hb dT_findBest_32 hl (k := 2) rfl (nI_add _ 1) (by decide) rfl (fun ls hl => ?_)
            refine lv_goto (tgt := 4) hx hb dT_findBest_35 (by decide) ?_
            exact ih_4 d (i + 1) i (by omega) (by omega) (by omega) (by rw [← hg, m_best, if_pos c_18, if_neg c_27]) ls (lv_sub hl [2, 1, 0] rfl)
  exact lp_4 (n + 1) (n - 1) 1 0 (by omega) (by omega) (by omega) rfl ls (lv_sub hl [2, 1, 0] rfl)

abbrev rm_c_row_ok : Room := { frames := 1, cells := 0, slots := 0, locals := 24 }
set_option maxRecDepth 100000 in
set_option maxHeartbeats 4000000 in
theorem c_row_ok (l : Launch) (D : va_G) (cI cJ cZ : ClassId) (o : Nat) (rm : Nat) (n : Nat) (bs : Nat) (aP : Nat) (aH : Nat) (aC : Nat) (aT : Nat) (aB : Nat) (aZ : Nat) (aW : Nat) (aR : Nat) (oR : Nat) (oW : Nat) (P : Nat → Nat) (Hh : Nat → Nat) (j : Nat) (k : Nat) (hn3 : n ≤ rm) (hr3 : rm ≤ 300) (hj : j < n) (hHj : Hh j < 300) (hk : k ≤ Hh j) (hpar : ∀ x : Nat, 0 < x → x < n → P x < x) : ro_C l yT_row wT_row rm_c_row_ok D vwCl (gT cI cJ cZ) [.ref o, .int (nI j), .int (nI k)] [(o, .inr (2, [.int (nI rm), .int (nI n), .int (nI bs), .ref aP, .ref aH, .ref aC, .ref aT, .ref aB, .ref aZ, .ref aW, .ref aR, .ref oR, .ref oW])), (aP, .inl (cI, rm, .inl (pF P))), (aH, .inl (cI, rm, .inl (nF Hh)))] (some (.int (m_rowR P Hh j (m_row k (Hh j) 1 1)))) := by
  refine ro_of (cc := cT_row) (maxL := 6) (ret := some .int) (by decide) rfl (Nat.le_of_ble_eq_true rfl) ?_
  intro p e s m args below meth c Q ls hx hb hr hml hown hts hlocks hK hP hl hQ
  have hl : lv_has ls 6 [(0, .ref o), (1, .int (nI j)), (2, .int (nI k))] := hl
  have hown : s.vm.findClass RT = some m.cls := hown
  refine lv_aload_n hx hb dT_row_0 rfl (lv_at hl 0 rfl) ?_
  refine lv_iload_n hx hb dT_row_1 rfl (lv_at hl 1 rfl) ?_
  refine ro_ki (va_runV (As := [.int (nI j)]) (rest := []) ⟨hx, hb, hml, hown, hts⟩ (c_isBlock_ok l D cI cJ cZ o rm n bs aP aH aC aT aB aZ aW aR oR oW j (by omega) (by omega)) (cwV 1 hts gT_row_T_isBlock_76 rfl rfl rfl (by decide +kernel) ⟨Nat.le_of_ble_eq_true rfl, Nat.le_of_ble_eq_true rfl⟩) (ro_preV (hP.sub [0] rfl) hK (va_recv hK hP (ci := 2) (q0 := 0) rfl rfl)) rfl rfl hl.1 rfl (lv_room (Nat.le_of_ble_eq_true rfl)) dT_row_2 ⟨Nat.le_of_ble_eq_true rfl, Nat.le_of_ble_eq_true rfl⟩) ?_
  refine lv_if_eq (tgt := 22) hx hb dT_row_5 (by decide) (fun c_5 => ?_) (fun c_5 => ?_)
  · skip
    rw [← nI_0] at c_5
    have c_5 : 1 = 0 := n_eq c_5 (by omega) (by omega)
    omega
  · skip
    rw [← nI_0] at c_5
    have c_5 : ¬ 1 = 0 := n_ne c_5
    refine lv_iload_n hx hb dT_row_8 rfl (lv_at hl 2 rfl) ?_
    refine lv_if_lt (tgt := 22) hx hb dT_row_9 (by decide) (fun c_9 => ?_) (fun c_9 => ?_)
    · skip
      rw [← nI_0] at c_9
      have c_9 : k < 0 := n_lt c_9 (by omega) (by omega)
      omega
    · skip
      rw [← nI_0] at c_9
      have c_9 : 0 ≤ k := n_nlt c_9 (by omega) (by omega)
      refine lv_iload_n hx hb dT_row_12 rfl (lv_at hl 2 rfl) ?_
      refine lv_aload_n hx hb dT_row_13 rfl (lv_at hl 0 rfl) ?_
      refine va_get (D := D) (ci := 2) (v := .ref aH) (C := RT) (T := TT) (N := 13) hx hb hts iT_row_T hown hK hP 0 rfl rfl 4 (by decide) (hts (.fieldLink RT 17 "TreeDesk" "heights" "[I") (by decide +kernel)) (fun _ h9 => h9) rfl dT_row_14 ?_
      refine lv_iload_n hx hb dT_row_17 rfl (lv_at hl 1 rfl) ?_
      refine ar_ild (j := j) hx hb hK hP 2 0 rfl rfl dT_row_18 (by omega) (by omega) ?_
      refine tp_i (y := nI (Hh j)) rfl ?_
      refine lv_icmp_le (tgt := 24) hx hb dT_row_19 (by decide) (fun c_19 => ?_) (fun c_19 => ?_)
      · skip
        have c_19 : k ≤ (Hh j) := n_le c_19 (by omega) (by omega)
        refine lv_aload_n hx hb dT_row_24 rfl (lv_at hl 0 rfl) ?_
        refine va_get (D := D) (ci := 2) (v := .ref aH) (C := RT) (T := TT) (N := 13) hx hb hts iT_row_T hown hK hP 0 rfl rfl 4 (by decide) (hts (.fieldLink RT 17 "TreeDesk" "heights" "[I") (by decide +kernel)) (fun _ h9 => h9) rfl dT_row_25 ?_
        refine lv_iload_n hx hb dT_row_28 rfl (lv_at hl 1 rfl) ?_
        refine ar_ild (j := j) hx hb hK hP 2 0 rfl rfl dT_row_29 (by omega) (by omega) ?_
        refine tp_i (y := nI (Hh j)) rfl ?_
        refine lv_istore_n (lv' := [(3, .int (nI (Hh j))), (0, .ref o), (1, .int (nI j)), (2, .int (nI k))]) hx hb dT_row_30 rfl hl (by decide) rfl (fun ls hl => ?_)
        refine lv_iconst (v := nI 1) hx hb dT_row_31 (by decide) ?_
        refine lv_istore (lv' := [(4, .int (nI 1)), (3, .int (nI (Hh j))), (0, .ref o), (1, .int (nI j)), (2, .int (nI k))]) hx hb dT_row_32 hl (by decide) rfl (fun ls hl => ?_)
        refine lv_iconst (v := nI 1) hx hb dT_row_34 (by decide) ?_
        refine lv_istore (lv' := [(5, .int (nI 1)), (4, .int (nI 1)), (3, .int (nI (Hh j))), (0, .ref o), (1, .int (nI j)), (2, .int (nI k))]) hx hb dT_row_35 hl (by decide) rfl (fun ls hl => ?_)
        have lp_37 : ∀ (n_37 : Nat) (d hh sp i : Nat), (d < n_37) → (i + d = k + 1) → (1 ≤ i) → (hh < 300) → (hh ≤ Hh j) → (0 < hh → sp < 300) → (m_row d hh sp i = m_row k (Hh j) 1 1) → ∀ (ls : Array Slot), lv_has ls 6 [(0, .ref o), (1, .int (nI j)), (2, .int (nI k)), (3, .int (nI hh)), (4, .int (nI sp)), (5, .int (nI i))] → W p l e rm_c_row_ok s m args below meth c s.heap [] 0 0 Q (F0 m 37 ls []) := by
          intro n_37
          induction n_37 with
          | zero => intro d hh sp i hn hd hi1 hh3 hhj hsp hg ls hl; exact absurd hn (by omega)
          | succ n_37 ih_37 =>
            intro d hh sp i hn hd hi1 hh3 hhj hsp hg ls hl
            refine lv_iload hx hb dT_row_37 (lv_at hl 5 rfl) ?_
            refine lv_iload_n hx hb dT_row_39 rfl (lv_at hl 2 rfl) ?_
            refine lv_icmp_gt (tgt := 77) hx hb dT_row_40 (by decide) (fun c_40 => ?_) (fun c_40 => ?_)
            · skip
              have c_40 : k < i := n_lt c_40 (by omega) (by omega)
              have hd0 : d = 0 := by omega
              subst hd0
              refine lv_aload_n hx hb dT_row_77 rfl (lv_at hl 0 rfl) ?_
              refine lv_iload_n hx hb dT_row_78 rfl (lv_at hl 1 rfl) ?_
              refine lv_iload_n hx hb dT_row_79 rfl (lv_at hl 3 rfl) ?_
              refine ro_ki (va_runV (As := [.int (nI j), .int (nI hh)]) (rest := []) ⟨hx, hb, hml, hown, hts⟩ (c_ancestor l D cI cJ cZ o rm n bs aP aH aC aT aB aZ aW aR oR oW P Hh j hh (by omega) (by omega) (by omega) (by omega) (by omega) hpar) (cwV 2 hts gT_row_T_ancestor_101 rfl rfl rfl (by decide +kernel) ⟨Nat.le_of_ble_eq_true rfl, Nat.le_of_ble_eq_true rfl⟩) (ro_preV (hP.sub [0, 1, 2] rfl) hK (va_recv hK hP (ci := 2) (q0 := 0) rfl rfl)) rfl rfl hl.1 rfl (lv_room (Nat.le_of_ble_eq_true rfl)) dT_row_80 ⟨Nat.le_of_ble_eq_true rfl, Nat.le_of_ble_eq_true rfl⟩) ?_
              exact ro_iret hQ hx hb hr hlocks dT_row_83 (by rw [← hg]; rfl)
            · skip
              have c_40 : i ≤ k := n_nlt c_40 (by omega) (by omega)
              obtain ⟨d, rfl⟩ : ∃ d' : Nat, d = d' + 1 := ⟨d - 1, by omega⟩
              refine lv_iload_n hx hb dT_row_43 rfl (lv_at hl 3 rfl) ?_
              refine lv_if_ne (tgt := 49) hx hb dT_row_44 (by decide) (fun c_44 => ?_) (fun c_44 => ?_)
              · skip
                rw [← nI_0] at c_44
                have c_44 : ¬ hh = 0 := n_ne c_44
                have c_44 : ¬ hh = 0 := c_44
                have hsp := hsp (by omega)
                refine lv_iload hx hb dT_row_49 (lv_at hl 5 rfl) ?_
                refine lv_bipush (v := nI 9) hx hb dT_row_51 (by decide) ?_
                refine lv_icmp_le (tgt := 62) hx hb dT_row_53 (by decide) (fun c_53 => ?_) (fun c_53 => ?_)
                · skip
                  have c_53 : i ≤ 9 := n_le c_53 (by omega) (by omega)
                  refine lv_iconst (v := nI 0) hx hb dT_row_62 (by decide) ?_
                  refine lv_iload_n hx hb dT_row_63 rfl (lv_at hl 3 rfl) ?_
                  refine lv_iload hx hb dT_row_64 (lv_at hl 4 rfl) ?_
                  refine lv_isub hx hb dT_row_66 ?_
                  refine va_mmax hx hb (hml.trans hl.1.symm) hown (hts (.methodLink RT 119 Lib.Math.max.name) (by decide +kernel)) (hts (.static Lib.Math.max.name) (by decide +kernel)) (hts (.initialized "java/lang/Math") (by decide +kernel)) (hts (.code Lib.Math.max.name Lib.Math.max.code 2 (some .int)) (by decide +kernel)) (Nat.le_of_ble_eq_true rfl) (Nat.le_of_ble_eq_true rfl) (Nat.le_of_ble_eq_true rfl) (Nat.le_of_ble_eq_true rfl) dT_row_67 ?_
                  refine tp_i (y := nI (hh - sp)) (mx_s (by omega) (by omega)) ?_
                  refine lv_istore_n (lv' := [(3, .int (nI (hh - sp))), (0, .ref o), (1, .int (nI j)), (2, .int (nI k)), (4, .int (nI sp)), (5, .int (nI i))]) hx hb dT_row_70 rfl hl (by decide) rfl (fun ls hl => ?_)
                  refine lv_iinc (v := nI (i + 1)) (lv' := [(5, .int (nI (i + 1))), (3, .int (nI (hh - sp))), (0, .ref o), (1, .int (nI j)), (2, .int (nI k)), (4, .int (nI sp))]) hx hb dT_row_71 hl (k := 5) rfl (nI_add _ 1) (by decide) rfl (fun ls hl => ?_)
                  refine lv_goto (tgt := 37) hx hb dT_row_74 (by decide) ?_
                  exact ih_37 d (hh - sp) sp (i + 1) (by omega) (by omega) (by omega) (by omega) (by omega) (by omega) (by rw [← hg, m_row, if_neg c_44, if_pos (by omega)]) ls (lv_sub hl [2, 3, 4, 1, 5, 0] rfl)
                · skip
                  have c_53 : 9 < i := n_nle c_53 (by omega) (by omega)
                  refine lv_iload hx hb dT_row_56 (lv_at hl 4 rfl) ?_
                  refine lv_iconst (v := nI 2) hx hb dT_row_58 (by decide) ?_
                  refine lv_imul hx hb dT_row_59 ?_
                  refine tp_i (y := nI (sp * 2)) (pk_mul _ _) ?_
                  refine lv_istore (lv' := [(4, .int (nI (sp * 2))), (0, .ref o), (1, .int (nI j)), (2, .int (nI k)), (3, .int (nI hh)), (5, .int (nI i))]) hx hb dT_row_60 hl (by decide) rfl (fun ls hl => ?_)
                  refine lv_iconst (v := nI 0) hx hb dT_row_62 (by decide) ?_
                  refine lv_iload_n hx hb dT_row_63 rfl (lv_at hl 4 rfl) ?_
                  refine lv_iload hx hb dT_row_64 (lv_at hl 0 rfl) ?_
                  refine lv_isub hx hb dT_row_66 ?_
                  refine va_mmax hx hb (hml.trans hl.1.symm) hown (hts (.methodLink RT 119 Lib.Math.max.name) (by decide +kernel)) (hts (.static Lib.Math.max.name) (by decide +kernel)) (hts (.initialized "java/lang/Math") (by decide +kernel)) (hts (.code Lib.Math.max.name Lib.Math.max.code 2 (some .int)) (by decide +kernel)) (Nat.le_of_ble_eq_true rfl) (Nat.le_of_ble_eq_true rfl) (Nat.le_of_ble_eq_true rfl) (Nat.le_of_ble_eq_true rfl) dT_row_67 ?_
                  refine tp_i (y := nI (hh - (sp * 2))) (mx_s (by omega) (by omega)) ?_
                  refine lv_istore_n (lv' := [(3, .int (nI (hh - (sp * 2)))), (4, .int (nI (sp * 2))), (0, .ref o), (1, .int (nI j)), (2, .int (nI k)), (5, .int (nI i))]) hx hb dT_row_70 rfl hl (by decide) rfl (fun ls hl => ?_)
                  refine lv_iinc (v := nI (i + 1)) (lv' := [(5, .int (nI (i + 1))), (3, .int (nI (hh - (sp * 2)))), (4, .int (nI (sp * 2))), (0, .ref o), (1, .int (nI j)), (2, .int (nI k))]) hx hb dT_row_71 hl (k := 5) rfl (nI_add _ 1) (by decide) rfl (fun ls hl => ?_)
                  refine lv_goto (tgt := 37) hx hb dT_row_74 (by decide) ?_
                  exact ih_37 d (hh - sp * 2) (sp * 2) (i + 1) (by omega) (by omega) (by omega) (by omega) (by omega) (by omega) (by rw [← hg, m_row, if_neg c_44, if_neg (by omega)]) ls (lv_sub hl [3, 4, 5, 1, 2, 0] rfl)
              · skip
                rw [← nI_0] at c_44
                have c_44 : hh = 0 := n_eq c_44 (by omega) (by omega)
                refine lv_iconst (v := (-1)) hx hb dT_row_47 (by decide) ?_
                exact ro_iret hQ hx hb hr hlocks dT_row_48 (by rw [← hg, m_row, if_pos c_44]; rfl)
        exact lp_37 (k + 1) k (Hh j) 1 1 (by omega) (by omega) (by omega) (by omega) (by omega) (by omega) rfl ls (lv_sub hl [3, 4, 5, 2, 1, 0] rfl)
      · skip
        have c_19 : (Hh j) < k := n_nle c_19 (by omega) (by omega)
        omega

abbrev rm_c_row_nob : Room := { frames := 1, cells := 0, slots := 0, locals := 21 }
set_option maxRecDepth 100000 in
set_option maxHeartbeats 4000000 in
theorem c_row_nob (l : Launch) (D : va_G) (cI cJ cZ : ClassId) (o : Nat) (rm : Nat) (n : Nat) (bs : Nat) (aP : Nat) (aH : Nat) (aC : Nat) (aT : Nat) (aB : Nat) (aZ : Nat) (aW : Nat) (aR : Nat) (oR : Nat) (oW : Nat) (x : Int32) (h : Int32) (hx9 : ¬ (0 ≤ x ∧ x < nI n)) : ro_C l yT_row wT_row rm_c_row_nob D vwCl (gT cI cJ cZ) [.ref o, .int x, .int h] [(o, .inr (2, [.int (nI rm), .int (nI n), .int (nI bs), .ref aP, .ref aH, .ref aC, .ref aT, .ref aB, .ref aZ, .ref aW, .ref aR, .ref oR, .ref oW]))] (some (.int (-1))) := by
  refine ro_of (cc := cT_row) (maxL := 6) (ret := some .int) (by decide) rfl (Nat.le_of_ble_eq_true rfl) ?_
  intro p e s m args below meth c Q ls hx hb hr hml hown hts hlocks hK hP hl hQ
  have hl : lv_has ls 6 [(0, .ref o), (1, .int x), (2, .int h)] := hl
  have hown : s.vm.findClass RT = some m.cls := hown
  refine lv_aload_n hx hb dT_row_0 rfl (lv_at hl 0 rfl) ?_
  refine lv_iload_n hx hb dT_row_1 rfl (lv_at hl 1 rfl) ?_
  refine ro_ki (va_runV (As := [.int x]) (rest := []) ⟨hx, hb, hml, hown, hts⟩ (c_isBlock_no l D cI cJ cZ o rm n bs aP aH aC aT aB aZ aW aR oR oW x hx9) (cwV 1 hts gT_row_T_isBlock_76 rfl rfl rfl (by decide +kernel) ⟨Nat.le_of_ble_eq_true rfl, Nat.le_of_ble_eq_true rfl⟩) (ro_preV (hP.sub [0] rfl) hK (va_recv hK hP (ci := 2) (q0 := 0) rfl rfl)) rfl rfl hl.1 rfl (lv_room (Nat.le_of_ble_eq_true rfl)) dT_row_2 ⟨Nat.le_of_ble_eq_true rfl, Nat.le_of_ble_eq_true rfl⟩) ?_
  refine lv_if_eq (tgt := 22) hx hb dT_row_5 (by decide) (fun c_5 => ?_) (fun c_5 => ?_)
  · skip
    rw [← nI_0] at c_5
    have c_5 : 0 = 0 := n_eq c_5 (by omega) (by omega)
    refine lv_iconst (v := (-1)) hx hb dT_row_22 (by decide) ?_
    exact ro_iret hQ hx hb hr hlocks dT_row_23 rfl
  · skip
    rw [← nI_0] at c_5
    have c_5 : ¬ 0 = 0 := n_ne c_5
    omega

abbrev rm_c_row_nok : Room := { frames := 1, cells := 0, slots := 0, locals := 21 }
set_option maxRecDepth 100000 in
set_option maxHeartbeats 4000000 in
theorem c_row_nok (l : Launch) (D : va_G) (cI cJ cZ : ClassId) (o : Nat) (rm : Nat) (n : Nat) (bs : Nat) (aP : Nat) (aH : Nat) (aC : Nat) (aT : Nat) (aB : Nat) (aZ : Nat) (aW : Nat) (aR : Nat) (oR : Nat) (oW : Nat) (Hh : Nat → Nat) (j : Nat) (h : Int32) (hn3 : n ≤ rm) (hr3 : rm ≤ 300) (hj : j < n) (hh9 : ¬ (0 ≤ h ∧ h ≤ nI (Hh j))) : ro_C l yT_row wT_row rm_c_row_nok D vwCl (gT cI cJ cZ) [.ref o, .int (nI j), .int h] [(o, .inr (2, [.int (nI rm), .int (nI n), .int (nI bs), .ref aP, .ref aH, .ref aC, .ref aT, .ref aB, .ref aZ, .ref aW, .ref aR, .ref oR, .ref oW])), (aH, .inl (cI, rm, .inl (nF Hh)))] (some (.int (-1))) := by
  refine ro_of (cc := cT_row) (maxL := 6) (ret := some .int) (by decide) rfl (Nat.le_of_ble_eq_true rfl) ?_
  intro p e s m args below meth c Q ls hx hb hr hml hown hts hlocks hK hP hl hQ
  have hl : lv_has ls 6 [(0, .ref o), (1, .int (nI j)), (2, .int h)] := hl
  have hown : s.vm.findClass RT = some m.cls := hown
  refine lv_aload_n hx hb dT_row_0 rfl (lv_at hl 0 rfl) ?_
  refine lv_iload_n hx hb dT_row_1 rfl (lv_at hl 1 rfl) ?_
  refine ro_ki (va_runV (As := [.int (nI j)]) (rest := []) ⟨hx, hb, hml, hown, hts⟩ (c_isBlock_ok l D cI cJ cZ o rm n bs aP aH aC aT aB aZ aW aR oR oW j (by omega) (by omega)) (cwV 1 hts gT_row_T_isBlock_76 rfl rfl rfl (by decide +kernel) ⟨Nat.le_of_ble_eq_true rfl, Nat.le_of_ble_eq_true rfl⟩) (ro_preV (hP.sub [0] rfl) hK (va_recv hK hP (ci := 2) (q0 := 0) rfl rfl)) rfl rfl hl.1 rfl (lv_room (Nat.le_of_ble_eq_true rfl)) dT_row_2 ⟨Nat.le_of_ble_eq_true rfl, Nat.le_of_ble_eq_true rfl⟩) ?_
  refine lv_if_eq (tgt := 22) hx hb dT_row_5 (by decide) (fun c_5 => ?_) (fun c_5 => ?_)
  · skip
    rw [← nI_0] at c_5
    have c_5 : 1 = 0 := n_eq c_5 (by omega) (by omega)
    omega
  · skip
    rw [← nI_0] at c_5
    have c_5 : ¬ 1 = 0 := n_ne c_5
    refine lv_iload_n hx hb dT_row_8 rfl (lv_at hl 2 rfl) ?_
    refine lv_if_lt (tgt := 22) hx hb dT_row_9 (by decide) (fun c_9 => ?_) (fun c_9 => ?_)
    · skip
      refine lv_iconst (v := (-1)) hx hb dT_row_22 (by decide) ?_
      exact ro_iret hQ hx hb hr hlocks dT_row_23 rfl
    · skip
      refine lv_iload_n hx hb dT_row_12 rfl (lv_at hl 2 rfl) ?_
      refine lv_aload_n hx hb dT_row_13 rfl (lv_at hl 0 rfl) ?_
      refine va_get (D := D) (ci := 2) (v := .ref aH) (C := RT) (T := TT) (N := 13) hx hb hts iT_row_T hown hK hP 0 rfl rfl 4 (by decide) (hts (.fieldLink RT 17 "TreeDesk" "heights" "[I") (by decide +kernel)) (fun _ h9 => h9) rfl dT_row_14 ?_
      refine lv_iload_n hx hb dT_row_17 rfl (lv_at hl 1 rfl) ?_
      refine ar_ild (j := j) hx hb hK hP 1 0 rfl rfl dT_row_18 (by omega) (by omega) ?_
      refine tp_i (y := nI (Hh j)) rfl ?_
      refine lv_icmp_le (tgt := 24) hx hb dT_row_19 (by decide) (fun c_19 => ?_) (fun c_19 => ?_)
      · skip
        exact absurd ⟨Int32.not_lt.mp c_9, c_19⟩ hh9
      · skip
        refine lv_iconst (v := (-1)) hx hb dT_row_22 (by decide) ?_
        exact ro_iret hQ hx hb hr hlocks dT_row_23 rfl

abbrev rm_c_look_0 : Room := { frames := 1, cells := 0, slots := 0, locals := 21 }
set_option maxRecDepth 100000 in
set_option maxHeartbeats 4000000 in
theorem c_look_0 (l : Launch) (D : va_G) (cI cJ cZ : ClassId) (o : Nat) (rm : Nat) (n : Nat) (bs : Nat) (aP : Nat) (aH : Nat) (aC : Nat) (aT : Nat) (aB : Nat) (aZ : Nat) (aW : Nat) (aR : Nat) (oR : Nat) (oW : Nat) (P : Nat → Nat) (j : Nat) (hn3 : n ≤ rm) (hr3 : rm ≤ 300) (hj : j < n) : ro_C l yT_look wT_look rm_c_look_0 D vwCl (gT cI cJ cZ) [.ref o, .int (nI j), .int (nI 0)] [(o, .inr (2, [.int (nI rm), .int (nI n), .int (nI bs), .ref aP, .ref aH, .ref aC, .ref aT, .ref aB, .ref aZ, .ref aW, .ref aR, .ref oR, .ref oW])), (aP, .inl (cI, rm, .inl (pF P)))] (some (.long ((pF P j).toInt64))) := by
  refine ro_of (cc := cT_look) (maxL := 3) (ret := some .long) (by decide) rfl (Nat.le_of_ble_eq_true rfl) ?_
  intro p e s m args below meth c Q ls hx hb hr hml hown hts hlocks hK hP hl hQ
  have hl : lv_has ls 3 [(0, .ref o), (1, .int (nI j)), (2, .int (nI 0))] := hl
  have hown : s.vm.findClass RT = some m.cls := hown
  refine lv_aload_n hx hb dT_look_0 rfl (lv_at hl 0 rfl) ?_
  refine lv_iload_n hx hb dT_look_1 rfl (lv_at hl 1 rfl) ?_
  refine ro_ki (va_runV (As := [.int (nI j)]) (rest := []) ⟨hx, hb, hml, hown, hts⟩ (c_isBlock_ok l D cI cJ cZ o rm n bs aP aH aC aT aB aZ aW aR oR oW j (by omega) (by omega)) (cwV 1 hts gT_look_T_isBlock_76 rfl rfl rfl (by decide +kernel) ⟨Nat.le_of_ble_eq_true rfl, Nat.le_of_ble_eq_true rfl⟩) (ro_preV (hP.sub [0] rfl) hK (va_recv hK hP (ci := 2) (q0 := 0) rfl rfl)) rfl rfl hl.1 rfl (lv_room (Nat.le_of_ble_eq_true rfl)) dT_look_2 ⟨Nat.le_of_ble_eq_true rfl, Nat.le_of_ble_eq_true rfl⟩) ?_
  refine lv_if_ne (tgt := 12) hx hb dT_look_5 (by decide) (fun c_5 => ?_) (fun c_5 => ?_)
  · skip
    rw [← nI_0] at c_5
    have c_5 : ¬ 1 = 0 := n_ne c_5
    refine lv_iload_n hx hb dT_look_12 rfl (lv_at hl 2 rfl) ?_
    refine lv_tableIn (tgt := 52) hx hb dT_look_13 (by decide) (by decide) rfl (by decide) ?_
    refine lv_aload_n hx hb dT_look_52 rfl (lv_at hl 0 rfl) ?_
    refine va_get (D := D) (ci := 2) (v := .ref aP) (C := RT) (T := TT) (N := 13) hx hb hts iT_look_T hown hK hP 0 rfl rfl 3 (by decide) (hts (.fieldLink RT 13 "TreeDesk" "parents" "[I") (by decide +kernel)) (fun _ h9 => h9) rfl dT_look_53 ?_
    refine lv_iload_n hx hb dT_look_56 rfl (lv_at hl 1 rfl) ?_
    refine ar_ild (j := j) hx hb hK hP 1 0 rfl rfl dT_look_57 (by omega) (by omega) ?_
    refine lv_i2l (v := ((pF P) j).toInt64) hx hb dT_look_58 rfl ?_
    exact ro_lret hQ hx hb hr hlocks dT_look_59 rfl
  · skip
    rw [← nI_0] at c_5
    have c_5 : 1 = 0 := n_eq c_5 (by omega) (by omega)
    omega

abbrev rm_c_look_1 : Room := { frames := 1, cells := 0, slots := 0, locals := 21 }
set_option maxRecDepth 100000 in
set_option maxHeartbeats 4000000 in
theorem c_look_1 (l : Launch) (D : va_G) (cI cJ cZ : ClassId) (o : Nat) (rm : Nat) (n : Nat) (bs : Nat) (aP : Nat) (aH : Nat) (aC : Nat) (aT : Nat) (aB : Nat) (aZ : Nat) (aW : Nat) (aR : Nat) (oR : Nat) (oW : Nat) (Hh : Nat → Nat) (j : Nat) (hn3 : n ≤ rm) (hr3 : rm ≤ 300) (hj : j < n) : ro_C l yT_look wT_look rm_c_look_1 D vwCl (gT cI cJ cZ) [.ref o, .int (nI j), .int (nI 1)] [(o, .inr (2, [.int (nI rm), .int (nI n), .int (nI bs), .ref aP, .ref aH, .ref aC, .ref aT, .ref aB, .ref aZ, .ref aW, .ref aR, .ref oR, .ref oW])), (aH, .inl (cI, rm, .inl (nF Hh)))] (some (.long ((nI (Hh j)).toInt64))) := by
  refine ro_of (cc := cT_look) (maxL := 3) (ret := some .long) (by decide) rfl (Nat.le_of_ble_eq_true rfl) ?_
  intro p e s m args below meth c Q ls hx hb hr hml hown hts hlocks hK hP hl hQ
  have hl : lv_has ls 3 [(0, .ref o), (1, .int (nI j)), (2, .int (nI 1))] := hl
  have hown : s.vm.findClass RT = some m.cls := hown
  refine lv_aload_n hx hb dT_look_0 rfl (lv_at hl 0 rfl) ?_
  refine lv_iload_n hx hb dT_look_1 rfl (lv_at hl 1 rfl) ?_
  refine ro_ki (va_runV (As := [.int (nI j)]) (rest := []) ⟨hx, hb, hml, hown, hts⟩ (c_isBlock_ok l D cI cJ cZ o rm n bs aP aH aC aT aB aZ aW aR oR oW j (by omega) (by omega)) (cwV 1 hts gT_look_T_isBlock_76 rfl rfl rfl (by decide +kernel) ⟨Nat.le_of_ble_eq_true rfl, Nat.le_of_ble_eq_true rfl⟩) (ro_preV (hP.sub [0] rfl) hK (va_recv hK hP (ci := 2) (q0 := 0) rfl rfl)) rfl rfl hl.1 rfl (lv_room (Nat.le_of_ble_eq_true rfl)) dT_look_2 ⟨Nat.le_of_ble_eq_true rfl, Nat.le_of_ble_eq_true rfl⟩) ?_
  refine lv_if_ne (tgt := 12) hx hb dT_look_5 (by decide) (fun c_5 => ?_) (fun c_5 => ?_)
  · skip
    rw [← nI_0] at c_5
    have c_5 : ¬ 1 = 0 := n_ne c_5
    refine lv_iload_n hx hb dT_look_12 rfl (lv_at hl 2 rfl) ?_
    refine lv_tableIn (tgt := 60) hx hb dT_look_13 (by decide) (by decide) rfl (by decide) ?_
    refine lv_aload_n hx hb dT_look_60 rfl (lv_at hl 0 rfl) ?_
    refine va_get (D := D) (ci := 2) (v := .ref aH) (C := RT) (T := TT) (N := 13) hx hb hts iT_look_T hown hK hP 0 rfl rfl 4 (by decide) (hts (.fieldLink RT 17 "TreeDesk" "heights" "[I") (by decide +kernel)) (fun _ h9 => h9) rfl dT_look_61 ?_
    refine lv_iload_n hx hb dT_look_64 rfl (lv_at hl 1 rfl) ?_
    refine ar_ild (j := j) hx hb hK hP 1 0 rfl rfl dT_look_65 (by omega) (by omega) ?_
    refine lv_i2l (v := ((nF Hh) j).toInt64) hx hb dT_look_66 rfl ?_
    exact ro_lret hQ hx hb hr hlocks dT_look_67 rfl
  · skip
    rw [← nI_0] at c_5
    have c_5 : 1 = 0 := n_eq c_5 (by omega) (by omega)
    omega

abbrev rm_c_look_2 : Room := { frames := 1, cells := 0, slots := 0, locals := 21 }
set_option maxRecDepth 100000 in
set_option maxHeartbeats 4000000 in
theorem c_look_2 (l : Launch) (D : va_G) (cI cJ cZ : ClassId) (o : Nat) (rm : Nat) (n : Nat) (bs : Nat) (aP : Nat) (aH : Nat) (aC : Nat) (aT : Nat) (aB : Nat) (aZ : Nat) (aW : Nat) (aR : Nat) (oR : Nat) (oW : Nat) (Tm : Nat → Int64) (j : Nat) (hn3 : n ≤ rm) (hr3 : rm ≤ 300) (hj : j < n) : ro_C l yT_look wT_look rm_c_look_2 D vwCl (gT cI cJ cZ) [.ref o, .int (nI j), .int (nI 2)] [(o, .inr (2, [.int (nI rm), .int (nI n), .int (nI bs), .ref aP, .ref aH, .ref aC, .ref aT, .ref aB, .ref aZ, .ref aW, .ref aR, .ref oR, .ref oW])), (aT, .inl (cJ, rm, .inr (.inl Tm)))] (some (.long (Tm j))) := by
  refine ro_of (cc := cT_look) (maxL := 3) (ret := some .long) (by decide) rfl (Nat.le_of_ble_eq_true rfl) ?_
  intro p e s m args below meth c Q ls hx hb hr hml hown hts hlocks hK hP hl hQ
  have hl : lv_has ls 3 [(0, .ref o), (1, .int (nI j)), (2, .int (nI 2))] := hl
  have hown : s.vm.findClass RT = some m.cls := hown
  refine lv_aload_n hx hb dT_look_0 rfl (lv_at hl 0 rfl) ?_
  refine lv_iload_n hx hb dT_look_1 rfl (lv_at hl 1 rfl) ?_
  refine ro_ki (va_runV (As := [.int (nI j)]) (rest := []) ⟨hx, hb, hml, hown, hts⟩ (c_isBlock_ok l D cI cJ cZ o rm n bs aP aH aC aT aB aZ aW aR oR oW j (by omega) (by omega)) (cwV 1 hts gT_look_T_isBlock_76 rfl rfl rfl (by decide +kernel) ⟨Nat.le_of_ble_eq_true rfl, Nat.le_of_ble_eq_true rfl⟩) (ro_preV (hP.sub [0] rfl) hK (va_recv hK hP (ci := 2) (q0 := 0) rfl rfl)) rfl rfl hl.1 rfl (lv_room (Nat.le_of_ble_eq_true rfl)) dT_look_2 ⟨Nat.le_of_ble_eq_true rfl, Nat.le_of_ble_eq_true rfl⟩) ?_
  refine lv_if_ne (tgt := 12) hx hb dT_look_5 (by decide) (fun c_5 => ?_) (fun c_5 => ?_)
  · skip
    rw [← nI_0] at c_5
    have c_5 : ¬ 1 = 0 := n_ne c_5
    refine lv_iload_n hx hb dT_look_12 rfl (lv_at hl 2 rfl) ?_
    refine lv_tableIn (tgt := 68) hx hb dT_look_13 (by decide) (by decide) rfl (by decide) ?_
    refine lv_aload_n hx hb dT_look_68 rfl (lv_at hl 0 rfl) ?_
    refine va_get (D := D) (ci := 2) (v := .ref aT) (C := RT) (T := TT) (N := 13) hx hb hts iT_look_T hown hK hP 0 rfl rfl 6 (by decide) (hts (.fieldLink RT 23 "TreeDesk" "times" "[J") (by decide +kernel)) (fun _ h9 => h9) rfl dT_look_69 ?_
    refine lv_iload_n hx hb dT_look_72 rfl (lv_at hl 1 rfl) ?_
    refine ar_lld (j := j) hx hb hK hP 1 1 rfl rfl dT_look_73 (by omega) (by omega) ?_
    exact ro_lret hQ hx hb hr hlocks dT_look_74 rfl
  · skip
    rw [← nI_0] at c_5
    have c_5 : 1 = 0 := n_eq c_5 (by omega) (by omega)
    omega

abbrev rm_c_look_3 : Room := { frames := 1, cells := 0, slots := 0, locals := 21 }
set_option maxRecDepth 100000 in
set_option maxHeartbeats 4000000 in
theorem c_look_3 (l : Launch) (D : va_G) (cI cJ cZ : ClassId) (o : Nat) (rm : Nat) (n : Nat) (bs : Nat) (aP : Nat) (aH : Nat) (aC : Nat) (aT : Nat) (aB : Nat) (aZ : Nat) (aW : Nat) (aR : Nat) (oR : Nat) (oW : Nat) (Bt : Nat → Int64) (j : Nat) (hn3 : n ≤ rm) (hr3 : rm ≤ 300) (hj : j < n) : ro_C l yT_look wT_look rm_c_look_3 D vwCl (gT cI cJ cZ) [.ref o, .int (nI j), .int (nI 3)] [(o, .inr (2, [.int (nI rm), .int (nI n), .int (nI bs), .ref aP, .ref aH, .ref aC, .ref aT, .ref aB, .ref aZ, .ref aW, .ref aR, .ref oR, .ref oW])), (aB, .inl (cJ, rm, .inr (.inl Bt)))] (some (.long (Bt j))) := by
  refine ro_of (cc := cT_look) (maxL := 3) (ret := some .long) (by decide) rfl (Nat.le_of_ble_eq_true rfl) ?_
  intro p e s m args below meth c Q ls hx hb hr hml hown hts hlocks hK hP hl hQ
  have hl : lv_has ls 3 [(0, .ref o), (1, .int (nI j)), (2, .int (nI 3))] := hl
  have hown : s.vm.findClass RT = some m.cls := hown
  refine lv_aload_n hx hb dT_look_0 rfl (lv_at hl 0 rfl) ?_
  refine lv_iload_n hx hb dT_look_1 rfl (lv_at hl 1 rfl) ?_
  refine ro_ki (va_runV (As := [.int (nI j)]) (rest := []) ⟨hx, hb, hml, hown, hts⟩ (c_isBlock_ok l D cI cJ cZ o rm n bs aP aH aC aT aB aZ aW aR oR oW j (by omega) (by omega)) (cwV 1 hts gT_look_T_isBlock_76 rfl rfl rfl (by decide +kernel) ⟨Nat.le_of_ble_eq_true rfl, Nat.le_of_ble_eq_true rfl⟩) (ro_preV (hP.sub [0] rfl) hK (va_recv hK hP (ci := 2) (q0 := 0) rfl rfl)) rfl rfl hl.1 rfl (lv_room (Nat.le_of_ble_eq_true rfl)) dT_look_2 ⟨Nat.le_of_ble_eq_true rfl, Nat.le_of_ble_eq_true rfl⟩) ?_
  refine lv_if_ne (tgt := 12) hx hb dT_look_5 (by decide) (fun c_5 => ?_) (fun c_5 => ?_)
  · skip
    rw [← nI_0] at c_5
    have c_5 : ¬ 1 = 0 := n_ne c_5
    refine lv_iload_n hx hb dT_look_12 rfl (lv_at hl 2 rfl) ?_
    refine lv_tableIn (tgt := 75) hx hb dT_look_13 (by decide) (by decide) rfl (by decide) ?_
    refine lv_aload_n hx hb dT_look_75 rfl (lv_at hl 0 rfl) ?_
    refine va_get (D := D) (ci := 2) (v := .ref aB) (C := RT) (T := TT) (N := 13) hx hb hts iT_look_T hown hK hP 0 rfl rfl 7 (by decide) (hts (.fieldLink RT 27 "TreeDesk" "bitsOf" "[J") (by decide +kernel)) (fun _ h9 => h9) rfl dT_look_76 ?_
    refine lv_iload_n hx hb dT_look_79 rfl (lv_at hl 1 rfl) ?_
    refine ar_lld (j := j) hx hb hK hP 1 1 rfl rfl dT_look_80 (by omega) (by omega) ?_
    exact ro_lret hQ hx hb hr hlocks dT_look_81 rfl
  · skip
    rw [← nI_0] at c_5
    have c_5 : 1 = 0 := n_eq c_5 (by omega) (by omega)
    omega

abbrev rm_c_look_4 : Room := { frames := 1, cells := 0, slots := 0, locals := 21 }
set_option maxRecDepth 100000 in
set_option maxHeartbeats 4000000 in
theorem c_look_4 (l : Launch) (D : va_G) (cI cJ cZ : ClassId) (o : Nat) (rm : Nat) (n : Nat) (bs : Nat) (aP : Nat) (aH : Nat) (aC : Nat) (aT : Nat) (aB : Nat) (aZ : Nat) (aW : Nat) (aR : Nat) (oR : Nat) (oW : Nat) (Zb : Nat → Nat) (j : Nat) (hn3 : n ≤ rm) (hr3 : rm ≤ 300) (hj : j < n) (hz3 : Zb j < 2) : ro_C l yT_look wT_look rm_c_look_4 D vwCl (gT cI cJ cZ) [.ref o, .int (nI j), .int (nI 4)] [(o, .inr (2, [.int (nI rm), .int (nI n), .int (nI bs), .ref aP, .ref aH, .ref aC, .ref aT, .ref aB, .ref aZ, .ref aW, .ref aR, .ref oR, .ref oW])), (aZ, .inl (cZ, rm, .inl (nF Zb)))] (some (.long (if Zb j = 0 then 0 else 1))) := by
  refine ro_of (cc := cT_look) (maxL := 3) (ret := some .long) (by decide) rfl (Nat.le_of_ble_eq_true rfl) ?_
  intro p e s m args below meth c Q ls hx hb hr hml hown hts hlocks hK hP hl hQ
  have hl : lv_has ls 3 [(0, .ref o), (1, .int (nI j)), (2, .int (nI 4))] := hl
  have hown : s.vm.findClass RT = some m.cls := hown
  refine lv_aload_n hx hb dT_look_0 rfl (lv_at hl 0 rfl) ?_
  refine lv_iload_n hx hb dT_look_1 rfl (lv_at hl 1 rfl) ?_
  refine ro_ki (va_runV (As := [.int (nI j)]) (rest := []) ⟨hx, hb, hml, hown, hts⟩ (c_isBlock_ok l D cI cJ cZ o rm n bs aP aH aC aT aB aZ aW aR oR oW j (by omega) (by omega)) (cwV 1 hts gT_look_T_isBlock_76 rfl rfl rfl (by decide +kernel) ⟨Nat.le_of_ble_eq_true rfl, Nat.le_of_ble_eq_true rfl⟩) (ro_preV (hP.sub [0] rfl) hK (va_recv hK hP (ci := 2) (q0 := 0) rfl rfl)) rfl rfl hl.1 rfl (lv_room (Nat.le_of_ble_eq_true rfl)) dT_look_2 ⟨Nat.le_of_ble_eq_true rfl, Nat.le_of_ble_eq_true rfl⟩) ?_
  refine lv_if_ne (tgt := 12) hx hb dT_look_5 (by decide) (fun c_5 => ?_) (fun c_5 => ?_)
  · skip
    rw [← nI_0] at c_5
    have c_5 : ¬ 1 = 0 := n_ne c_5
    refine lv_iload_n hx hb dT_look_12 rfl (lv_at hl 2 rfl) ?_
    refine lv_tableIn (tgt := 82) hx hb dT_look_13 (by decide) (by decide) rfl (by decide) ?_
    refine lv_aload_n hx hb dT_look_82 rfl (lv_at hl 0 rfl) ?_
    refine va_get (D := D) (ci := 2) (v := .ref aZ) (C := RT) (T := TT) (N := 13) hx hb hts iT_look_T hown hK hP 0 rfl rfl 8 (by decide) (hts (.fieldLink RT 30 "TreeDesk" "bad" "[Z") (by decide +kernel)) (fun _ h9 => h9) rfl dT_look_83 ?_
    refine lv_iload_n hx hb dT_look_86 rfl (lv_at hl 1 rfl) ?_
    refine ar_zld (j := j) hx hb hK hP 1 2 rfl rfl dT_look_87 (by omega) (by omega) ?_
    refine tp_i (y := nI (Zb j)) rfl ?_
    refine lv_if_eq (tgt := 95) hx hb dT_look_88 (by decide) (fun c_88 => ?_) (fun c_88 => ?_)
    · skip
      rw [← nI_0] at c_88
      have c_88 : (Zb j) = 0 := n_eq c_88 (by omega) (by omega)
      refine lv_lconst (v := 0) hx hb dT_look_95 (by decide) ?_
      exact ro_lret hQ hx hb hr hlocks dT_look_96 (by rw [if_pos c_88])
    · skip
      rw [← nI_0] at c_88
      have c_88 : ¬ (Zb j) = 0 := n_ne c_88
      refine lv_lconst (v := 1) hx hb dT_look_91 (by decide) ?_
      refine lv_goto (tgt := 96) hx hb dT_look_92 (by decide) ?_
      exact ro_lret hQ hx hb hr hlocks dT_look_96 (by rw [if_neg c_88])
  · skip
    rw [← nI_0] at c_5
    have c_5 : 1 = 0 := n_eq c_5 (by omega) (by omega)
    omega

abbrev rm_c_look_5 : Room := { frames := 1, cells := 0, slots := 0, locals := 21 }
set_option maxRecDepth 100000 in
set_option maxHeartbeats 4000000 in
theorem c_look_5 (l : Launch) (D : va_G) (cI cJ cZ : ClassId) (o : Nat) (rm : Nat) (n : Nat) (bs : Nat) (aP : Nat) (aH : Nat) (aC : Nat) (aT : Nat) (aB : Nat) (aZ : Nat) (aW : Nat) (aR : Nat) (oR : Nat) (oW : Nat) (Ch : Nat → Nat) (j : Nat) (hn3 : n ≤ rm) (hr3 : rm ≤ 300) (hj : j < n) : ro_C l yT_look wT_look rm_c_look_5 D vwCl (gT cI cJ cZ) [.ref o, .int (nI j), .int (nI 5)] [(o, .inr (2, [.int (nI rm), .int (nI n), .int (nI bs), .ref aP, .ref aH, .ref aC, .ref aT, .ref aB, .ref aZ, .ref aW, .ref aR, .ref oR, .ref oW])), (aC, .inl (cI, rm, .inl (nF Ch)))] (some (.long ((nI (Ch j)).toInt64))) := by
  refine ro_of (cc := cT_look) (maxL := 3) (ret := some .long) (by decide) rfl (Nat.le_of_ble_eq_true rfl) ?_
  intro p e s m args below meth c Q ls hx hb hr hml hown hts hlocks hK hP hl hQ
  have hl : lv_has ls 3 [(0, .ref o), (1, .int (nI j)), (2, .int (nI 5))] := hl
  have hown : s.vm.findClass RT = some m.cls := hown
  refine lv_aload_n hx hb dT_look_0 rfl (lv_at hl 0 rfl) ?_
  refine lv_iload_n hx hb dT_look_1 rfl (lv_at hl 1 rfl) ?_
  refine ro_ki (va_runV (As := [.int (nI j)]) (rest := []) ⟨hx, hb, hml, hown, hts⟩ (c_isBlock_ok l D cI cJ cZ o rm n bs aP aH aC aT aB aZ aW aR oR oW j (by omega) (by omega)) (cwV 1 hts gT_look_T_isBlock_76 rfl rfl rfl (by decide +kernel) ⟨Nat.le_of_ble_eq_true rfl, Nat.le_of_ble_eq_true rfl⟩) (ro_preV (hP.sub [0] rfl) hK (va_recv hK hP (ci := 2) (q0 := 0) rfl rfl)) rfl rfl hl.1 rfl (lv_room (Nat.le_of_ble_eq_true rfl)) dT_look_2 ⟨Nat.le_of_ble_eq_true rfl, Nat.le_of_ble_eq_true rfl⟩) ?_
  refine lv_if_ne (tgt := 12) hx hb dT_look_5 (by decide) (fun c_5 => ?_) (fun c_5 => ?_)
  · skip
    rw [← nI_0] at c_5
    have c_5 : ¬ 1 = 0 := n_ne c_5
    refine lv_iload_n hx hb dT_look_12 rfl (lv_at hl 2 rfl) ?_
    refine lv_tableIn (tgt := 97) hx hb dT_look_13 (by decide) (by decide) rfl (by decide) ?_
    refine lv_aload_n hx hb dT_look_97 rfl (lv_at hl 0 rfl) ?_
    refine va_get (D := D) (ci := 2) (v := .ref aC) (C := RT) (T := TT) (N := 13) hx hb hts iT_look_T hown hK hP 0 rfl rfl 5 (by decide) (hts (.fieldLink RT 20 "TreeDesk" "children" "[I") (by decide +kernel)) (fun _ h9 => h9) rfl dT_look_98 ?_
    refine lv_iload_n hx hb dT_look_101 rfl (lv_at hl 1 rfl) ?_
    refine ar_ild (j := j) hx hb hK hP 1 0 rfl rfl dT_look_102 (by omega) (by omega) ?_
    refine lv_i2l (v := ((nF Ch) j).toInt64) hx hb dT_look_103 rfl ?_
    exact ro_lret hQ hx hb hr hlocks dT_look_104 rfl
  · skip
    rw [← nI_0] at c_5
    have c_5 : 1 = 0 := n_eq c_5 (by omega) (by omega)
    omega

abbrev rm_c_look_out : Room := { frames := 1, cells := 0, slots := 0, locals := 21 }
set_option maxRecDepth 100000 in
set_option maxHeartbeats 4000000 in
theorem c_look_out (l : Launch) (D : va_G) (cI cJ cZ : ClassId) (o : Nat) (rm : Nat) (n : Nat) (bs : Nat) (aP : Nat) (aH : Nat) (aC : Nat) (aT : Nat) (aB : Nat) (aZ : Nat) (aW : Nat) (aR : Nat) (oR : Nat) (oW : Nat) (j : Nat) (w : Int32) (hn9 : n ≤ 300) (hj : j < n) (hw9 : w.toInt < 0 ∨ 5 < w.toInt) : ro_C l yT_look wT_look rm_c_look_out D vwCl (gT cI cJ cZ) [.ref o, .int (nI j), .int w] [(o, .inr (2, [.int (nI rm), .int (nI n), .int (nI bs), .ref aP, .ref aH, .ref aC, .ref aT, .ref aB, .ref aZ, .ref aW, .ref aR, .ref oR, .ref oW]))] (some (.long (-1))) := by
  refine ro_of (cc := cT_look) (maxL := 3) (ret := some .long) (by decide) rfl (Nat.le_of_ble_eq_true rfl) ?_
  intro p e s m args below meth c Q ls hx hb hr hml hown hts hlocks hK hP hl hQ
  have hl : lv_has ls 3 [(0, .ref o), (1, .int (nI j)), (2, .int w)] := hl
  have hown : s.vm.findClass RT = some m.cls := hown
  refine lv_aload_n hx hb dT_look_0 rfl (lv_at hl 0 rfl) ?_
  refine lv_iload_n hx hb dT_look_1 rfl (lv_at hl 1 rfl) ?_
  refine ro_ki (va_runV (As := [.int (nI j)]) (rest := []) ⟨hx, hb, hml, hown, hts⟩ (c_isBlock_ok l D cI cJ cZ o rm n bs aP aH aC aT aB aZ aW aR oR oW j (by omega) (by omega)) (cwV 1 hts gT_look_T_isBlock_76 rfl rfl rfl (by decide +kernel) ⟨Nat.le_of_ble_eq_true rfl, Nat.le_of_ble_eq_true rfl⟩) (ro_preV (hP.sub [0] rfl) hK (va_recv hK hP (ci := 2) (q0 := 0) rfl rfl)) rfl rfl hl.1 rfl (lv_room (Nat.le_of_ble_eq_true rfl)) dT_look_2 ⟨Nat.le_of_ble_eq_true rfl, Nat.le_of_ble_eq_true rfl⟩) ?_
  refine lv_if_ne (tgt := 12) hx hb dT_look_5 (by decide) (fun c_5 => ?_) (fun c_5 => ?_)
  · skip
    rw [← nI_0] at c_5
    have c_5 : ¬ 1 = 0 := n_ne c_5
    refine lv_iload_n hx hb dT_look_12 rfl (lv_at hl 2 rfl) ?_
    refine lv_tableOut (tgt := 105) hx hb dT_look_13 hw9 (by decide) ?_
    refine lv_ldc2 (v := (-1)) hx hb hown (hts (.constantLong RT 99 (-1)) (by decide +kernel)) dT_look_105 ?_
    exact ro_lret hQ hx hb hr hlocks dT_look_108 rfl
  · skip
    rw [← nI_0] at c_5
    have c_5 : 1 = 0 := n_eq c_5 (by omega) (by omega)
    omega

abbrev rm_c_look_nob : Room := { frames := 1, cells := 0, slots := 0, locals := 21 }
set_option maxRecDepth 100000 in
set_option maxHeartbeats 4000000 in
theorem c_look_nob (l : Launch) (D : va_G) (cI cJ cZ : ClassId) (o : Nat) (rm : Nat) (n : Nat) (bs : Nat) (aP : Nat) (aH : Nat) (aC : Nat) (aT : Nat) (aB : Nat) (aZ : Nat) (aW : Nat) (aR : Nat) (oR : Nat) (oW : Nat) (x : Int32) (w : Int32) (hx9 : ¬ (0 ≤ x ∧ x < nI n)) : ro_C l yT_look wT_look rm_c_look_nob D vwCl (gT cI cJ cZ) [.ref o, .int x, .int w] [(o, .inr (2, [.int (nI rm), .int (nI n), .int (nI bs), .ref aP, .ref aH, .ref aC, .ref aT, .ref aB, .ref aZ, .ref aW, .ref aR, .ref oR, .ref oW]))] (some (.long (-1))) := by
  refine ro_of (cc := cT_look) (maxL := 3) (ret := some .long) (by decide) rfl (Nat.le_of_ble_eq_true rfl) ?_
  intro p e s m args below meth c Q ls hx hb hr hml hown hts hlocks hK hP hl hQ
  have hl : lv_has ls 3 [(0, .ref o), (1, .int x), (2, .int w)] := hl
  have hown : s.vm.findClass RT = some m.cls := hown
  refine lv_aload_n hx hb dT_look_0 rfl (lv_at hl 0 rfl) ?_
  refine lv_iload_n hx hb dT_look_1 rfl (lv_at hl 1 rfl) ?_
  refine ro_ki (va_runV (As := [.int x]) (rest := []) ⟨hx, hb, hml, hown, hts⟩ (c_isBlock_no l D cI cJ cZ o rm n bs aP aH aC aT aB aZ aW aR oR oW x hx9) (cwV 1 hts gT_look_T_isBlock_76 rfl rfl rfl (by decide +kernel) ⟨Nat.le_of_ble_eq_true rfl, Nat.le_of_ble_eq_true rfl⟩) (ro_preV (hP.sub [0] rfl) hK (va_recv hK hP (ci := 2) (q0 := 0) rfl rfl)) rfl rfl hl.1 rfl (lv_room (Nat.le_of_ble_eq_true rfl)) dT_look_2 ⟨Nat.le_of_ble_eq_true rfl, Nat.le_of_ble_eq_true rfl⟩) ?_
  refine lv_if_ne (tgt := 12) hx hb dT_look_5 (by decide) (fun c_5 => ?_) (fun c_5 => ?_)
  · skip
    rw [← nI_0] at c_5
    have c_5 : ¬ 0 = 0 := n_ne c_5
    omega
  · skip
    rw [← nI_0] at c_5
    have c_5 : 0 = 0 := n_eq c_5 (by omega) (by omega)
    refine lv_ldc2 (v := (-1)) hx hb hown (hts (.constantLong RT 99 (-1)) (by decide +kernel)) dT_look_8 ?_
    exact ro_lret hQ hx hb hr hlocks dT_look_11 rfl

abbrev rm_c_rank : Room := { frames := 0, cells := 0, slots := 0, locals := 0 }
set_option maxRecDepth 100000 in
set_option maxHeartbeats 4000000 in
theorem c_rank (l : Launch) (D : va_G) (cI cJ cZ : ClassId) (o : Nat) (rm : Nat) (n : Nat) (bs : Nat) (aP : Nat) (aH : Nat) (aC : Nat) (aT : Nat) (aB : Nat) (aZ : Nat) (aW : Nat) (aR : Nat) (oR : Nat) (oW : Nat) (Rk : Nat → Int64) (t : Int64) (c9 : Nat) (hc9 : c9 < 11) : rw_C l yT_rank wT_rank rm_c_rank D vwCl (gT cI cJ cZ) [.ref o, .long t, .int (nI c9)] [(o, .inr (2, [.int (nI rm), .int (nI n), .int (nI bs), .ref aP, .ref aH, .ref aC, .ref aT, .ref aB, .ref aZ, .ref aW, .ref aR, .ref oR, .ref oW])), (aR, .inl (cJ, 11, .inr (.inl Rk)))] (fun v9 w9 => v9 = none ∧ w9 = [(o, .inr (2, [.int (nI rm), .int (nI n), .int (nI bs), .ref aP, .ref aH, .ref aC, .ref aT, .ref aB, .ref aZ, .ref aW, .ref aR, .ref oR, .ref oW])), (aR, .inl (cJ, 11, .inr (.inl (m_rank t c9 Rk))))]) 0 0 := by
  refine rw_of (cc := cT_rank) (maxL := 5) (ret := none) (by decide) rfl (Nat.le_of_ble_eq_true rfl) ?_
  intro p e s m args below meth c Q A ls hx hb hr hml hown hts hlocks hin hK hP hD hA hl hQ
  have hS : va_S A s.heap s.heap [] := va_S.rf
  have hl : lv_has ls 5 [(0, .ref o), (1, .long t), (3, .int (nI c9))] := hl
  have hown : s.vm.findClass RT = some m.cls := hown
  obtain ⟨H, hHe⟩ : ∃ H : Heap, H = s.heap := ⟨_, rfl⟩
  rw [← hHe] at hP
  have hS : va_S A s.heap H [] := by rw [hHe]; exact va_S.rf
  suffices h9 : W p l e rm_c_rank s m args below meth c H [] 0 0 Q (F0 m 0 ls []) by rw [hHe] at h9; exact h9
  clear hHe
  refine lv_iload_n hx hb dT_rank_0 rfl (lv_at hl 2 rfl) ?_
  refine lv_istore (lv' := [(4, .int (nI c9)), (0, .ref o), (1, .long t), (3, .int (nI c9))]) hx hb dT_rank_1 hl (by decide) rfl (fun ls hl => ?_)
  have lp_3 : ∀ (n_3 : Nat) (k : Nat) (g : Nat → Int64), (k < n_3) → (k < 11) → (m_rank t k g = m_rank t c9 Rk) → ∀ (H : Heap) (locs : List Loc), va_P D vwCl [(o, .inr (2, [.int (nI rm), .int (nI n), .int (nI bs), .ref aP, .ref aH, .ref aC, .ref aT, .ref aB, .ref aZ, .ref aW, .ref aR, .ref oR, .ref oW])), (aR, .inl (cJ, 11, .inr (.inl g)))] H → va_D A [(o, .inr (2, [.int (nI rm), .int (nI n), .int (nI bs), .ref aP, .ref aH, .ref aC, .ref aT, .ref aB, .ref aZ, .ref aW, .ref aR, .ref oR, .ref oW])), (aR, .inl (cJ, 11, .inr (.inl g)))] → va_S A s.heap H locs → ∀ (ls : Array Slot), lv_has ls 5 [(0, .ref o), (1, .long t), (4, .int (nI k))] → W p l e rm_c_rank s m args below meth c H locs 0 0 Q (F0 m 3 ls []) := by
    intro n_3
    induction n_3 with
    | zero => intro k g hn hk hg H locs hP hD hS ls hl; exact absurd hn (by omega)
    | succ n_3 ih_3 =>
      intro k g hn hk hg H locs hP hD hS ls hl
      refine lv_iload hx hb dT_rank_3 (lv_at hl 2 rfl) ?_
      refine lv_if_le (tgt := 44) hx hb dT_rank_5 (by decide) (fun c_5 => ?_) (fun c_5 => ?_)
      · skip
        rw [← nI_0] at c_5
        have c_5 : k ≤ 0 := n_le c_5 (by omega) (by omega)
        have hk0 : k = 0 := by omega
        subst hk0
        refine lv_aload_n hx hb dT_rank_44 rfl (lv_at hl 0 rfl) ?_
        refine va_get (D := D) (ci := 2) (v := .ref aR) (C := RT) (T := TT) (N := 13) hx hb hts iT_rank_T hown hK hP 0 rfl rfl 10 (by decide) (hts (.fieldLink RT 39 "TreeDesk" "ranked" "[J") (by decide +kernel)) (fun _ h9 => h9) rfl dT_rank_45 ?_
        refine lv_iload hx hb dT_rank_48 (lv_at hl 2 rfl) ?_
        refine lv_lload_n hx hb dT_rank_50 rfl (lv_at hl 1 rfl) ?_
        refine ar_lst (j := 0) hx hb hK hP hD hS 1 1 rfl rfl dT_rank_51 (by omega) (by omega) (fun H locs hP hD hS => ?_)
        have hP : va_P D vwCl [(o, .inr (2, [.int (nI rm), .int (nI n), .int (nI bs), .ref aP, .ref aH, .ref aC, .ref aT, .ref aB, .ref aZ, .ref aW, .ref aR, .ref oR, .ref oW])), (aR, .inl (cJ, 11, .inr (.inl (vp_updL g 0 t))))] H := hP
        have hD : va_D A [(o, .inr (2, [.int (nI rm), .int (nI n), .int (nI bs), .ref aP, .ref aH, .ref aC, .ref aT, .ref aB, .ref aZ, .ref aW, .ref aR, .ref oR, .ref oW])), (aR, .inl (cJ, 11, .inr (.inl (vp_updL g 0 t))))] := hD
        exact rw_vret (w := [(o, .inr (2, [.int (nI rm), .int (nI n), .int (nI bs), .ref aP, .ref aH, .ref aC, .ref aT, .ref aB, .ref aZ, .ref aW, .ref aR, .ref oR, .ref oW])), (aR, .inl (cJ, 11, .inr (.inl (vp_updL g 0 t))))]) hQ hx hb hr hlocks dT_rank_52 (hP.sub [0, 1] rfl) (hD.sub [0, 1] (by decide) rfl) hS ⟨rfl, by rw [← hg]; rfl⟩
      · skip
        rw [← nI_0] at c_5
        have c_5 : 0 < k := n_nle c_5 (by omega) (by omega)
        obtain ⟨j, rfl⟩ : ∃ j' : Nat, k = j' + 1 := ⟨k - 1, by omega⟩
        refine lv_aload_n hx hb dT_rank_8 rfl (lv_at hl 0 rfl) ?_
        refine va_get (D := D) (ci := 2) (v := .ref aR) (C := RT) (T := TT) (N := 13) hx hb hts iT_rank_T hown hK hP 0 rfl rfl 10 (by decide) (hts (.fieldLink RT 39 "TreeDesk" "ranked" "[J") (by decide +kernel)) (fun _ h9 => h9) rfl dT_rank_9 ?_
        refine lv_iload hx hb dT_rank_12 (lv_at hl 2 rfl) ?_
        refine lv_iconst (v := nI 1) hx hb dT_rank_14 (by decide) ?_
        refine lv_isub hx hb dT_rank_15 ?_
        refine tp_i (y := nI ((j + 1) - 1)) (pk_sub (by omega)) ?_
        refine ar_lld (j := (j + 1) - 1) hx hb hK hP 1 1 rfl rfl dT_rank_16 (by omega) (by omega) ?_
        refine lv_lload_n hx hb dT_rank_17 rfl (lv_at hl 1 rfl) ?_
        refine lc_le (tgt := 44) hx hb dT_rank_18 dT_rank_19 (by decide) (fun c_19 => ?_) (fun c_19 => ?_)
        · skip
          have c_19 : g j ≤ t := c_19
          refine lv_aload_n hx hb dT_rank_44 rfl (lv_at hl 0 rfl) ?_
          refine va_get (D := D) (ci := 2) (v := .ref aR) (C := RT) (T := TT) (N := 13) hx hb hts iT_rank_T hown hK hP 0 rfl rfl 10 (by decide) (hts (.fieldLink RT 39 "TreeDesk" "ranked" "[J") (by decide +kernel)) (fun _ h9 => h9) rfl dT_rank_45 ?_
          refine lv_iload hx hb dT_rank_48 (lv_at hl 2 rfl) ?_
          refine lv_lload_n hx hb dT_rank_50 rfl (lv_at hl 1 rfl) ?_
          refine ar_lst (j := (j + 1)) hx hb hK hP hD hS 1 1 rfl rfl dT_rank_51 (by omega) (by omega) (fun H locs hP hD hS => ?_)
          have hP : va_P D vwCl [(o, .inr (2, [.int (nI rm), .int (nI n), .int (nI bs), .ref aP, .ref aH, .ref aC, .ref aT, .ref aB, .ref aZ, .ref aW, .ref aR, .ref oR, .ref oW])), (aR, .inl (cJ, 11, .inr (.inl (vp_updL g (j + 1) t))))] H := hP
          have hD : va_D A [(o, .inr (2, [.int (nI rm), .int (nI n), .int (nI bs), .ref aP, .ref aH, .ref aC, .ref aT, .ref aB, .ref aZ, .ref aW, .ref aR, .ref oR, .ref oW])), (aR, .inl (cJ, 11, .inr (.inl (vp_updL g (j + 1) t))))] := hD
          exact rw_vret (w := [(o, .inr (2, [.int (nI rm), .int (nI n), .int (nI bs), .ref aP, .ref aH, .ref aC, .ref aT, .ref aB, .ref aZ, .ref aW, .ref aR, .ref oR, .ref oW])), (aR, .inl (cJ, 11, .inr (.inl (vp_updL g (j + 1) t))))]) hQ hx hb hr hlocks dT_rank_52 (hP.sub [0, 1] rfl) (hD.sub [0, 1] (by decide) rfl) hS ⟨rfl, by rw [← hg, m_rank, if_pos c_19]⟩
        · skip
          have c_19 : ¬ g j ≤ t := c_19
          refine lv_aload_n hx hb dT_rank_22 rfl (lv_at hl 0 rfl) ?_
          refine va_get (D := D) (ci := 2) (v := .ref aR) (C := RT) (T := TT) (N := 13) hx hb hts iT_rank_T hown hK hP 0 rfl rfl 10 (by decide) (hts (.fieldLink RT 39 "TreeDesk" "ranked" "[J") (by decide +kernel)) (fun _ h9 => h9) rfl dT_rank_23 ?_
          refine lv_iload hx hb dT_rank_26 (lv_at hl 2 rfl) ?_
          refine lv_aload_n hx hb dT_rank_28 rfl (lv_at hl 0 rfl) ?_
          refine va_get (D := D) (ci := 2) (v := .ref aR) (C := RT) (T := TT) (N := 13) hx hb hts iT_rank_T hown hK hP 0 rfl rfl 10 (by decide) (hts (.fieldLink RT 39 "TreeDesk" "ranked" "[J") (by decide +kernel)) (fun _ h9 => h9) rfl dT_rank_29 ?_
          refine lv_iload hx hb dT_rank_32 (lv_at hl 2 rfl) ?_
          refine lv_iconst (v := nI 1) hx hb dT_rank_34 (by decide) ?_
          refine lv_isub hx hb dT_rank_35 ?_
          refine tp_i (y := nI ((j + 1) - 1)) (pk_sub (by omega)) ?_
          refine ar_lld (j := (j + 1) - 1) hx hb hK hP 1 1 rfl rfl dT_rank_36 (by omega) (by omega) ?_
          refine ar_lst (j := (j + 1)) hx hb hK hP hD hS 1 1 rfl rfl dT_rank_37 (by omega) (by omega) (fun H locs hP hD hS => ?_)
          have hP : va_P D vwCl [(o, .inr (2, [.int (nI rm), .int (nI n), .int (nI bs), .ref aP, .ref aH, .ref aC, .ref aT, .ref aB, .ref aZ, .ref aW, .ref aR, .ref oR, .ref oW])), (aR, .inl (cJ, 11, .inr (.inl (vp_updL g (j + 1) (g ((j + 1) - 1))))))] H := hP
          have hD : va_D A [(o, .inr (2, [.int (nI rm), .int (nI n), .int (nI bs), .ref aP, .ref aH, .ref aC, .ref aT, .ref aB, .ref aZ, .ref aW, .ref aR, .ref oR, .ref oW])), (aR, .inl (cJ, 11, .inr (.inl (vp_updL g (j + 1) (g ((j + 1) - 1))))))] := hD
          refine lv_iinc (v := nI ((j + 1) - 1)) (lv' := [(4, .int (nI ((j + 1) - 1))), (0, .ref o), (1, .long t)]) hx hb dT_rank_38 hl (k := 2) rfl (sb_m1 (by omega)) (by decide) rfl (fun ls hl => ?_)
          refine lv_goto (tgt := 3) hx hb dT_rank_41 (by decide) ?_
          exact ih_3 j (vp_updL g (j + 1) (g j)) (by omega) (by omega) (by rw [← hg, m_rank, if_neg c_19]) _ _ (hP.sub [0, 1] rfl) (hD.sub [0, 1] (by decide) rfl) hS ls (lv_sub hl [1, 2, 0] rfl)
  exact lp_3 (c9 + 1) c9 Rk (by omega) (by omega) rfl _ _ (hP.sub [0, 1] rfl) (hD.sub [0, 1] (by decide) rfl) hS ls (lv_sub hl [1, 2, 0] rfl)

abbrev rm_c_median_ok : Room := { frames := 1, cells := 0, slots := 0, locals := 24 }
set_option maxRecDepth 100000 in
set_option maxHeartbeats 4000000 in
theorem c_median_ok (l : Launch) (D : va_G) (cI cJ cZ : ClassId) (o : Nat) (rm : Nat) (n : Nat) (bs : Nat) (aP : Nat) (aH : Nat) (aC : Nat) (aT : Nat) (aB : Nat) (aZ : Nat) (aW : Nat) (aR : Nat) (oR : Nat) (oW : Nat) (P : Nat → Nat) (Tm : Nat → Int64) (Rk : Nat → Int64) (j : Nat) (hn3 : n ≤ rm) (hr3 : rm ≤ 300) (hj : j < n) (hpar : ∀ x : Nat, 0 < x → x < n → P x < x) : rw_C l yT_median wT_median rm_c_median_ok D vwCl (gT cI cJ cZ) [.ref o, .int (nI j)] [(o, .inr (2, [.int (nI rm), .int (nI n), .int (nI bs), .ref aP, .ref aH, .ref aC, .ref aT, .ref aB, .ref aZ, .ref aW, .ref aR, .ref oR, .ref oW])), (aP, .inl (cI, rm, .inl (pF P))), (aT, .inl (cJ, rm, .inr (.inl Tm))), (aR, .inl (cJ, 11, .inr (.inl Rk)))] (fun v9 w9 => v9 = some (.long ((m_med P Tm 11 0 (j + 1) Rk).1 ((m_med P Tm 11 0 (j + 1) Rk).2 / 2))) ∧ w9 = [(o, .inr (2, [.int (nI rm), .int (nI n), .int (nI bs), .ref aP, .ref aH, .ref aC, .ref aT, .ref aB, .ref aZ, .ref aW, .ref aR, .ref oR, .ref oW])), (aP, .inl (cI, rm, .inl (pF P))), (aT, .inl (cJ, rm, .inr (.inl Tm))), (aR, .inl (cJ, 11, .inr (.inl ((m_med P Tm 11 0 (j + 1) Rk).1))))]) 0 0 := by
  refine rw_of (cc := cT_median) (maxL := 4) (ret := some .long) (by decide) rfl (Nat.le_of_ble_eq_true rfl) ?_
  intro p e s m args below meth c Q A ls hx hb hr hml hown hts hlocks hin hK hP hD hA hl hQ
  have hS : va_S A s.heap s.heap [] := va_S.rf
  have hl : lv_has ls 4 [(0, .ref o), (1, .int (nI j))] := hl
  have hown : s.vm.findClass RT = some m.cls := hown
  obtain ⟨H, hHe⟩ : ∃ H : Heap, H = s.heap := ⟨_, rfl⟩
  rw [← hHe] at hP
  have hS : va_S A s.heap H [] := by rw [hHe]; exact va_S.rf
  suffices h9 : W p l e rm_c_median_ok s m args below meth c H [] 0 0 Q (F0 m 0 ls []) by rw [hHe] at h9; exact h9
  clear hHe
  refine lv_aload_n hx hb dT_median_0 rfl (lv_at hl 0 rfl) ?_
  refine lv_iload_n hx hb dT_median_1 rfl (lv_at hl 1 rfl) ?_
  refine ro_ki (va_runV (As := [.int (nI j)]) (rest := []) ⟨hx, hb, hml, hown, hts⟩ (c_isBlock_ok l D cI cJ cZ o rm n bs aP aH aC aT aB aZ aW aR oR oW j (by omega) (by omega)) (cwV 1 hts gT_median_T_isBlock_76 rfl rfl rfl (by decide +kernel) ⟨Nat.le_of_ble_eq_true rfl, Nat.le_of_ble_eq_true rfl⟩) (ro_preV (hP.sub [0] rfl) hK (va_recv hK hP (ci := 2) (q0 := 0) rfl rfl)) rfl rfl hl.1 rfl (lv_room (Nat.le_of_ble_eq_true rfl)) dT_median_2 ⟨Nat.le_of_ble_eq_true rfl, Nat.le_of_ble_eq_true rfl⟩) ?_
  refine lv_if_ne (tgt := 12) hx hb dT_median_5 (by decide) (fun c_5 => ?_) (fun c_5 => ?_)
  · skip
    rw [← nI_0] at c_5
    have c_5 : ¬ 1 = 0 := n_ne c_5
    refine lv_iconst (v := nI 0) hx hb dT_median_12 (by decide) ?_
    refine lv_istore_n (lv' := [(2, .int (nI 0)), (0, .ref o), (1, .int (nI j))]) hx hb dT_median_13 rfl hl (by decide) rfl (fun ls hl => ?_)
    refine lv_iload_n hx hb dT_median_14 rfl (lv_at hl 2 rfl) ?_
    refine lv_istore_n (lv' := [(3, .int (nI j)), (2, .int (nI 0)), (0, .ref o), (1, .int (nI j))]) hx hb dT_median_15 rfl hl (by decide) rfl (fun ls hl => ?_)
    have lp_16 : ∀ (n_16 : Nat) (d c9 a : Nat) (i : Int32) (g : Nat → Int64), (d < n_16) → (c9 + d = 11) → (a ≤ n) → (i = nI a + (-1)) → (m_med P Tm d c9 a g = m_med P Tm 11 0 (j + 1) Rk) → ∀ (H : Heap) (locs : List Loc), va_P D vwCl [(o, .inr (2, [.int (nI rm), .int (nI n), .int (nI bs), .ref aP, .ref aH, .ref aC, .ref aT, .ref aB, .ref aZ, .ref aW, .ref aR, .ref oR, .ref oW])), (aP, .inl (cI, rm, .inl (pF P))), (aT, .inl (cJ, rm, .inr (.inl Tm))), (aR, .inl (cJ, 11, .inr (.inl g)))] H → va_D A [(o, .inr (2, [.int (nI rm), .int (nI n), .int (nI bs), .ref aP, .ref aH, .ref aC, .ref aT, .ref aB, .ref aZ, .ref aW, .ref aR, .ref oR, .ref oW])), (aP, .inl (cI, rm, .inl (pF P))), (aT, .inl (cJ, rm, .inr (.inl Tm))), (aR, .inl (cJ, 11, .inr (.inl g)))] → va_S A s.heap H locs → ∀ (ls : Array Slot), lv_has ls 4 [(0, .ref o), (1, .int (nI j)), (2, .int (nI c9)), (3, .int i)] → W p l e rm_c_median_ok s m args below meth c H locs 0 0 Q (F0 m 16 ls []) := by
      intro n_16
      induction n_16 with
      | zero => intro d c9 a i g hn hd ha hi hg H locs hP hD hS ls hl; exact absurd hn (by omega)
      | succ n_16 ih_16 =>
        intro d c9 a i g hn hd ha hi hg H locs hP hD hS ls hl
        refine lv_iload_n hx hb dT_median_16 rfl (lv_at hl 2 rfl) ?_
        refine lv_bipush (v := nI 11) hx hb dT_median_17 (by decide) ?_
        refine lv_icmp_ge (tgt := 50) hx hb dT_median_19 (by decide) (fun c_19 => ?_) (fun c_19 => ?_)
        · skip
          have c_19 : 11 ≤ c9 := n_le c_19 (by omega) (by omega)
          have hd0 : d = 0 := by omega
          subst hd0
          have hz : m_med P Tm 11 0 (j + 1) Rk = (g, c9) := hg.symm.trans rfl
          refine lv_aload_n hx hb dT_median_50 rfl (lv_at hl 0 rfl) ?_
          refine va_get (D := D) (ci := 2) (v := .ref aR) (C := RT) (T := TT) (N := 13) hx hb hts iT_median_T hown hK hP 0 rfl rfl 10 (by decide) (hts (.fieldLink RT 39 "TreeDesk" "ranked" "[J") (by decide +kernel)) (fun _ h9 => h9) rfl dT_median_51 ?_
          refine lv_iload_n hx hb dT_median_54 rfl (lv_at hl 2 rfl) ?_
          refine lv_iconst (v := nI 2) hx hb dT_median_55 (by decide) ?_
          refine lv_idiv hx hb dT_median_56 (nI_ne0 (by omega) (by omega)) ?_
          refine tp_i (y := nI (c9 / 2)) (pk_div (by omega) (by omega) (by omega)) ?_
          refine ar_lld (j := c9 / 2) hx hb hK hP 3 1 rfl rfl dT_median_57 (by omega) (by omega) ?_
          exact rw_lret (w := [(o, .inr (2, [.int (nI rm), .int (nI n), .int (nI bs), .ref aP, .ref aH, .ref aC, .ref aT, .ref aB, .ref aZ, .ref aW, .ref aR, .ref oR, .ref oW])), (aP, .inl (cI, rm, .inl (pF P))), (aT, .inl (cJ, rm, .inr (.inl Tm))), (aR, .inl (cJ, 11, .inr (.inl g)))]) hQ hx hb hr hlocks dT_median_58 (hP.sub [0, 1, 2, 3] rfl) (hD.sub [0, 1, 2, 3] (by decide) rfl) hS ⟨by rw [hz], by rw [hz]⟩
        · skip
          have c_19 : c9 < 11 := n_nle c_19 (by omega) (by omega)
          obtain ⟨d, rfl⟩ : ∃ d' : Nat, d = d' + 1 := ⟨d - 1, by omega⟩
          refine lv_iload_n hx hb dT_median_22 rfl (lv_at hl 3 rfl) ?_
          refine lv_if_lt (tgt := 50) hx hb dT_median_23 (by decide) (fun c_23 => ?_) (fun c_23 => ?_)
          · skip
            have hk0 : a = 0 := dn_0 hi c_23 (by omega)
            subst hk0
            have hz : m_med P Tm 11 0 (j + 1) Rk = (g, c9) := hg.symm.trans rfl
            refine lv_aload_n hx hb dT_median_50 rfl (lv_at hl 0 rfl) ?_
            refine va_get (D := D) (ci := 2) (v := .ref aR) (C := RT) (T := TT) (N := 13) hx hb hts iT_median_T hown hK hP 0 rfl rfl 10 (by decide) (hts (.fieldLink RT 39 "TreeDesk" "ranked" "[J") (by decide +kernel)) (fun _ h9 => h9) rfl dT_median_51 ?_
            refine lv_iload_n hx hb dT_median_54 rfl (lv_at hl 2 rfl) ?_
            refine lv_iconst (v := nI 2) hx hb dT_median_55 (by decide) ?_
            refine lv_idiv hx hb dT_median_56 (nI_ne0 (by omega) (by omega)) ?_
            refine tp_i (y := nI (c9 / 2)) (pk_div (by omega) (by omega) (by omega)) ?_
            refine ar_lld (j := c9 / 2) hx hb hK hP 3 1 rfl rfl dT_median_57 (by omega) (by omega) ?_
            exact rw_lret (w := [(o, .inr (2, [.int (nI rm), .int (nI n), .int (nI bs), .ref aP, .ref aH, .ref aC, .ref aT, .ref aB, .ref aZ, .ref aW, .ref aR, .ref oR, .ref oW])), (aP, .inl (cI, rm, .inl (pF P))), (aT, .inl (cJ, rm, .inr (.inl Tm))), (aR, .inl (cJ, 11, .inr (.inl g)))]) hQ hx hb hr hlocks dT_median_58 (hP.sub [0, 1, 2, 3] rfl) (hD.sub [0, 1, 2, 3] (by decide) rfl) hS ⟨by rw [hz], by rw [hz]⟩
          · skip
            obtain ⟨x, rfl, rfl⟩ := dn_s hi c_23
            refine lv_aload_n hx hb dT_median_26 rfl (lv_at hl 0 rfl) ?_
            refine lv_aload_n hx hb dT_median_27 rfl (lv_at hl 0 rfl) ?_
            refine va_get (D := D) (ci := 2) (v := .ref aT) (C := RT) (T := TT) (N := 13) hx hb hts iT_median_T hown hK hP 0 rfl rfl 6 (by decide) (hts (.fieldLink RT 23 "TreeDesk" "times" "[J") (by decide +kernel)) (fun _ h9 => h9) rfl dT_median_28 ?_
            refine lv_iload_n hx hb dT_median_31 rfl (lv_at hl 3 rfl) ?_
            refine ar_lld (j := x) hx hb hK hP 2 1 rfl rfl dT_median_32 (by omega) (by omega) ?_
            refine lv_iload_n hx hb dT_median_33 rfl (lv_at hl 2 rfl) ?_
            refine rw_k (wc := [(o, .inr (2, [.int (nI rm), .int (nI n), .int (nI bs), .ref aP, .ref aH, .ref aC, .ref aT, .ref aB, .ref aZ, .ref aW, .ref aR, .ref oR, .ref oW])), (aR, .inl (cJ, 11, .inr (.inl g)))]) (wr := [(aP, .inl (cI, rm, .inl (pF P))), (aT, .inl (cJ, rm, .inr (.inl Tm)))]) (va_runV (As := [.long (Tm x), .int (nI c9)]) (rest := []) ⟨hx, hb, hml, hown, hts⟩ (c_rank l D cI cJ cZ o rm n bs aP aH aC aT aB aZ aW aR oR oW g (Tm x) c9 (by omega) H.size) (cwV 2 hts gT_median_T_rank_109 rfl rfl rfl (by decide +kernel) ⟨Nat.le_of_ble_eq_true rfl, Nat.le_of_ble_eq_true rfl⟩) (rw_preV (hP.sub [0, 3] rfl) hK (hD.sub [0, 3] (by decide) rfl) (va_recv hK hP (ci := 2) (q0 := 0) rfl rfl)) rfl rfl hl.1 rfl (lv_room (Nat.le_of_ble_eq_true rfl)) dT_median_34 ⟨Nat.le_of_ble_eq_true rfl, Nat.le_of_ble_eq_true rfl⟩) hP hD hS hA [0, 3] [1, 2] rfl rfl (by decide) (by decide) (fun v9 w9 H locs hp9 hP hD hS => ?_)
            obtain ⟨rfl, rfl⟩ := hp9
            have hP : va_P D vwCl [(aP, .inl (cI, rm, .inl (pF P))), (aT, .inl (cJ, rm, .inr (.inl Tm))), (o, .inr (2, [.int (nI rm), .int (nI n), .int (nI bs), .ref aP, .ref aH, .ref aC, .ref aT, .ref aB, .ref aZ, .ref aW, .ref aR, .ref oR, .ref oW])), (aR, .inl (cJ, 11, .inr (.inl (m_rank (Tm x) c9 g))))] H := hP
            have hD : va_D A [(aP, .inl (cI, rm, .inl (pF P))), (aT, .inl (cJ, rm, .inr (.inl Tm))), (o, .inr (2, [.int (nI rm), .int (nI n), .int (nI bs), .ref aP, .ref aH, .ref aC, .ref aT, .ref aB, .ref aZ, .ref aW, .ref aR, .ref oR, .ref oW])), (aR, .inl (cJ, 11, .inr (.inl (m_rank (Tm x) c9 g))))] := hD
            refine W.eq (g2 := F0 m 37 ls []) rfl ?_
            refine lv_iinc (v := nI (c9 + 1)) (lv' := [(2, .int (nI (c9 + 1))), (0, .ref o), (1, .int (nI j)), (3, .int (nI x))]) hx hb dT_median_37 hl (k := 2) rfl (nI_add _ 1) (by decide) rfl (fun ls hl => ?_)
            refine lv_aload_n hx hb dT_median_40 rfl (lv_at hl 1 rfl) ?_
            refine va_get (D := D) (ci := 2) (v := .ref aP) (C := RT) (T := TT) (N := 13) hx hb hts iT_median_T hown hK hP 2 rfl rfl 3 (by decide) (hts (.fieldLink RT 13 "TreeDesk" "parents" "[I") (by decide +kernel)) (fun _ h9 => h9) rfl dT_median_41 ?_
            refine lv_iload_n hx hb dT_median_44 rfl (lv_at hl 3 rfl) ?_
            refine ar_ild (j := x) hx hb hK hP 0 0 rfl rfl dT_median_45 (by omega) (by omega) ?_
            refine tp_i (y := nI (m_pn P x) + (-1)) (m_pn_I P x) ?_
            refine lv_istore_n (lv' := [(3, .int (nI (m_pn P x) + (-1))), (2, .int (nI (c9 + 1))), (0, .ref o), (1, .int (nI j))]) hx hb dT_median_46 rfl hl (by decide) rfl (fun ls hl => ?_)
            refine lv_goto (tgt := 16) hx hb dT_median_47 (by decide) ?_
            exact ih_16 d (c9 + 1) (m_pn P x) (nI (m_pn P x) + (-1)) (m_rank (Tm x) c9 g) (by omega) (by omega) (m_pn_le hpar (by omega)) rfl hg _ _ (hP.sub [2, 0, 1, 3] rfl) (hD.sub [2, 0, 1, 3] (by decide) rfl) hS ls (lv_sub hl [2, 3, 1, 0] rfl)
    exact lp_16 12 11 0 (j + 1) (nI j) Rk (by omega) (by omega) (by omega) (pk_m1 j).symm rfl _ _ (hP.sub [0, 1, 2, 3] rfl) (hD.sub [0, 1, 2, 3] (by decide) rfl) hS ls (lv_sub hl [2, 3, 1, 0] rfl)
  · skip
    rw [← nI_0] at c_5
    have c_5 : 1 = 0 := n_eq c_5 (by omega) (by omega)
    omega

abbrev rm_c_median_nob : Room := { frames := 1, cells := 0, slots := 0, locals := 21 }
set_option maxRecDepth 100000 in
set_option maxHeartbeats 4000000 in
theorem c_median_nob (l : Launch) (D : va_G) (cI cJ cZ : ClassId) (o : Nat) (rm : Nat) (n : Nat) (bs : Nat) (aP : Nat) (aH : Nat) (aC : Nat) (aT : Nat) (aB : Nat) (aZ : Nat) (aW : Nat) (aR : Nat) (oR : Nat) (oW : Nat) (x : Int32) (hx9 : ¬ (0 ≤ x ∧ x < nI n)) : ro_C l yT_median wT_median rm_c_median_nob D vwCl (gT cI cJ cZ) [.ref o, .int x] [(o, .inr (2, [.int (nI rm), .int (nI n), .int (nI bs), .ref aP, .ref aH, .ref aC, .ref aT, .ref aB, .ref aZ, .ref aW, .ref aR, .ref oR, .ref oW]))] (some (.long (-1))) := by
  refine ro_of (cc := cT_median) (maxL := 4) (ret := some .long) (by decide) rfl (Nat.le_of_ble_eq_true rfl) ?_
  intro p e s m args below meth c Q ls hx hb hr hml hown hts hlocks hK hP hl hQ
  have hl : lv_has ls 4 [(0, .ref o), (1, .int x)] := hl
  have hown : s.vm.findClass RT = some m.cls := hown
  refine lv_aload_n hx hb dT_median_0 rfl (lv_at hl 0 rfl) ?_
  refine lv_iload_n hx hb dT_median_1 rfl (lv_at hl 1 rfl) ?_
  refine ro_ki (va_runV (As := [.int x]) (rest := []) ⟨hx, hb, hml, hown, hts⟩ (c_isBlock_no l D cI cJ cZ o rm n bs aP aH aC aT aB aZ aW aR oR oW x hx9) (cwV 1 hts gT_median_T_isBlock_76 rfl rfl rfl (by decide +kernel) ⟨Nat.le_of_ble_eq_true rfl, Nat.le_of_ble_eq_true rfl⟩) (ro_preV (hP.sub [0] rfl) hK (va_recv hK hP (ci := 2) (q0 := 0) rfl rfl)) rfl rfl hl.1 rfl (lv_room (Nat.le_of_ble_eq_true rfl)) dT_median_2 ⟨Nat.le_of_ble_eq_true rfl, Nat.le_of_ble_eq_true rfl⟩) ?_
  refine lv_if_ne (tgt := 12) hx hb dT_median_5 (by decide) (fun c_5 => ?_) (fun c_5 => ?_)
  · skip
    rw [← nI_0] at c_5
    have c_5 : ¬ 0 = 0 := n_ne c_5
    omega
  · skip
    rw [← nI_0] at c_5
    have c_5 : 0 = 0 := n_eq c_5 (by omega) (by omega)
    refine lv_ldc2 (v := (-1)) hx hb hown (hts (.constantLong RT 99 (-1)) (by decide +kernel)) dT_median_8 ?_
    exact ro_lret hQ hx hb hr hlocks dT_median_11 rfl

abbrev rm_c_must_nob : Room := { frames := 1, cells := 0, slots := 0, locals := 21 }
set_option maxRecDepth 100000 in
set_option maxHeartbeats 4000000 in
theorem c_must_nob (l : Launch) (D : va_G) (cI cJ cZ : ClassId) (o : Nat) (rm : Nat) (n : Nat) (bs : Nat) (aP : Nat) (aH : Nat) (aC : Nat) (aT : Nat) (aB : Nat) (aZ : Nat) (aW : Nat) (aR : Nat) (oR : Nat) (oW : Nat) (x : Int32) (hx9 : ¬ (0 ≤ x ∧ x < nI n)) : ro_C l yT_must wT_must rm_c_must_nob D vwCl (gT cI cJ cZ) [.ref o, .int x] [(o, .inr (2, [.int (nI rm), .int (nI n), .int (nI bs), .ref aP, .ref aH, .ref aC, .ref aT, .ref aB, .ref aZ, .ref aW, .ref aR, .ref oR, .ref oW]))] (some (.long (-1))) := by
  refine ro_of (cc := cT_must) (maxL := 4) (ret := some .long) (by decide) rfl (Nat.le_of_ble_eq_true rfl) ?_
  intro p e s m args below meth c Q ls hx hb hr hml hown hts hlocks hK hP hl hQ
  have hl : lv_has ls 4 [(0, .ref o), (1, .int x)] := hl
  have hown : s.vm.findClass RT = some m.cls := hown
  refine lv_aload_n hx hb dT_must_0 rfl (lv_at hl 0 rfl) ?_
  refine lv_iload_n hx hb dT_must_1 rfl (lv_at hl 1 rfl) ?_
  refine ro_ki (va_runV (As := [.int x]) (rest := []) ⟨hx, hb, hml, hown, hts⟩ (c_isBlock_no l D cI cJ cZ o rm n bs aP aH aC aT aB aZ aW aR oR oW x hx9) (cwV 1 hts gT_must_T_isBlock_76 rfl rfl rfl (by decide +kernel) ⟨Nat.le_of_ble_eq_true rfl, Nat.le_of_ble_eq_true rfl⟩) (ro_preV (hP.sub [0] rfl) hK (va_recv hK hP (ci := 2) (q0 := 0) rfl rfl)) rfl rfl hl.1 rfl (lv_room (Nat.le_of_ble_eq_true rfl)) dT_must_2 ⟨Nat.le_of_ble_eq_true rfl, Nat.le_of_ble_eq_true rfl⟩) ?_
  refine lv_if_ne (tgt := 12) hx hb dT_must_5 (by decide) (fun c_5 => ?_) (fun c_5 => ?_)
  · skip
    rw [← nI_0] at c_5
    have c_5 : ¬ 0 = 0 := n_ne c_5
    omega
  · skip
    rw [← nI_0] at c_5
    have c_5 : 0 = 0 := n_eq c_5 (by omega) (by omega)
    refine lv_ldc2 (v := (-1)) hx hb hown (hts (.constantLong RT 99 (-1)) (by decide +kernel)) dT_must_8 ?_
    exact ro_lret hQ hx hb hr hlocks dT_must_11 rfl

abbrev rm_c_must_same : Room := { frames := 1, cells := 0, slots := 0, locals := 21 }
set_option maxRecDepth 100000 in
set_option maxHeartbeats 4000000 in
theorem c_must_same (l : Launch) (D : va_G) (cI cJ cZ : ClassId) (o : Nat) (rm : Nat) (n : Nat) (bs : Nat) (aP : Nat) (aH : Nat) (aC : Nat) (aT : Nat) (aB : Nat) (aZ : Nat) (aW : Nat) (aR : Nat) (oR : Nat) (oW : Nat) (Hh : Nat → Nat) (Bt : Nat → Int64) (j : Nat) (hn3 : n ≤ rm) (hr3 : rm ≤ 300) (hj : j < n) (hHj : Hh j < 300) (h8 : ¬ (Hh j + 1) % 8 = 0) : ro_C l yT_must wT_must rm_c_must_same D vwCl (gT cI cJ cZ) [.ref o, .int (nI j)] [(o, .inr (2, [.int (nI rm), .int (nI n), .int (nI bs), .ref aP, .ref aH, .ref aC, .ref aT, .ref aB, .ref aZ, .ref aW, .ref aR, .ref oR, .ref oW])), (aH, .inl (cI, rm, .inl (nF Hh))), (aB, .inl (cJ, rm, .inr (.inl Bt)))] (some (.long (Bt j))) := by
  refine ro_of (cc := cT_must) (maxL := 4) (ret := some .long) (by decide) rfl (Nat.le_of_ble_eq_true rfl) ?_
  intro p e s m args below meth c Q ls hx hb hr hml hown hts hlocks hK hP hl hQ
  have hl : lv_has ls 4 [(0, .ref o), (1, .int (nI j))] := hl
  have hown : s.vm.findClass RT = some m.cls := hown
  refine lv_aload_n hx hb dT_must_0 rfl (lv_at hl 0 rfl) ?_
  refine lv_iload_n hx hb dT_must_1 rfl (lv_at hl 1 rfl) ?_
  refine ro_ki (va_runV (As := [.int (nI j)]) (rest := []) ⟨hx, hb, hml, hown, hts⟩ (c_isBlock_ok l D cI cJ cZ o rm n bs aP aH aC aT aB aZ aW aR oR oW j (by omega) (by omega)) (cwV 1 hts gT_must_T_isBlock_76 rfl rfl rfl (by decide +kernel) ⟨Nat.le_of_ble_eq_true rfl, Nat.le_of_ble_eq_true rfl⟩) (ro_preV (hP.sub [0] rfl) hK (va_recv hK hP (ci := 2) (q0 := 0) rfl rfl)) rfl rfl hl.1 rfl (lv_room (Nat.le_of_ble_eq_true rfl)) dT_must_2 ⟨Nat.le_of_ble_eq_true rfl, Nat.le_of_ble_eq_true rfl⟩) ?_
  refine lv_if_ne (tgt := 12) hx hb dT_must_5 (by decide) (fun c_5 => ?_) (fun c_5 => ?_)
  · skip
    rw [← nI_0] at c_5
    have c_5 : ¬ 1 = 0 := n_ne c_5
    refine lv_aload_n hx hb dT_must_12 rfl (lv_at hl 0 rfl) ?_
    refine va_get (D := D) (ci := 2) (v := .ref aH) (C := RT) (T := TT) (N := 13) hx hb hts iT_must_T hown hK hP 0 rfl rfl 4 (by decide) (hts (.fieldLink RT 17 "TreeDesk" "heights" "[I") (by decide +kernel)) (fun _ h9 => h9) rfl dT_must_13 ?_
    refine lv_iload_n hx hb dT_must_16 rfl (lv_at hl 1 rfl) ?_
    refine ar_ild (j := j) hx hb hK hP 1 0 rfl rfl dT_must_17 (by omega) (by omega) ?_
    refine tp_i (y := nI (Hh j)) rfl ?_
    refine lv_istore_n (lv' := [(2, .int (nI (Hh j))), (0, .ref o), (1, .int (nI j))]) hx hb dT_must_18 rfl hl (by decide) rfl (fun ls hl => ?_)
    refine lv_iload_n hx hb dT_must_19 rfl (lv_at hl 0 rfl) ?_
    refine lv_iconst (v := nI 1) hx hb dT_must_20 (by decide) ?_
    refine lv_iadd hx hb dT_must_21 ?_
    refine tp_i (y := nI ((Hh j) + 1)) (nI_add _ _) ?_
    refine lv_bipush (v := nI 8) hx hb dT_must_22 (by decide) ?_
    refine lv_irem hx hb dT_must_24 (nI_ne0 (by omega) (by omega)) ?_
    refine tp_i (y := nI (((Hh j) + 1) % 8)) (pk_rem (by omega) (by omega) (by omega)) ?_
    refine lv_if_eq (tgt := 35) hx hb dT_must_25 (by decide) (fun c_25 => ?_) (fun c_25 => ?_)
    · skip
      rw [← nI_0] at c_25
      have c_25 : (((Hh j) + 1) % 8) = 0 := n_eq c_25 (by omega) (by omega)
      omega
    · skip
      rw [← nI_0] at c_25
      have c_25 : ¬ (((Hh j) + 1) % 8) = 0 := n_ne c_25
      refine lv_aload_n hx hb dT_must_28 rfl (lv_at hl 1 rfl) ?_
      refine va_get (D := D) (ci := 2) (v := .ref aB) (C := RT) (T := TT) (N := 13) hx hb hts iT_must_T hown hK hP 0 rfl rfl 7 (by decide) (hts (.fieldLink RT 27 "TreeDesk" "bitsOf" "[J") (by decide +kernel)) (fun _ h9 => h9) rfl dT_must_29 ?_
      refine lv_iload_n hx hb dT_must_32 rfl (lv_at hl 2 rfl) ?_
      refine ar_lld (j := j) hx hb hK hP 2 1 rfl rfl dT_must_33 (by omega) (by omega) ?_
      exact ro_lret hQ hx hb hr hlocks dT_must_34 rfl
  · skip
    rw [← nI_0] at c_5
    have c_5 : 1 = 0 := n_eq c_5 (by omega) (by omega)
    omega

abbrev rm_c_must_ret : Room := { frames := 5, cells := 0, slots := 0, locals := 131 }
set_option maxRecDepth 100000 in
set_option maxHeartbeats 4000000 in
theorem c_must_ret (l : Launch) (D : va_G) (cI cJ cZ : ClassId) (o : Nat) (rm : Nat) (n : Nat) (bs : Nat) (aP : Nat) (aH : Nat) (aC : Nat) (aT : Nat) (aB : Nat) (aZ : Nat) (aW : Nat) (aR : Nat) (oR : Nat) (oW : Nat) (P : Nat → Nat) (Hh : Nat → Nat) (Tm : Nat → Int64) (Bt : Nat → Int64) (aQ : Nat) (pr : Nat → Int64) (j : Nat) (hn3 : n ≤ rm) (hr3 : rm ≤ 300) (hj : j < n) (hHj : Hh j < 300) (h8 : (Hh j + 1) % 8 = 0) (hpar : ∀ x : Nat, 0 < x → x < n → P x < x) : rw_C l yT_must wT_must rm_c_must_ret D vwCl (gT cI cJ cZ) [.ref o, .int (nI j)] [(o, .inr (2, [.int (nI rm), .int (nI n), .int (nI bs), .ref aP, .ref aH, .ref aC, .ref aT, .ref aB, .ref aZ, .ref aW, .ref aR, .ref oR, .ref oW])), (aP, .inl (cI, rm, .inl (pF P))), (aH, .inl (cI, rm, .inl (nF Hh))), (aT, .inl (cJ, rm, .inr (.inl Tm))), (aB, .inl (cJ, rm, .inr (.inl Bt))), (oR, .inr (0, [.ref aQ])), (aQ, .inl (cJ, 9, .inr (.inl pr)))] (fun v9 w9 => v9 = some (.long (m_next (m_pr (Bt j) (Tm j - Tm (m_anc P (Hh j - (Hh j - 7)) j)) pr))) ∧ w9 = [(o, .inr (2, [.int (nI rm), .int (nI n), .int (nI bs), .ref aP, .ref aH, .ref aC, .ref aT, .ref aB, .ref aZ, .ref aW, .ref aR, .ref oR, .ref oW])), (aP, .inl (cI, rm, .inl (pF P))), (aH, .inl (cI, rm, .inl (nF Hh))), (aT, .inl (cJ, rm, .inr (.inl Tm))), (aB, .inl (cJ, rm, .inr (.inl Bt))), (oR, .inr (0, [.ref aQ])), (aQ, .inl (cJ, 9, .inr (.inl (m_pr (Bt j) (Tm j - Tm (m_anc P (Hh j - (Hh j - 7)) j)) pr))))]) 0 0 := by
  refine rw_of (cc := cT_must) (maxL := 4) (ret := some .long) (by decide) rfl (Nat.le_of_ble_eq_true rfl) ?_
  intro p e s m args below meth c Q A ls hx hb hr hml hown hts hlocks hin hK hP hD hA hl hQ
  have hS : va_S A s.heap s.heap [] := va_S.rf
  have hl : lv_has ls 4 [(0, .ref o), (1, .int (nI j))] := hl
  have hown : s.vm.findClass RT = some m.cls := hown
  obtain ⟨H, hHe⟩ : ∃ H : Heap, H = s.heap := ⟨_, rfl⟩
  rw [← hHe] at hP
  have hS : va_S A s.heap H [] := by rw [hHe]; exact va_S.rf
  suffices h9 : W p l e rm_c_must_ret s m args below meth c H [] 0 0 Q (F0 m 0 ls []) by rw [hHe] at h9; exact h9
  clear hHe
  refine lv_aload_n hx hb dT_must_0 rfl (lv_at hl 0 rfl) ?_
  refine lv_iload_n hx hb dT_must_1 rfl (lv_at hl 1 rfl) ?_
  refine ro_ki (va_runV (As := [.int (nI j)]) (rest := []) ⟨hx, hb, hml, hown, hts⟩ (c_isBlock_ok l D cI cJ cZ o rm n bs aP aH aC aT aB aZ aW aR oR oW j (by omega) (by omega)) (cwV 1 hts gT_must_T_isBlock_76 rfl rfl rfl (by decide +kernel) ⟨Nat.le_of_ble_eq_true rfl, Nat.le_of_ble_eq_true rfl⟩) (ro_preV (hP.sub [0] rfl) hK (va_recv hK hP (ci := 2) (q0 := 0) rfl rfl)) rfl rfl hl.1 rfl (lv_room (Nat.le_of_ble_eq_true rfl)) dT_must_2 ⟨Nat.le_of_ble_eq_true rfl, Nat.le_of_ble_eq_true rfl⟩) ?_
  refine lv_if_ne (tgt := 12) hx hb dT_must_5 (by decide) (fun c_5 => ?_) (fun c_5 => ?_)
  · skip
    rw [← nI_0] at c_5
    have c_5 : ¬ 1 = 0 := n_ne c_5
    refine lv_aload_n hx hb dT_must_12 rfl (lv_at hl 0 rfl) ?_
    refine va_get (D := D) (ci := 2) (v := .ref aH) (C := RT) (T := TT) (N := 13) hx hb hts iT_must_T hown hK hP 0 rfl rfl 4 (by decide) (hts (.fieldLink RT 17 "TreeDesk" "heights" "[I") (by decide +kernel)) (fun _ h9 => h9) rfl dT_must_13 ?_
    refine lv_iload_n hx hb dT_must_16 rfl (lv_at hl 1 rfl) ?_
    refine ar_ild (j := j) hx hb hK hP 2 0 rfl rfl dT_must_17 (by omega) (by omega) ?_
    refine tp_i (y := nI (Hh j)) rfl ?_
    refine lv_istore_n (lv' := [(2, .int (nI (Hh j))), (0, .ref o), (1, .int (nI j))]) hx hb dT_must_18 rfl hl (by decide) rfl (fun ls hl => ?_)
    refine lv_iload_n hx hb dT_must_19 rfl (lv_at hl 0 rfl) ?_
    refine lv_iconst (v := nI 1) hx hb dT_must_20 (by decide) ?_
    refine lv_iadd hx hb dT_must_21 ?_
    refine tp_i (y := nI ((Hh j) + 1)) (nI_add _ _) ?_
    refine lv_bipush (v := nI 8) hx hb dT_must_22 (by decide) ?_
    refine lv_irem hx hb dT_must_24 (nI_ne0 (by omega) (by omega)) ?_
    refine tp_i (y := nI (((Hh j) + 1) % 8)) (pk_rem (by omega) (by omega) (by omega)) ?_
    refine lv_if_eq (tgt := 35) hx hb dT_must_25 (by decide) (fun c_25 => ?_) (fun c_25 => ?_)
    · skip
      rw [← nI_0] at c_25
      have c_25 : (((Hh j) + 1) % 8) = 0 := n_eq c_25 (by omega) (by omega)
      refine lv_aload_n hx hb dT_must_35 rfl (lv_at hl 1 rfl) ?_
      refine lv_iload_n hx hb dT_must_36 rfl (lv_at hl 2 rfl) ?_
      refine lv_iload_n hx hb dT_must_37 rfl (lv_at hl 0 rfl) ?_
      refine lv_bipush (v := nI 7) hx hb dT_must_38 (by decide) ?_
      refine lv_isub hx hb dT_must_40 ?_
      refine tp_i (y := nI ((Hh j) - 7)) (pk_sub (by omega)) ?_
      refine ro_ki (va_runV (As := [.int (nI j), .int (nI ((Hh j) - 7))]) (rest := []) ⟨hx, hb, hml, hown, hts⟩ (c_ancestor l D cI cJ cZ o rm n bs aP aH aC aT aB aZ aW aR oR oW P Hh j ((Hh j) - 7) (by omega) (by omega) (by omega) (by omega) (by omega) hpar) (cwV 2 hts gT_must_T_ancestor_101 rfl rfl rfl (by decide +kernel) ⟨Nat.le_of_ble_eq_true rfl, Nat.le_of_ble_eq_true rfl⟩) (ro_preV (hP.sub [0, 1, 2] rfl) hK (va_recv hK hP (ci := 2) (q0 := 0) rfl rfl)) rfl rfl hl.1 rfl (lv_room (Nat.le_of_ble_eq_true rfl)) dT_must_41 ⟨Nat.le_of_ble_eq_true rfl, Nat.le_of_ble_eq_true rfl⟩) ?_
      refine lv_istore_n (lv' := [(3, .int (nI (m_anc P (Hh j - ((Hh j) - 7)) j))), (2, .int (nI (Hh j))), (0, .ref o), (1, .int (nI j))]) hx hb dT_must_44 rfl hl (by decide) rfl (fun ls hl => ?_)
      refine lv_aload_n hx hb dT_must_45 rfl (lv_at hl 2 rfl) ?_
      refine va_get (D := D) (ci := 2) (v := .ref oR) (C := RT) (T := TT) (N := 13) hx hb hts iT_must_T hown hK hP 0 rfl rfl 11 (by decide) (hts (.fieldLink RT 45 "TreeDesk" "retarget" "LTreeDesk$Retarget;") (by decide +kernel)) (fun _ h9 => h9) rfl dT_must_46 ?_
      refine lv_aload_n hx hb dT_must_49 rfl (lv_at hl 2 rfl) ?_
      refine va_get (D := D) (ci := 2) (v := .ref aB) (C := RT) (T := TT) (N := 13) hx hb hts iT_must_T hown hK hP 0 rfl rfl 7 (by decide) (hts (.fieldLink RT 27 "TreeDesk" "bitsOf" "[J") (by decide +kernel)) (fun _ h9 => h9) rfl dT_must_50 ?_
      refine lv_iload_n hx hb dT_must_53 rfl (lv_at hl 3 rfl) ?_
      refine ar_lld (j := j) hx hb hK hP 4 1 rfl rfl dT_must_54 (by omega) (by omega) ?_
      refine lv_aload_n hx hb dT_must_55 rfl (lv_at hl 2 rfl) ?_
      refine va_get (D := D) (ci := 2) (v := .ref aT) (C := RT) (T := TT) (N := 13) hx hb hts iT_must_T hown hK hP 0 rfl rfl 6 (by decide) (hts (.fieldLink RT 23 "TreeDesk" "times" "[J") (by decide +kernel)) (fun _ h9 => h9) rfl dT_must_56 ?_
      refine lv_iload_n hx hb dT_must_59 rfl (lv_at hl 3 rfl) ?_
      refine ar_lld (j := j) hx hb hK hP 3 1 rfl rfl dT_must_60 (by omega) (by omega) ?_
      refine lv_aload_n hx hb dT_must_61 rfl (lv_at hl 2 rfl) ?_
      refine va_get (D := D) (ci := 2) (v := .ref aT) (C := RT) (T := TT) (N := 13) hx hb hts iT_must_T hown hK hP 0 rfl rfl 6 (by decide) (hts (.fieldLink RT 23 "TreeDesk" "times" "[J") (by decide +kernel)) (fun _ h9 => h9) rfl dT_must_62 ?_
      have hanc : m_anc P (Hh j - (Hh j - 7)) j < n := m_anc_lt hpar hj
      refine lv_iload_n hx hb dT_must_65 rfl (lv_at hl 0 rfl) ?_
      refine ar_lld (j := m_anc P (Hh j - ((Hh j) - 7)) j) hx hb hK hP 3 1 rfl rfl dT_must_66 (by omega) (by omega) ?_
      refine lv_lsub hx hb dT_must_67 ?_
      refine rw_k (wc := [(oR, .inr (0, [.ref aQ])), (aQ, .inl (cJ, 9, .inr (.inl pr)))]) (wr := [(o, .inr (2, [.int (nI rm), .int (nI n), .int (nI bs), .ref aP, .ref aH, .ref aC, .ref aT, .ref aB, .ref aZ, .ref aW, .ref aR, .ref oR, .ref oW])), (aP, .inl (cI, rm, .inl (pF P))), (aH, .inl (cI, rm, .inl (nF Hh))), (aT, .inl (cJ, rm, .inr (.inl Tm))), (aB, .inl (cJ, rm, .inr (.inl Bt)))]) (va_runV (As := [.long (Bt j), .long ((Tm j) - (Tm (m_anc P (Hh j - ((Hh j) - 7)) j)))]) (rest := []) ⟨hx, hb, hml, hown, hts⟩ (c_R_next l D cI cJ cZ oR aQ pr (Bt j) ((Tm j) - (Tm (m_anc P (Hh j - ((Hh j) - 7)) j))) H.size) (cwV 2 hts gT_must_R_next_105 rfl rfl rfl (by decide +kernel) ⟨Nat.le_of_ble_eq_true rfl, Nat.le_of_ble_eq_true rfl⟩) (rw_preV (hP.sub [5, 6] rfl) hK (hD.sub [5, 6] (by decide) rfl) (va_recv hK hP (ci := 0) (q0 := 5) rfl rfl)) rfl rfl hl.1 rfl (lv_room (Nat.le_of_ble_eq_true rfl)) dT_must_68 ⟨Nat.le_of_ble_eq_true rfl, Nat.le_of_ble_eq_true rfl⟩) hP hD hS hA [5, 6] [0, 1, 2, 3, 4] rfl rfl (by decide) (by decide) (fun v9 w9 H locs hp9 hP hD hS => ?_)
      obtain ⟨rfl, rfl⟩ := hp9
      have hP : va_P D vwCl [(o, .inr (2, [.int (nI rm), .int (nI n), .int (nI bs), .ref aP, .ref aH, .ref aC, .ref aT, .ref aB, .ref aZ, .ref aW, .ref aR, .ref oR, .ref oW])), (aP, .inl (cI, rm, .inl (pF P))), (aH, .inl (cI, rm, .inl (nF Hh))), (aT, .inl (cJ, rm, .inr (.inl Tm))), (aB, .inl (cJ, rm, .inr (.inl Bt))), (oR, .inr (0, [.ref aQ])), (aQ, .inl (cJ, 9, .inr (.inl (m_pr (Bt j) ((Tm j) - (Tm (m_anc P (Hh j - ((Hh j) - 7)) j))) pr))))] H := hP
      have hD : va_D A [(o, .inr (2, [.int (nI rm), .int (nI n), .int (nI bs), .ref aP, .ref aH, .ref aC, .ref aT, .ref aB, .ref aZ, .ref aW, .ref aR, .ref oR, .ref oW])), (aP, .inl (cI, rm, .inl (pF P))), (aH, .inl (cI, rm, .inl (nF Hh))), (aT, .inl (cJ, rm, .inr (.inl Tm))), (aB, .inl (cJ, rm, .inr (.inl Bt))), (oR, .inr (0, [.ref aQ])), (aQ, .inl (cJ, 9, .inr (.inl (m_pr (Bt j) ((Tm j) - (Tm (m_anc P (Hh j - ((Hh j) - 7)) j))) pr))))] := hD
      refine W.eq (g2 := F0 m 71 ls [.long (m_next (m_pr (Bt j) ((Tm j) - (Tm (m_anc P (Hh j - ((Hh j) - 7)) j))) pr))]) rfl ?_
      exact rw_lret (w := [(o, .inr (2, [.int (nI rm), .int (nI n), .int (nI bs), .ref aP, .ref aH, .ref aC, .ref aT, .ref aB, .ref aZ, .ref aW, .ref aR, .ref oR, .ref oW])), (aP, .inl (cI, rm, .inl (pF P))), (aH, .inl (cI, rm, .inl (nF Hh))), (aT, .inl (cJ, rm, .inr (.inl Tm))), (aB, .inl (cJ, rm, .inr (.inl Bt))), (oR, .inr (0, [.ref aQ])), (aQ, .inl (cJ, 9, .inr (.inl (m_pr (Bt j) ((Tm j) - (Tm (m_anc P (Hh j - ((Hh j) - 7)) j))) pr))))]) hQ hx hb hr hlocks dT_must_71 (hP.sub [0, 1, 2, 3, 4, 5, 6] rfl) (hD.sub [0, 1, 2, 3, 4, 5, 6] (by decide) rfl) hS ⟨rfl, rfl⟩
    · skip
      rw [← nI_0] at c_25
      have c_25 : ¬ (((Hh j) + 1) % 8) = 0 := n_ne c_25
      omega
  · skip
    rw [← nI_0] at c_5
    have c_5 : 1 = 0 := n_eq c_5 (by omega) (by omega)
    omega

abbrev rm_c_sumWork : Room := { frames := 0, cells := 0, slots := 0, locals := 0 }
set_option maxRecDepth 100000 in
set_option maxHeartbeats 4000000 in
theorem c_sumWork (l : Launch) (D : va_G) (cI cJ cZ : ClassId) (o : Nat) (rm : Nat) (n : Nat) (bs : Nat) (aP : Nat) (aH : Nat) (aC : Nat) (aT : Nat) (aB : Nat) (aZ : Nat) (aW : Nat) (aR : Nat) (oR : Nat) (oW : Nat) (Wk : Nat → Int64) (q : Nat) (F : Nat → Int64) (x : Nat) (y : Nat) (hr3 : rm ≤ 300) (hx9 : x < rm) (hy9 : y < rm) : rw_C l yT_sumWork wT_sumWork rm_c_sumWork D vwCl (gT cI cJ cZ) [.ref o, .int (nI x), .int (nI y), .ref q] [(o, .inr (2, [.int (nI rm), .int (nI n), .int (nI bs), .ref aP, .ref aH, .ref aC, .ref aT, .ref aB, .ref aZ, .ref aW, .ref aR, .ref oR, .ref oW])), (aW, .inl (cJ, rm * 8, .inr (.inl Wk))), (q, .inl (cJ, 8, .inr (.inl F)))] (fun v9 w9 => v9 = none ∧ w9 = [(o, .inr (2, [.int (nI rm), .int (nI n), .int (nI bs), .ref aP, .ref aH, .ref aC, .ref aT, .ref aB, .ref aZ, .ref aW, .ref aR, .ref oR, .ref oW])), (aW, .inl (cJ, rm * 8, .inr (.inl (m_sum F x y Wk)))), (q, .inl (cJ, 8, .inr (.inl F)))]) 0 0 := by
  refine rw_of (cc := cT_sumWork) (maxL := 9) (ret := none) (by decide) rfl (Nat.le_of_ble_eq_true rfl) ?_
  intro p e s m args below meth c Q A ls hx hb hr hml hown hts hlocks hin hK hP hD hA hl hQ
  have hS : va_S A s.heap s.heap [] := va_S.rf
  have hl : lv_has ls 9 [(0, .ref o), (1, .int (nI x)), (2, .int (nI y)), (3, .ref q)] := hl
  have hown : s.vm.findClass RT = some m.cls := hown
  obtain ⟨H, hHe⟩ : ∃ H : Heap, H = s.heap := ⟨_, rfl⟩
  rw [← hHe] at hP
  have hS : va_S A s.heap H [] := by rw [hHe]; exact va_S.rf
  suffices h9 : W p l e rm_c_sumWork s m args below meth c H [] 0 0 Q (F0 m 0 ls []) by rw [hHe] at h9; exact h9
  clear hHe
  refine lv_lconst (v := 0) hx hb dT_sumWork_0 (by decide) ?_
  refine lv_lstore (lv' := [(4, .long 0), (0, .ref o), (1, .int (nI x)), (2, .int (nI y)), (3, .ref q)]) hx hb dT_sumWork_1 hl (by decide) rfl (fun ls hl => ?_)
  refine lv_bipush (v := nI 7) hx hb dT_sumWork_3 (by decide) ?_
  refine lv_istore (lv' := [(6, .int (nI 7)), (4, .long 0), (0, .ref o), (1, .int (nI x)), (2, .int (nI y)), (3, .ref q)]) hx hb dT_sumWork_5 hl (by decide) rfl (fun ls hl => ?_)
  have lp_7 : ∀ (n_7 : Nat) (k : Nat) (i : Int32) (g : Nat → Int64) (cy : Int64), (k < n_7) → (k ≤ 8) → (i = nI k + (-1)) → (m_sumL F x y k g cy = m_sumL F x y 8 Wk 0) → ∀ (H : Heap) (locs : List Loc), va_P D vwCl [(o, .inr (2, [.int (nI rm), .int (nI n), .int (nI bs), .ref aP, .ref aH, .ref aC, .ref aT, .ref aB, .ref aZ, .ref aW, .ref aR, .ref oR, .ref oW])), (aW, .inl (cJ, rm * 8, .inr (.inl g))), (q, .inl (cJ, 8, .inr (.inl F)))] H → va_D A [(o, .inr (2, [.int (nI rm), .int (nI n), .int (nI bs), .ref aP, .ref aH, .ref aC, .ref aT, .ref aB, .ref aZ, .ref aW, .ref aR, .ref oR, .ref oW])), (aW, .inl (cJ, rm * 8, .inr (.inl g))), (q, .inl (cJ, 8, .inr (.inl F)))] → va_S A s.heap H locs → ∀ (ls : Array Slot), lv_has ls 9 [(0, .ref o), (1, .int (nI x)), (2, .int (nI y)), (3, .ref q), (4, .long cy), (6, .int i)] → W p l e rm_c_sumWork s m args below meth c H locs 0 0 Q (F0 m 7 ls []) := by
    intro n_7
    induction n_7 with
    | zero => intro k i g cy hn h8 hi hg H locs hP hD hS ls hl; exact absurd hn (by omega)
    | succ n_7 ih_7 =>
      intro k i g cy hn h8 hi hg H locs hP hD hS ls hl
      refine lv_iload hx hb dT_sumWork_7 (lv_at hl 5 rfl) ?_
      refine lv_if_lt (tgt := 65) hx hb dT_sumWork_9 (by decide) (fun c_9 => ?_) (fun c_9 => ?_)
      · skip
        have hk0 : k = 0 := dn_0 hi c_9 (by omega)
        subst hk0
        exact rw_vret (w := [(o, .inr (2, [.int (nI rm), .int (nI n), .int (nI bs), .ref aP, .ref aH, .ref aC, .ref aT, .ref aB, .ref aZ, .ref aW, .ref aR, .ref oR, .ref oW])), (aW, .inl (cJ, rm * 8, .inr (.inl g))), (q, .inl (cJ, 8, .inr (.inl F)))]) hQ hx hb hr hlocks dT_sumWork_65 (hP.sub [0, 1, 2] rfl) (hD.sub [0, 1, 2] (by decide) rfl) hS ⟨rfl, by rw [show m_sum F x y Wk = g from hg.symm]⟩
      · skip
        obtain ⟨j, rfl, rfl⟩ := dn_s hi c_9
        refine lv_aload_n hx hb dT_sumWork_12 rfl (lv_at hl 0 rfl) ?_
        refine va_get (D := D) (ci := 2) (v := .ref aW) (C := RT) (T := TT) (N := 13) hx hb hts iT_sumWork_T hown hK hP 0 rfl rfl 9 (by decide) (hts (.fieldLink RT 36 "TreeDesk" "works" "[J") (by decide +kernel)) (fun _ h9 => h9) rfl dT_sumWork_13 ?_
        refine lv_iload_n hx hb dT_sumWork_16 rfl (lv_at hl 2 rfl) ?_
        refine lv_bipush (v := nI 8) hx hb dT_sumWork_17 (by decide) ?_
        refine lv_imul hx hb dT_sumWork_19 ?_
        refine tp_i (y := nI (y * 8)) (pk_mul _ _) ?_
        refine lv_iload hx hb dT_sumWork_20 (lv_at hl 5 rfl) ?_
        refine lv_iadd hx hb dT_sumWork_22 ?_
        refine tp_i (y := nI ((y * 8) + j)) (nI_add _ _) ?_
        refine ar_lld (j := (y * 8) + j) hx hb hK hP 1 1 rfl rfl dT_sumWork_23 (by omega) (by omega) ?_
        refine lv_aload_n hx hb dT_sumWork_24 rfl (lv_at hl 3 rfl) ?_
        refine lv_iload hx hb dT_sumWork_25 (lv_at hl 5 rfl) ?_
        refine ar_lld (j := j) hx hb hK hP 2 1 rfl rfl dT_sumWork_27 (by omega) (by omega) ?_
        refine lv_ladd hx hb dT_sumWork_28 ?_
        refine lv_lload hx hb dT_sumWork_29 (lv_at hl 4 rfl) ?_
        refine lv_ladd hx hb dT_sumWork_31 ?_
        refine lv_lstore (lv' := [(7, .long (((g ((y * 8) + j)) + (F j)) + cy)), (0, .ref o), (1, .int (nI x)), (2, .int (nI y)), (3, .ref q), (4, .long cy), (6, .int (nI j))]) hx hb dT_sumWork_32 hl (by decide) rfl (fun ls hl => ?_)
        refine lv_aload_n hx hb dT_sumWork_34 rfl (lv_at hl 1 rfl) ?_
        refine va_get (D := D) (ci := 2) (v := .ref aW) (C := RT) (T := TT) (N := 13) hx hb hts iT_sumWork_T hown hK hP 0 rfl rfl 9 (by decide) (hts (.fieldLink RT 36 "TreeDesk" "works" "[J") (by decide +kernel)) (fun _ h9 => h9) rfl dT_sumWork_35 ?_
        refine lv_iload_n hx hb dT_sumWork_38 rfl (lv_at hl 2 rfl) ?_
        refine lv_bipush (v := nI 8) hx hb dT_sumWork_39 (by decide) ?_
        refine lv_imul hx hb dT_sumWork_41 ?_
        refine tp_i (y := nI (x * 8)) (pk_mul _ _) ?_
        refine lv_iload hx hb dT_sumWork_42 (lv_at hl 6 rfl) ?_
        refine lv_iadd hx hb dT_sumWork_44 ?_
        refine tp_i (y := nI ((x * 8) + j)) (nI_add _ _) ?_
        refine lv_lload hx hb dT_sumWork_45 (lv_at hl 0 rfl) ?_
        refine lv_ldc2 (v := 4294967295) hx hb hown (hts (.constantLong RT 56 4294967295) (by decide +kernel)) dT_sumWork_47 ?_
        refine lv_land hx hb dT_sumWork_50 ?_
        refine ar_lst (j := (x * 8) + j) hx hb hK hP hD hS 1 1 rfl rfl dT_sumWork_51 (by omega) (by omega) (fun H locs hP hD hS => ?_)
        have hP : va_P D vwCl [(o, .inr (2, [.int (nI rm), .int (nI n), .int (nI bs), .ref aP, .ref aH, .ref aC, .ref aT, .ref aB, .ref aZ, .ref aW, .ref aR, .ref oR, .ref oW])), (aW, .inl (cJ, rm * 8, .inr (.inl (vp_updL g ((x * 8) + j) ((((g ((y * 8) + j)) + (F j)) + cy) &&& 4294967295))))), (q, .inl (cJ, 8, .inr (.inl F)))] H := hP
        have hD : va_D A [(o, .inr (2, [.int (nI rm), .int (nI n), .int (nI bs), .ref aP, .ref aH, .ref aC, .ref aT, .ref aB, .ref aZ, .ref aW, .ref aR, .ref oR, .ref oW])), (aW, .inl (cJ, rm * 8, .inr (.inl (vp_updL g ((x * 8) + j) ((((g ((y * 8) + j)) + (F j)) + cy) &&& 4294967295))))), (q, .inl (cJ, 8, .inr (.inl F)))] := hD
        refine lv_lload hx hb dT_sumWork_52 (lv_at hl 0 rfl) ?_
        refine lv_bipush (v := nI 32) hx hb dT_sumWork_54 (by decide) ?_
        refine lv_lushr (v := j_ushr (((g ((y * 8) + j)) + (F j)) + cy) (nI 32)) hx hb dT_sumWork_56 rfl ?_
        refine lv_lstore (lv' := [(4, .long (j_ushr (((g ((y * 8) + j)) + (F j)) + cy) (nI 32))), (7, .long (((g ((y * 8) + j)) + (F j)) + cy)), (0, .ref o), (1, .int (nI x)), (2, .int (nI y)), (3, .ref q), (6, .int (nI j))]) hx hb dT_sumWork_57 hl (by decide) rfl (fun ls hl => ?_)
        refine lv_iinc (v := (nI j) + (-1)) (lv' := [(6, .int ((nI j) + (-1))), (4, .long (j_ushr (((g ((y * 8) + j)) + (F j)) + cy) (nI 32))), (7, .long (((g ((y * 8) + j)) + (F j)) + cy)), (0, .ref o), (1, .int (nI x)), (2, .int (nI y)), (3, .ref q)]) hx hb dT_sumWork_59 hl (k := 6) rfl rfl (by decide) rfl (fun ls hl => ?_)
        refine lv_goto (tgt := 7) hx hb dT_sumWork_62 (by decide) ?_
        exact ih_7 j ((nI j) + (-1)) (vp_updL g ((x * 8) + j) ((((g ((y * 8) + j)) + (F j)) + cy) &&& 4294967295)) (j_ushr (((g ((y * 8) + j)) + (F j)) + cy) (nI 32)) (by omega) (by omega) rfl hg _ _ (hP.sub [0, 1, 2] rfl) (hD.sub [0, 1, 2] (by decide) rfl) hS ls (lv_sub hl [3, 4, 5, 6, 1, 0] rfl)
  exact lp_7 9 8 (nI 7) Wk 0 (by omega) (by omega) (pk_m1 7).symm rfl _ _ (hP.sub [0, 1, 2] rfl) (hD.sub [0, 1, 2] (by decide) rfl) hS ls (lv_sub hl [2, 3, 4, 5, 1, 0] rfl)

abbrev rm_c_spoilBehind : Room := { frames := 0, cells := 0, slots := 0, locals := 0 }
set_option maxRecDepth 100000 in
set_option maxHeartbeats 4000000 in
theorem c_spoilBehind (l : Launch) (D : va_G) (cI cJ cZ : ClassId) (o : Nat) (rm : Nat) (n : Nat) (bs : Nat) (aP : Nat) (aH : Nat) (aC : Nat) (aT : Nat) (aB : Nat) (aZ : Nat) (aW : Nat) (aR : Nat) (oR : Nat) (oW : Nat) (P : Nat → Nat) (Zb : Nat → Nat) (j : Nat) (hn3 : n ≤ rm) (hr3 : rm ≤ 300) (hj : j < n) (hz9 : ∀ x : Nat, Zb x < 2) (hpar : ∀ x : Nat, 0 < x → x < n → P x < x) : rw_C l yT_spoilBehind wT_spoilBehind rm_c_spoilBehind D vwCl (gT cI cJ cZ) [.ref o, .int (nI j)] [(o, .inr (2, [.int (nI rm), .int (nI n), .int (nI bs), .ref aP, .ref aH, .ref aC, .ref aT, .ref aB, .ref aZ, .ref aW, .ref aR, .ref oR, .ref oW])), (aP, .inl (cI, rm, .inl (pF P))), (aZ, .inl (cZ, rm, .inl (nF Zb)))] (fun v9 w9 => v9 = some (.int (nI ((m_spb P (n - (j + 1)) (j + 1) 0 Zb).2))) ∧ w9 = [(o, .inr (2, [.int (nI rm), .int (nI n), .int (nI bs), .ref aP, .ref aH, .ref aC, .ref aT, .ref aB, .ref aZ, .ref aW, .ref aR, .ref oR, .ref oW])), (aP, .inl (cI, rm, .inl (pF P))), (aZ, .inl (cZ, rm, .inl (nF ((m_spb P (n - (j + 1)) (j + 1) 0 Zb).1))))]) 0 0 := by
  refine rw_of (cc := cT_spoilBehind) (maxL := 4) (ret := some .int) (by decide) rfl (Nat.le_of_ble_eq_true rfl) ?_
  intro p e s m args below meth c Q A ls hx hb hr hml hown hts hlocks hin hK hP hD hA hl hQ
  have hS : va_S A s.heap s.heap [] := va_S.rf
  have hl : lv_has ls 4 [(0, .ref o), (1, .int (nI j))] := hl
  have hown : s.vm.findClass RT = some m.cls := hown
  obtain ⟨H, hHe⟩ : ∃ H : Heap, H = s.heap := ⟨_, rfl⟩
  rw [← hHe] at hP
  have hS : va_S A s.heap H [] := by rw [hHe]; exact va_S.rf
  suffices h9 : W p l e rm_c_spoilBehind s m args below meth c H [] 0 0 Q (F0 m 0 ls []) by rw [hHe] at h9; exact h9
  clear hHe
  refine lv_iconst (v := nI 0) hx hb dT_spoilBehind_0 (by decide) ?_
  refine lv_istore_n (lv' := [(2, .int (nI 0)), (0, .ref o), (1, .int (nI j))]) hx hb dT_spoilBehind_1 rfl hl (by decide) rfl (fun ls hl => ?_)
  refine lv_iload_n hx hb dT_spoilBehind_2 rfl (lv_at hl 2 rfl) ?_
  refine lv_iconst (v := nI 1) hx hb dT_spoilBehind_3 (by decide) ?_
  refine lv_iadd hx hb dT_spoilBehind_4 ?_
  refine tp_i (y := nI (j + 1)) (nI_add _ _) ?_
  refine lv_istore_n (lv' := [(3, .int (nI (j + 1))), (2, .int (nI 0)), (0, .ref o), (1, .int (nI j))]) hx hb dT_spoilBehind_5 rfl hl (by decide) rfl (fun ls hl => ?_)
  have lp_6 : ∀ (n_6 : Nat) (d i s9 : Nat) (z : Nat → Nat), (d < n_6) → (i + d = n) → (1 ≤ i) → (s9 ≤ i) → (∀ x : Nat, z x < 2) → (m_spb P d i s9 z = m_spb P (n - (j + 1)) (j + 1) 0 Zb) → ∀ (H : Heap) (locs : List Loc), va_P D vwCl [(o, .inr (2, [.int (nI rm), .int (nI n), .int (nI bs), .ref aP, .ref aH, .ref aC, .ref aT, .ref aB, .ref aZ, .ref aW, .ref aR, .ref oR, .ref oW])), (aP, .inl (cI, rm, .inl (pF P))), (aZ, .inl (cZ, rm, .inl (nF z)))] H → va_D A [(o, .inr (2, [.int (nI rm), .int (nI n), .int (nI bs), .ref aP, .ref aH, .ref aC, .ref aT, .ref aB, .ref aZ, .ref aW, .ref aR, .ref oR, .ref oW])), (aP, .inl (cI, rm, .inl (pF P))), (aZ, .inl (cZ, rm, .inl (nF z)))] → va_S A s.heap H locs → ∀ (ls : Array Slot), lv_has ls 4 [(0, .ref o), (2, .int (nI s9)), (3, .int (nI i))] → W p l e rm_c_spoilBehind s m args below meth c H locs 0 0 Q (F0 m 6 ls []) := by
    intro n_6
    induction n_6 with
    | zero => intro d i s9 z hn hd hi1 hs9 hz hg H locs hP hD hS ls hl; exact absurd hn (by omega)
    | succ n_6 ih_6 =>
      intro d i s9 z hn hd hi1 hs9 hz hg H locs hP hD hS ls hl
      refine lv_iload_n hx hb dT_spoilBehind_6 rfl (lv_at hl 2 rfl) ?_
      refine lv_aload_n hx hb dT_spoilBehind_7 rfl (lv_at hl 0 rfl) ?_
      refine va_get (D := D) (ci := 2) (v := .int (nI n)) (C := RT) (T := TT) (N := 13) hx hb hts iT_spoilBehind_T hown hK hP 0 rfl rfl 1 (by decide) (hts (.fieldLink RT 70 "TreeDesk" "count" "I") (by decide +kernel)) (fun _ h9 => h9) rfl dT_spoilBehind_8 ?_
      refine lv_icmp_ge (tgt := 53) hx hb dT_spoilBehind_11 (by decide) (fun c_11 => ?_) (fun c_11 => ?_)
      · skip
        have c_11 : n ≤ i := n_le c_11 (by omega) (by omega)
        have hd0 : d = 0 := by omega
        subst hd0
        have hz8 : m_spb P (n - (j + 1)) (j + 1) 0 Zb = (z, s9) := hg.symm.trans rfl
        refine lv_iload_n hx hb dT_spoilBehind_53 rfl (lv_at hl 1 rfl) ?_
        exact rw_iret (w := [(o, .inr (2, [.int (nI rm), .int (nI n), .int (nI bs), .ref aP, .ref aH, .ref aC, .ref aT, .ref aB, .ref aZ, .ref aW, .ref aR, .ref oR, .ref oW])), (aP, .inl (cI, rm, .inl (pF P))), (aZ, .inl (cZ, rm, .inl (nF z)))]) hQ hx hb hr hlocks dT_spoilBehind_54 (hP.sub [0, 1, 2] rfl) (hD.sub [0, 1, 2] (by decide) rfl) hS ⟨by rw [hz8], by rw [hz8]⟩
      · skip
        have c_11 : i < n := n_nle c_11 (by omega) (by omega)
        obtain ⟨d, rfl⟩ : ∃ d' : Nat, d = d' + 1 := ⟨d - 1, by omega⟩
        have hzi := hz i
        have hzp := hz (P i)
        refine lv_aload_n hx hb dT_spoilBehind_14 rfl (lv_at hl 0 rfl) ?_
        refine va_get (D := D) (ci := 2) (v := .ref aZ) (C := RT) (T := TT) (N := 13) hx hb hts iT_spoilBehind_T hown hK hP 0 rfl rfl 8 (by decide) (hts (.fieldLink RT 30 "TreeDesk" "bad" "[Z") (by decide +kernel)) (fun _ h9 => h9) rfl dT_spoilBehind_15 ?_
        refine lv_iload_n hx hb dT_spoilBehind_18 rfl (lv_at hl 2 rfl) ?_
        refine ar_zld (j := i) hx hb hK hP 2 2 rfl rfl dT_spoilBehind_19 (by omega) (by omega) ?_
        refine tp_i (y := nI (z i)) rfl ?_
        refine lv_if_ne (tgt := 47) hx hb dT_spoilBehind_20 (by decide) (fun c_20 => ?_) (fun c_20 => ?_)
        · skip
          rw [← nI_0] at c_20
          have c_20 : ¬ (z i) = 0 := n_ne c_20
          refine lv_iinc (v := nI (i + 1)) (lv' := [(3, .int (nI (i + 1))), (0, .ref o), (2, .int (nI s9))]) hx hb dT_spoilBehind_47 hl (k := 2) rfl (nI_add _ 1) (by decide) rfl (fun ls hl => ?_)
          refine lv_goto (tgt := 6) hx hb dT_spoilBehind_50 (by decide) ?_
          exact ih_6 d (i + 1) s9 z (by omega) (by omega) (by omega) (by omega) hz (by rw [← hg, m_spb, if_neg c_20]) _ _ (hP.sub [0, 1, 2] rfl) (hD.sub [0, 1, 2] (by decide) rfl) hS ls (lv_sub hl [1, 2, 0] rfl)
        · skip
          rw [← nI_0] at c_20
          have c_20 : (z i) = 0 := n_eq c_20 (by omega) (by omega)
          refine lv_aload_n hx hb dT_spoilBehind_23 rfl (lv_at hl 0 rfl) ?_
          refine va_get (D := D) (ci := 2) (v := .ref aZ) (C := RT) (T := TT) (N := 13) hx hb hts iT_spoilBehind_T hown hK hP 0 rfl rfl 8 (by decide) (hts (.fieldLink RT 30 "TreeDesk" "bad" "[Z") (by decide +kernel)) (fun _ h9 => h9) rfl dT_spoilBehind_24 ?_
          refine lv_aload_n hx hb dT_spoilBehind_27 rfl (lv_at hl 0 rfl) ?_
          refine va_get (D := D) (ci := 2) (v := .ref aP) (C := RT) (T := TT) (N := 13) hx hb hts iT_spoilBehind_T hown hK hP 0 rfl rfl 3 (by decide) (hts (.fieldLink RT 13 "TreeDesk" "parents" "[I") (by decide +kernel)) (fun _ h9 => h9) rfl dT_spoilBehind_28 ?_
          refine lv_iload_n hx hb dT_spoilBehind_31 rfl (lv_at hl 2 rfl) ?_
          have hpi := hpar i (by omega) (by omega)
          refine ar_ild (j := i) hx hb hK hP 1 0 rfl rfl dT_spoilBehind_32 (by omega) (by omega) ?_
          refine tp_i (y := nI (P i)) (pF_s (by omega)) ?_
          refine ar_zld (j := P i) hx hb hK hP 2 2 rfl rfl dT_spoilBehind_33 (by omega) (by omega) ?_
          refine tp_i (y := nI (z (P i))) rfl ?_
          refine lv_if_eq (tgt := 47) hx hb dT_spoilBehind_34 (by decide) (fun c_34 => ?_) (fun c_34 => ?_)
          · skip
            rw [← nI_0] at c_34
            have c_34 : (z (P i)) = 0 := n_eq c_34 (by omega) (by omega)
            refine lv_iinc (v := nI (i + 1)) (lv' := [(3, .int (nI (i + 1))), (0, .ref o), (2, .int (nI s9))]) hx hb dT_spoilBehind_47 hl (k := 2) rfl (nI_add _ 1) (by decide) rfl (fun ls hl => ?_)
            refine lv_goto (tgt := 6) hx hb dT_spoilBehind_50 (by decide) ?_
            exact ih_6 d (i + 1) s9 z (by omega) (by omega) (by omega) (by omega) hz (by rw [← hg, m_spb, if_pos c_20, if_pos c_34]) _ _ (hP.sub [0, 1, 2] rfl) (hD.sub [0, 1, 2] (by decide) rfl) hS ls (lv_sub hl [1, 2, 0] rfl)
          · skip
            rw [← nI_0] at c_34
            have c_34 : ¬ (z (P i)) = 0 := n_ne c_34
            refine lv_aload_n hx hb dT_spoilBehind_37 rfl (lv_at hl 0 rfl) ?_
            refine va_get (D := D) (ci := 2) (v := .ref aZ) (C := RT) (T := TT) (N := 13) hx hb hts iT_spoilBehind_T hown hK hP 0 rfl rfl 8 (by decide) (hts (.fieldLink RT 30 "TreeDesk" "bad" "[Z") (by decide +kernel)) (fun _ h9 => h9) rfl dT_spoilBehind_38 ?_
            refine lv_iload_n hx hb dT_spoilBehind_41 rfl (lv_at hl 2 rfl) ?_
            refine lv_iconst (v := nI 1) hx hb dT_spoilBehind_42 (by decide) ?_
            refine ar_zst (j := i) (x' := nI 1) hx hb hK hP hD hS 2 2 rfl rfl dT_spoilBehind_43 (by omega) (by omega) rfl (fun H locs hP hD hS => ?_)
            have hP : va_P D vwCl [(o, .inr (2, [.int (nI rm), .int (nI n), .int (nI bs), .ref aP, .ref aH, .ref aC, .ref aT, .ref aB, .ref aZ, .ref aW, .ref aR, .ref oR, .ref oW])), (aP, .inl (cI, rm, .inl (pF P))), (aZ, .inl (cZ, rm, .inl (upd (nF z) i (nI 1))))] H := hP
            have hD : va_D A [(o, .inr (2, [.int (nI rm), .int (nI n), .int (nI bs), .ref aP, .ref aH, .ref aC, .ref aT, .ref aB, .ref aZ, .ref aW, .ref aR, .ref oR, .ref oW])), (aP, .inl (cI, rm, .inl (pF P))), (aZ, .inl (cZ, rm, .inl (upd (nF z) i (nI 1))))] := hD
            have e_w43 : upd (nF z) i (nI 1) = nF (updN z i 1) := nF_u z i 1
            rw [e_w43] at hP hD
            refine lv_iinc (v := nI (s9 + 1)) (lv' := [(2, .int (nI (s9 + 1))), (0, .ref o), (3, .int (nI i))]) hx hb dT_spoilBehind_44 hl (k := 1) rfl (nI_add _ 1) (by decide) rfl (fun ls hl => ?_)
            refine lv_iinc (v := nI (i + 1)) (lv' := [(3, .int (nI (i + 1))), (2, .int (nI (s9 + 1))), (0, .ref o)]) hx hb dT_spoilBehind_47 hl (k := 2) rfl (nI_add _ 1) (by decide) rfl (fun ls hl => ?_)
            refine lv_goto (tgt := 6) hx hb dT_spoilBehind_50 (by decide) ?_
            exact ih_6 d (i + 1) (s9 + 1) (updN z i 1) (by omega) (by omega) (by omega) (by omega) (updN_2 hz) (by rw [← hg, m_spb, if_pos c_20, if_neg c_34]) _ _ (hP.sub [0, 1, 2] rfl) (hD.sub [0, 1, 2] (by decide) rfl) hS ls (lv_sub hl [2, 1, 0] rfl)
  exact lp_6 (n + 1) (n - (j + 1)) (j + 1) 0 Zb (by omega) (by omega) (by omega) (by omega) hz9 rfl _ _ (hP.sub [0, 1, 2] rfl) (hD.sub [0, 1, 2] (by decide) rfl) hS ls (lv_sub hl [2, 1, 0] rfl)

abbrev rm_c_spoil_nob : Room := { frames := 1, cells := 0, slots := 0, locals := 21 }
set_option maxRecDepth 100000 in
set_option maxHeartbeats 4000000 in
theorem c_spoil_nob (l : Launch) (D : va_G) (cI cJ cZ : ClassId) (o : Nat) (rm : Nat) (n : Nat) (bs : Nat) (aP : Nat) (aH : Nat) (aC : Nat) (aT : Nat) (aB : Nat) (aZ : Nat) (aW : Nat) (aR : Nat) (oR : Nat) (oW : Nat) (x : Int32) (hx9 : ¬ (0 ≤ x ∧ x < nI n)) : ro_C l yT_spoil wT_spoil rm_c_spoil_nob D vwCl (gT cI cJ cZ) [.ref o, .int x] [(o, .inr (2, [.int (nI rm), .int (nI n), .int (nI bs), .ref aP, .ref aH, .ref aC, .ref aT, .ref aB, .ref aZ, .ref aW, .ref aR, .ref oR, .ref oW]))] (some (.int (nI 0))) := by
  refine ro_of (cc := cT_spoil) (maxL := 3) (ret := some .int) (by decide) rfl (Nat.le_of_ble_eq_true rfl) ?_
  intro p e s m args below meth c Q ls hx hb hr hml hown hts hlocks hK hP hl hQ
  have hl : lv_has ls 3 [(0, .ref o), (1, .int x)] := hl
  have hown : s.vm.findClass RT = some m.cls := hown
  refine lv_aload_n hx hb dT_spoil_0 rfl (lv_at hl 0 rfl) ?_
  refine lv_iload_n hx hb dT_spoil_1 rfl (lv_at hl 1 rfl) ?_
  refine ro_ki (va_runV (As := [.int x]) (rest := []) ⟨hx, hb, hml, hown, hts⟩ (c_isBlock_no l D cI cJ cZ o rm n bs aP aH aC aT aB aZ aW aR oR oW x hx9) (cwV 1 hts gT_spoil_T_isBlock_76 rfl rfl rfl (by decide +kernel) ⟨Nat.le_of_ble_eq_true rfl, Nat.le_of_ble_eq_true rfl⟩) (ro_preV (hP.sub [0] rfl) hK (va_recv hK hP (ci := 2) (q0 := 0) rfl rfl)) rfl rfl hl.1 rfl (lv_room (Nat.le_of_ble_eq_true rfl)) dT_spoil_2 ⟨Nat.le_of_ble_eq_true rfl, Nat.le_of_ble_eq_true rfl⟩) ?_
  refine lv_if_eq (tgt := 21) hx hb dT_spoil_5 (by decide) (fun c_5 => ?_) (fun c_5 => ?_)
  · skip
    rw [← nI_0] at c_5
    have c_5 : 0 = 0 := n_eq c_5 (by omega) (by omega)
    refine lv_iconst (v := nI 0) hx hb dT_spoil_21 (by decide) ?_
    exact ro_iret hQ hx hb hr hlocks dT_spoil_22 rfl
  · skip
    rw [← nI_0] at c_5
    have c_5 : ¬ 0 = 0 := n_ne c_5
    omega

abbrev rm_c_spoil_root : Room := { frames := 1, cells := 0, slots := 0, locals := 21 }
set_option maxRecDepth 100000 in
set_option maxHeartbeats 4000000 in
theorem c_spoil_root (l : Launch) (D : va_G) (cI cJ cZ : ClassId) (o : Nat) (rm : Nat) (n : Nat) (bs : Nat) (aP : Nat) (aH : Nat) (aC : Nat) (aT : Nat) (aB : Nat) (aZ : Nat) (aW : Nat) (aR : Nat) (oR : Nat) (oW : Nat) (hn9 : n ≤ 300) (hn1 : 0 < n) : ro_C l yT_spoil wT_spoil rm_c_spoil_root D vwCl (gT cI cJ cZ) [.ref o, .int (nI 0)] [(o, .inr (2, [.int (nI rm), .int (nI n), .int (nI bs), .ref aP, .ref aH, .ref aC, .ref aT, .ref aB, .ref aZ, .ref aW, .ref aR, .ref oR, .ref oW]))] (some (.int (nI 0))) := by
  refine ro_of (cc := cT_spoil) (maxL := 3) (ret := some .int) (by decide) rfl (Nat.le_of_ble_eq_true rfl) ?_
  intro p e s m args below meth c Q ls hx hb hr hml hown hts hlocks hK hP hl hQ
  have hl : lv_has ls 3 [(0, .ref o), (1, .int (nI 0))] := hl
  have hown : s.vm.findClass RT = some m.cls := hown
  refine lv_aload_n hx hb dT_spoil_0 rfl (lv_at hl 0 rfl) ?_
  refine lv_iload_n hx hb dT_spoil_1 rfl (lv_at hl 1 rfl) ?_
  refine ro_ki (va_runV (As := [.int (nI 0)]) (rest := []) ⟨hx, hb, hml, hown, hts⟩ (c_isBlock_ok l D cI cJ cZ o rm n bs aP aH aC aT aB aZ aW aR oR oW 0 (by omega) (by omega)) (cwV 1 hts gT_spoil_T_isBlock_76 rfl rfl rfl (by decide +kernel) ⟨Nat.le_of_ble_eq_true rfl, Nat.le_of_ble_eq_true rfl⟩) (ro_preV (hP.sub [0] rfl) hK (va_recv hK hP (ci := 2) (q0 := 0) rfl rfl)) rfl rfl hl.1 rfl (lv_room (Nat.le_of_ble_eq_true rfl)) dT_spoil_2 ⟨Nat.le_of_ble_eq_true rfl, Nat.le_of_ble_eq_true rfl⟩) ?_
  refine lv_if_eq (tgt := 21) hx hb dT_spoil_5 (by decide) (fun c_5 => ?_) (fun c_5 => ?_)
  · skip
    rw [← nI_0] at c_5
    have c_5 : 1 = 0 := n_eq c_5 (by omega) (by omega)
    omega
  · skip
    rw [← nI_0] at c_5
    have c_5 : ¬ 1 = 0 := n_ne c_5
    refine lv_iload_n hx hb dT_spoil_8 rfl (lv_at hl 1 rfl) ?_
    refine lv_if_eq (tgt := 21) hx hb dT_spoil_9 (by decide) (fun c_9 => ?_) (fun c_9 => ?_)
    · skip
      rw [← nI_0] at c_9
      have c_9 : 0 = 0 := n_eq c_9 (by omega) (by omega)
      refine lv_iconst (v := nI 0) hx hb dT_spoil_21 (by decide) ?_
      exact ro_iret hQ hx hb hr hlocks dT_spoil_22 rfl
    · skip
      rw [← nI_0] at c_9
      have c_9 : ¬ 0 = 0 := n_ne c_9
      omega

abbrev rm_c_spoil_bad : Room := { frames := 1, cells := 0, slots := 0, locals := 21 }
set_option maxRecDepth 100000 in
set_option maxHeartbeats 4000000 in
theorem c_spoil_bad (l : Launch) (D : va_G) (cI cJ cZ : ClassId) (o : Nat) (rm : Nat) (n : Nat) (bs : Nat) (aP : Nat) (aH : Nat) (aC : Nat) (aT : Nat) (aB : Nat) (aZ : Nat) (aW : Nat) (aR : Nat) (oR : Nat) (oW : Nat) (Zb : Nat → Nat) (j : Nat) (hn3 : n ≤ rm) (hr3 : rm ≤ 300) (hj : j < n) (hz1 : ¬ Zb j = 0) (hz2 : Zb j < 2) : ro_C l yT_spoil wT_spoil rm_c_spoil_bad D vwCl (gT cI cJ cZ) [.ref o, .int (nI j)] [(o, .inr (2, [.int (nI rm), .int (nI n), .int (nI bs), .ref aP, .ref aH, .ref aC, .ref aT, .ref aB, .ref aZ, .ref aW, .ref aR, .ref oR, .ref oW])), (aZ, .inl (cZ, rm, .inl (nF Zb)))] (some (.int (nI 0))) := by
  refine ro_of (cc := cT_spoil) (maxL := 3) (ret := some .int) (by decide) rfl (Nat.le_of_ble_eq_true rfl) ?_
  intro p e s m args below meth c Q ls hx hb hr hml hown hts hlocks hK hP hl hQ
  have hl : lv_has ls 3 [(0, .ref o), (1, .int (nI j))] := hl
  have hown : s.vm.findClass RT = some m.cls := hown
  refine lv_aload_n hx hb dT_spoil_0 rfl (lv_at hl 0 rfl) ?_
  refine lv_iload_n hx hb dT_spoil_1 rfl (lv_at hl 1 rfl) ?_
  refine ro_ki (va_runV (As := [.int (nI j)]) (rest := []) ⟨hx, hb, hml, hown, hts⟩ (c_isBlock_ok l D cI cJ cZ o rm n bs aP aH aC aT aB aZ aW aR oR oW j (by omega) (by omega)) (cwV 1 hts gT_spoil_T_isBlock_76 rfl rfl rfl (by decide +kernel) ⟨Nat.le_of_ble_eq_true rfl, Nat.le_of_ble_eq_true rfl⟩) (ro_preV (hP.sub [0] rfl) hK (va_recv hK hP (ci := 2) (q0 := 0) rfl rfl)) rfl rfl hl.1 rfl (lv_room (Nat.le_of_ble_eq_true rfl)) dT_spoil_2 ⟨Nat.le_of_ble_eq_true rfl, Nat.le_of_ble_eq_true rfl⟩) ?_
  refine lv_if_eq (tgt := 21) hx hb dT_spoil_5 (by decide) (fun c_5 => ?_) (fun c_5 => ?_)
  · skip
    rw [← nI_0] at c_5
    have c_5 : 1 = 0 := n_eq c_5 (by omega) (by omega)
    omega
  · skip
    rw [← nI_0] at c_5
    have c_5 : ¬ 1 = 0 := n_ne c_5
    refine lv_iload_n hx hb dT_spoil_8 rfl (lv_at hl 1 rfl) ?_
    refine lv_if_eq (tgt := 21) hx hb dT_spoil_9 (by decide) (fun c_9 => ?_) (fun c_9 => ?_)
    · skip
      rw [← nI_0] at c_9
      have c_9 : j = 0 := n_eq c_9 (by omega) (by omega)
      refine lv_iconst (v := nI 0) hx hb dT_spoil_21 (by decide) ?_
      exact ro_iret hQ hx hb hr hlocks dT_spoil_22 rfl
    · skip
      rw [← nI_0] at c_9
      have c_9 : ¬ j = 0 := n_ne c_9
      refine lv_aload_n hx hb dT_spoil_12 rfl (lv_at hl 0 rfl) ?_
      refine va_get (D := D) (ci := 2) (v := .ref aZ) (C := RT) (T := TT) (N := 13) hx hb hts iT_spoil_T hown hK hP 0 rfl rfl 8 (by decide) (hts (.fieldLink RT 30 "TreeDesk" "bad" "[Z") (by decide +kernel)) (fun _ h9 => h9) rfl dT_spoil_13 ?_
      refine lv_iload_n hx hb dT_spoil_16 rfl (lv_at hl 1 rfl) ?_
      refine ar_zld (j := j) hx hb hK hP 1 2 rfl rfl dT_spoil_17 (by omega) (by omega) ?_
      refine tp_i (y := nI (Zb j)) rfl ?_
      refine lv_if_eq (tgt := 23) hx hb dT_spoil_18 (by decide) (fun c_18 => ?_) (fun c_18 => ?_)
      · skip
        rw [← nI_0] at c_18
        have c_18 : (Zb j) = 0 := n_eq c_18 (by omega) (by omega)
        omega
      · skip
        rw [← nI_0] at c_18
        have c_18 : ¬ (Zb j) = 0 := n_ne c_18
        refine lv_iconst (v := nI 0) hx hb dT_spoil_21 (by decide) ?_
        exact ro_iret hQ hx hb hr hlocks dT_spoil_22 rfl

abbrev rm_c_spoil_ok : Room := { frames := 2, cells := 0, slots := 0, locals := 49 }
set_option maxRecDepth 100000 in
set_option maxHeartbeats 4000000 in
theorem c_spoil_ok (l : Launch) (D : va_G) (cI cJ cZ : ClassId) (o : Nat) (rm : Nat) (n : Nat) (bs : Nat) (aP : Nat) (aH : Nat) (aC : Nat) (aT : Nat) (aB : Nat) (aZ : Nat) (aW : Nat) (aR : Nat) (oR : Nat) (oW : Nat) (P : Nat → Nat) (Zb : Nat → Nat) (Wk : Nat → Int64) (j : Nat) (hn3 : n ≤ rm) (hr3 : rm ≤ 300) (hj : j < n) (hj0 : 0 < j) (hbs : bs < n) (hz0 : Zb j = 0) (hz9 : ∀ x : Nat, Zb x < 2) (hpar : ∀ x : Nat, 0 < x → x < n → P x < x) : rw_C l yT_spoil wT_spoil rm_c_spoil_ok D vwCl (gT cI cJ cZ) [.ref o, .int (nI j)] [(o, .inr (2, [.int (nI rm), .int (nI n), .int (nI bs), .ref aP, .ref aH, .ref aC, .ref aT, .ref aB, .ref aZ, .ref aW, .ref aR, .ref oR, .ref oW])), (aP, .inl (cI, rm, .inl (pF P))), (aZ, .inl (cZ, rm, .inl (nF Zb))), (aW, .inl (cJ, rm * 8, .inr (.inl Wk)))] (fun v9 w9 => v9 = some (.int (nI (1 + (m_spb P (n - (j + 1)) (j + 1) 0 (updN Zb j 1)).2))) ∧ w9 = [(o, .inr (2, [.int (nI rm), .int (nI n), .int (nI (if (m_spb P (n - (j + 1)) (j + 1) 0 (updN Zb j 1)).1 bs = 0 then bs else m_best (m_spb P (n - (j + 1)) (j + 1) 0 (updN Zb j 1)).1 Wk (n - 1) 1 0)), .ref aP, .ref aH, .ref aC, .ref aT, .ref aB, .ref aZ, .ref aW, .ref aR, .ref oR, .ref oW])), (aP, .inl (cI, rm, .inl (pF P))), (aZ, .inl (cZ, rm, .inl (nF ((m_spb P (n - (j + 1)) (j + 1) 0 (updN Zb j 1)).1)))), (aW, .inl (cJ, rm * 8, .inr (.inl Wk)))]) 0 0 := by
  refine rw_of (cc := cT_spoil) (maxL := 3) (ret := some .int) (by decide) rfl (Nat.le_of_ble_eq_true rfl) ?_
  intro p e s m args below meth c Q A ls hx hb hr hml hown hts hlocks hin hK hP hD hA hl hQ
  have hS : va_S A s.heap s.heap [] := va_S.rf
  have hl : lv_has ls 3 [(0, .ref o), (1, .int (nI j))] := hl
  have hown : s.vm.findClass RT = some m.cls := hown
  obtain ⟨H, hHe⟩ : ∃ H : Heap, H = s.heap := ⟨_, rfl⟩
  rw [← hHe] at hP
  have hS : va_S A s.heap H [] := by rw [hHe]; exact va_S.rf
  suffices h9 : W p l e rm_c_spoil_ok s m args below meth c H [] 0 0 Q (F0 m 0 ls []) by rw [hHe] at h9; exact h9
  clear hHe
  refine lv_aload_n hx hb dT_spoil_0 rfl (lv_at hl 0 rfl) ?_
  refine lv_iload_n hx hb dT_spoil_1 rfl (lv_at hl 1 rfl) ?_
  refine ro_ki (va_runV (As := [.int (nI j)]) (rest := []) ⟨hx, hb, hml, hown, hts⟩ (c_isBlock_ok l D cI cJ cZ o rm n bs aP aH aC aT aB aZ aW aR oR oW j (by omega) (by omega)) (cwV 1 hts gT_spoil_T_isBlock_76 rfl rfl rfl (by decide +kernel) ⟨Nat.le_of_ble_eq_true rfl, Nat.le_of_ble_eq_true rfl⟩) (ro_preV (hP.sub [0] rfl) hK (va_recv hK hP (ci := 2) (q0 := 0) rfl rfl)) rfl rfl hl.1 rfl (lv_room (Nat.le_of_ble_eq_true rfl)) dT_spoil_2 ⟨Nat.le_of_ble_eq_true rfl, Nat.le_of_ble_eq_true rfl⟩) ?_
  refine lv_if_eq (tgt := 21) hx hb dT_spoil_5 (by decide) (fun c_5 => ?_) (fun c_5 => ?_)
  · skip
    rw [← nI_0] at c_5
    have c_5 : 1 = 0 := n_eq c_5 (by omega) (by omega)
    omega
  · skip
    rw [← nI_0] at c_5
    have c_5 : ¬ 1 = 0 := n_ne c_5
    refine lv_iload_n hx hb dT_spoil_8 rfl (lv_at hl 1 rfl) ?_
    refine lv_if_eq (tgt := 21) hx hb dT_spoil_9 (by decide) (fun c_9 => ?_) (fun c_9 => ?_)
    · skip
      rw [← nI_0] at c_9
      have c_9 : j = 0 := n_eq c_9 (by omega) (by omega)
      omega
    · skip
      rw [← nI_0] at c_9
      have c_9 : ¬ j = 0 := n_ne c_9
      refine lv_aload_n hx hb dT_spoil_12 rfl (lv_at hl 0 rfl) ?_
      refine va_get (D := D) (ci := 2) (v := .ref aZ) (C := RT) (T := TT) (N := 13) hx hb hts iT_spoil_T hown hK hP 0 rfl rfl 8 (by decide) (hts (.fieldLink RT 30 "TreeDesk" "bad" "[Z") (by decide +kernel)) (fun _ h9 => h9) rfl dT_spoil_13 ?_
      refine lv_iload_n hx hb dT_spoil_16 rfl (lv_at hl 1 rfl) ?_
      refine ar_zld (j := j) hx hb hK hP 2 2 rfl rfl dT_spoil_17 (by omega) (by omega) ?_
      refine tp_i (y := nI (Zb j)) rfl ?_
      refine lv_if_eq (tgt := 23) hx hb dT_spoil_18 (by decide) (fun c_18 => ?_) (fun c_18 => ?_)
      · skip
        rw [← nI_0] at c_18
        have c_18 : (Zb j) = 0 := n_eq c_18 (by omega) (by omega)
        refine lv_aload_n hx hb dT_spoil_23 rfl (lv_at hl 0 rfl) ?_
        refine va_get (D := D) (ci := 2) (v := .ref aZ) (C := RT) (T := TT) (N := 13) hx hb hts iT_spoil_T hown hK hP 0 rfl rfl 8 (by decide) (hts (.fieldLink RT 30 "TreeDesk" "bad" "[Z") (by decide +kernel)) (fun _ h9 => h9) rfl dT_spoil_24 ?_
        refine lv_iload_n hx hb dT_spoil_27 rfl (lv_at hl 1 rfl) ?_
        refine lv_iconst (v := nI 1) hx hb dT_spoil_28 (by decide) ?_
        refine ar_zst (j := j) (x' := nI 1) hx hb hK hP hD hS 2 2 rfl rfl dT_spoil_29 (by omega) (by omega) rfl (fun H locs hP hD hS => ?_)
        have hP : va_P D vwCl [(o, .inr (2, [.int (nI rm), .int (nI n), .int (nI bs), .ref aP, .ref aH, .ref aC, .ref aT, .ref aB, .ref aZ, .ref aW, .ref aR, .ref oR, .ref oW])), (aP, .inl (cI, rm, .inl (pF P))), (aZ, .inl (cZ, rm, .inl (upd (nF Zb) j (nI 1)))), (aW, .inl (cJ, rm * 8, .inr (.inl Wk)))] H := hP
        have hD : va_D A [(o, .inr (2, [.int (nI rm), .int (nI n), .int (nI bs), .ref aP, .ref aH, .ref aC, .ref aT, .ref aB, .ref aZ, .ref aW, .ref aR, .ref oR, .ref oW])), (aP, .inl (cI, rm, .inl (pF P))), (aZ, .inl (cZ, rm, .inl (upd (nF Zb) j (nI 1)))), (aW, .inl (cJ, rm * 8, .inr (.inl Wk)))] := hD
        have e_w29 : upd (nF Zb) j (nI 1) = nF (updN Zb j 1) := nF_u Zb j 1
        rw [e_w29] at hP hD
        refine lv_iconst (v := nI 1) hx hb dT_spoil_30 (by decide) ?_
        refine lv_aload_n hx hb dT_spoil_31 rfl (lv_at hl 0 rfl) ?_
        refine lv_iload_n hx hb dT_spoil_32 rfl (lv_at hl 1 rfl) ?_
        refine rw_k (wc := [(o, .inr (2, [.int (nI rm), .int (nI n), .int (nI bs), .ref aP, .ref aH, .ref aC, .ref aT, .ref aB, .ref aZ, .ref aW, .ref aR, .ref oR, .ref oW])), (aP, .inl (cI, rm, .inl (pF P))), (aZ, .inl (cZ, rm, .inl (nF (updN Zb j 1))))]) (wr := [(aW, .inl (cJ, rm * 8, .inr (.inl Wk)))]) (va_runV (As := [.int (nI j)]) (rest := [.int (nI 1)]) ⟨hx, hb, hml, hown, hts⟩ (c_spoilBehind l D cI cJ cZ o rm n bs aP aH aC aT aB aZ aW aR oR oW P (updN Zb j 1) j (by omega) (by omega) (by omega) (updN_2 hz9) hpar H.size) (cwV 1 hts gT_spoil_T_spoilBehind_91 rfl rfl rfl (by decide +kernel) ⟨Nat.le_of_ble_eq_true rfl, Nat.le_of_ble_eq_true rfl⟩) (rw_preV (hP.sub [0, 1, 2] rfl) hK (hD.sub [0, 1, 2] (by decide) rfl) (va_recv hK hP (ci := 2) (q0 := 0) rfl rfl)) rfl rfl hl.1 rfl (lv_room (Nat.le_of_ble_eq_true rfl)) dT_spoil_33 ⟨Nat.le_of_ble_eq_true rfl, Nat.le_of_ble_eq_true rfl⟩) hP hD hS hA [0, 1, 2] [3] rfl rfl (by decide) (by decide) (fun v9 w9 H locs hp9 hP hD hS => ?_)
        obtain ⟨rfl, rfl⟩ := hp9
        have hP : va_P D vwCl [(aW, .inl (cJ, rm * 8, .inr (.inl Wk))), (o, .inr (2, [.int (nI rm), .int (nI n), .int (nI bs), .ref aP, .ref aH, .ref aC, .ref aT, .ref aB, .ref aZ, .ref aW, .ref aR, .ref oR, .ref oW])), (aP, .inl (cI, rm, .inl (pF P))), (aZ, .inl (cZ, rm, .inl (nF ((m_spb P (n - (j + 1)) (j + 1) 0 (updN Zb j 1)).1))))] H := hP
        have hD : va_D A [(aW, .inl (cJ, rm * 8, .inr (.inl Wk))), (o, .inr (2, [.int (nI rm), .int (nI n), .int (nI bs), .ref aP, .ref aH, .ref aC, .ref aT, .ref aB, .ref aZ, .ref aW, .ref aR, .ref oR, .ref oW])), (aP, .inl (cI, rm, .inl (pF P))), (aZ, .inl (cZ, rm, .inl (nF ((m_spb P (n - (j + 1)) (j + 1) 0 (updN Zb j 1)).1))))] := hD
        refine W.eq (g2 := F0 m 36 ls [.int (nI ((m_spb P (n - (j + 1)) (j + 1) 0 (updN Zb j 1)).2)), .int (nI 1)]) rfl ?_
        refine lv_iadd hx hb dT_spoil_36 ?_
        refine tp_i (y := nI (1 + ((m_spb P (n - (j + 1)) (j + 1) 0 (updN Zb j 1)).2))) (nI_add _ _) ?_
        refine lv_istore_n (lv' := [(2, .int (nI (1 + ((m_spb P (n - (j + 1)) (j + 1) 0 (updN Zb j 1)).2)))), (0, .ref o), (1, .int (nI j))]) hx hb dT_spoil_37 rfl hl (by decide) rfl (fun ls hl => ?_)
        refine lv_aload_n hx hb dT_spoil_38 rfl (lv_at hl 1 rfl) ?_
        refine va_get (D := D) (ci := 2) (v := .ref aZ) (C := RT) (T := TT) (N := 13) hx hb hts iT_spoil_T hown hK hP 1 rfl rfl 8 (by decide) (hts (.fieldLink RT 30 "TreeDesk" "bad" "[Z") (by decide +kernel)) (fun _ h9 => h9) rfl dT_spoil_39 ?_
        refine lv_aload_n hx hb dT_spoil_42 rfl (lv_at hl 1 rfl) ?_
        refine va_get (D := D) (ci := 2) (v := .int (nI bs)) (C := RT) (T := TT) (N := 13) hx hb hts iT_spoil_T hown hK hP 1 rfl rfl 2 (by decide) (hts (.fieldLink RT 73 "TreeDesk" "best" "I") (by decide +kernel)) (fun _ h9 => h9) rfl dT_spoil_43 ?_
        have hzb := m_spb_2 (P := P) (d := n - (j + 1)) (i := j + 1) (s := 0) (updN_2 (i := j) hz9) bs
        refine ar_zld (j := bs) hx hb hK hP 3 2 rfl rfl dT_spoil_46 (by omega) (by omega) ?_
        refine tp_i (y := nI ((m_spb P (n - (j + 1)) (j + 1) 0 (updN Zb j 1)).1 bs)) rfl ?_
        refine lv_if_eq (tgt := 58) hx hb dT_spoil_47 (by decide) (fun c_47 => ?_) (fun c_47 => ?_)
        · skip
          rw [← nI_0] at c_47
          have c_47 : ((m_spb P (n - (j + 1)) (j + 1) 0 (updN Zb j 1)).1 bs) = 0 := n_eq c_47 (by omega) (by omega)
          refine lv_iload_n hx hb dT_spoil_58 rfl (lv_at hl 0 rfl) ?_
          exact rw_iret (w := [(o, .inr (2, [.int (nI rm), .int (nI n), .int (nI bs), .ref aP, .ref aH, .ref aC, .ref aT, .ref aB, .ref aZ, .ref aW, .ref aR, .ref oR, .ref oW])), (aP, .inl (cI, rm, .inl (pF P))), (aZ, .inl (cZ, rm, .inl (nF ((m_spb P (n - (j + 1)) (j + 1) 0 (updN Zb j 1)).1)))), (aW, .inl (cJ, rm * 8, .inr (.inl Wk)))]) hQ hx hb hr hlocks dT_spoil_59 (hP.sub [1, 2, 3, 0] rfl) (hD.sub [1, 2, 3, 0] (by decide) rfl) hS ⟨rfl, by rw [if_pos c_47]⟩
        · skip
          rw [← nI_0] at c_47
          have c_47 : ¬ ((m_spb P (n - (j + 1)) (j + 1) 0 (updN Zb j 1)).1 bs) = 0 := n_ne c_47
          refine lv_aload_n hx hb dT_spoil_50 rfl (lv_at hl 1 rfl) ?_
          refine lv_aload_n hx hb dT_spoil_51 rfl (lv_at hl 1 rfl) ?_
          refine ro_ki (va_runV (As := []) (rest := [.ref o]) ⟨hx, hb, hml, hown, hts⟩ (c_findBest l D cI cJ cZ o rm n bs aP aH aC aT aB aZ aW aR oR oW ((m_spb P (n - (j + 1)) (j + 1) 0 (updN Zb j 1)).1) Wk (by omega) (by omega) (by omega) (m_spb_2 (updN_2 hz9))) (cwV 0 hts gT_spoil_T_findBest_95 rfl rfl rfl (by decide +kernel) ⟨Nat.le_of_ble_eq_true rfl, Nat.le_of_ble_eq_true rfl⟩) (ro_preV (hP.sub [1, 3, 0] rfl) hK (va_recv hK hP (ci := 2) (q0 := 1) rfl rfl)) rfl rfl hl.1 rfl (lv_room (Nat.le_of_ble_eq_true rfl)) dT_spoil_52 ⟨Nat.le_of_ble_eq_true rfl, Nat.le_of_ble_eq_true rfl⟩) ?_
          refine va_put (D := D) (ci := 2) (v := .int (nI (m_best ((m_spb P (n - (j + 1)) (j + 1) 0 (updN Zb j 1)).1) Wk (n - 1) 1 0))) (ty := .int) (C := RT) (T := TT) (N := 13) hx hb hts iT_spoil_T tyT tyT_ok nmT hown hK hP hD hS 1 rfl rfl 2 (by decide) (hts (.fieldLink RT 73 "TreeDesk" "best" "I") (by decide +kernel)) (fun _ h9 => h9) rfl (by decide +kernel) rfl rfl (Nat.le_of_ble_eq_true rfl) dT_spoil_55 (fun H locs hP hD hS => ?_)
          have hP : va_P D vwCl [(aW, .inl (cJ, rm * 8, .inr (.inl Wk))), (o, .inr (2, [.int (nI rm), .int (nI n), .int (nI (m_best ((m_spb P (n - (j + 1)) (j + 1) 0 (updN Zb j 1)).1) Wk (n - 1) 1 0)), .ref aP, .ref aH, .ref aC, .ref aT, .ref aB, .ref aZ, .ref aW, .ref aR, .ref oR, .ref oW])), (aP, .inl (cI, rm, .inl (pF P))), (aZ, .inl (cZ, rm, .inl (nF ((m_spb P (n - (j + 1)) (j + 1) 0 (updN Zb j 1)).1))))] H := hP
          have hD : va_D A [(aW, .inl (cJ, rm * 8, .inr (.inl Wk))), (o, .inr (2, [.int (nI rm), .int (nI n), .int (nI (m_best ((m_spb P (n - (j + 1)) (j + 1) 0 (updN Zb j 1)).1) Wk (n - 1) 1 0)), .ref aP, .ref aH, .ref aC, .ref aT, .ref aB, .ref aZ, .ref aW, .ref aR, .ref oR, .ref oW])), (aP, .inl (cI, rm, .inl (pF P))), (aZ, .inl (cZ, rm, .inl (nF ((m_spb P (n - (j + 1)) (j + 1) 0 (updN Zb j 1)).1))))] := hD
          refine lv_iload_n hx hb dT_spoil_58 rfl (lv_at hl 0 rfl) ?_
          exact rw_iret (w := [(o, .inr (2, [.int (nI rm), .int (nI n), .int (nI (m_best ((m_spb P (n - (j + 1)) (j + 1) 0 (updN Zb j 1)).1) Wk (n - 1) 1 0)), .ref aP, .ref aH, .ref aC, .ref aT, .ref aB, .ref aZ, .ref aW, .ref aR, .ref oR, .ref oW])), (aP, .inl (cI, rm, .inl (pF P))), (aZ, .inl (cZ, rm, .inl (nF ((m_spb P (n - (j + 1)) (j + 1) 0 (updN Zb j 1)).1)))), (aW, .inl (cJ, rm * 8, .inr (.inl Wk)))]) hQ hx hb hr hlocks dT_spoil_59 (hP.sub [1, 2, 3, 0] rfl) (hD.sub [1, 2, 3, 0] (by decide) rfl) hS ⟨rfl, by rw [if_neg c_47]⟩
      · skip
        rw [← nI_0] at c_18
        have c_18 : ¬ (Zb j) = 0 := n_ne c_18
        omega

abbrev rm_c_append_new : Room := { frames := 6, cells := 0, slots := 0, locals := 130 }
set_option maxRecDepth 100000 in
set_option maxHeartbeats 4000000 in
theorem c_append_new (l : Launch) (D : va_G) (cI cJ cZ : ClassId) (o : Nat) (rm : Nat) (n : Nat) (bs : Nat) (aP : Nat) (aH : Nat) (aC : Nat) (aT : Nat) (aB : Nat) (aZ : Nat) (aW : Nat) (aR : Nat) (oR : Nat) (oW : Nat) (P : Nat → Nat) (Hh : Nat → Nat) (Ch : Nat → Nat) (Tm : Nat → Int64) (Bt : Nat → Int64) (Wk : Nat → Int64) (dv : Nat) (rs : Nat) (qt : Nat) (kn : Int64) (fd : Nat → Int64) (fr : Nat → Int64) (fq : Nat → Int64) (p9 : Nat) (t : Int64) (b : Int64) (Ld : Nat) (hn0 : 0 < n) (hn3 : n < rm) (hr3 : rm ≤ 300) (hp9 : p9 < n) (hbs : bs < n) (hHp : Hh p9 < 300) (hCp : Ch p9 < 300) (hb9 : ¬ b = kn) (hLd : m_dlen (m_set b fd) 8 0 = nI Ld) (hL2 : 2 ≤ Ld) (hL6 : Ld ≤ 256) : rw_C l yT_append wT_append rm_c_append_new D vwCl (gT cI cJ cZ) [.ref o, .int (nI p9), .long t, .long b] [(o, .inr (2, [.int (nI rm), .int (nI n), .int (nI bs), .ref aP, .ref aH, .ref aC, .ref aT, .ref aB, .ref aZ, .ref aW, .ref aR, .ref oR, .ref oW])), (aP, .inl (cI, rm, .inl (pF P))), (aH, .inl (cI, rm, .inl (nF Hh))), (aC, .inl (cI, rm, .inl (nF Ch))), (aT, .inl (cJ, rm, .inr (.inl Tm))), (aB, .inl (cJ, rm, .inr (.inl Bt))), (aW, .inl (cJ, rm * 8, .inr (.inl Wk))), (oW, .inr (1, [.ref dv, .ref rs, .ref qt, .long kn])), (dv, .inl (cJ, 8, .inr (.inl fd))), (rs, .inl (cJ, 8, .inr (.inl fr))), (qt, .inl (cJ, 8, .inr (.inl fq)))] (fun v9 w9 => v9 = some (.int (nI n)) ∧ w9 = [(o, .inr (2, [.int (nI rm), .int (nI (n + 1)), .int (nI (if m_cmp (m_sum ((m_dv (m_set b fd) fr fq (Ld - 2)).2) n p9 Wk) n bs 8 0 ≤ 0 then bs else n)), .ref aP, .ref aH, .ref aC, .ref aT, .ref aB, .ref aZ, .ref aW, .ref aR, .ref oR, .ref oW])), (aP, .inl (cI, rm, .inl (pF (updN P n p9)))), (aH, .inl (cI, rm, .inl (nF (updN Hh n (Hh p9 + 1))))), (aC, .inl (cI, rm, .inl (nF (updN Ch p9 (Ch p9 + 1))))), (aT, .inl (cJ, rm, .inr (.inl (vp_updL Tm n t)))), (aB, .inl (cJ, rm, .inr (.inl (vp_updL Bt n b)))), (aW, .inl (cJ, rm * 8, .inr (.inl (m_sum ((m_dv (m_set b fd) fr fq (Ld - 2)).2) n p9 Wk)))), (oW, .inr (1, [.ref dv, .ref rs, .ref qt, .long b])), (dv, .inl (cJ, 8, .inr (.inl (m_set b fd)))), (rs, .inl (cJ, 8, .inr (.inl ((m_dv (m_set b fd) fr fq (Ld - 2)).1)))), (qt, .inl (cJ, 8, .inr (.inl ((m_dv (m_set b fd) fr fq (Ld - 2)).2))))]) 0 0 := by
  refine rw_of (cc := cT_append) (maxL := 7) (ret := some .int) (by decide) rfl (Nat.le_of_ble_eq_true rfl) ?_
  intro p e s m args below meth c Q A ls hx hb hr hml hown hts hlocks hin hK hP hD hA hl hQ
  have hS : va_S A s.heap s.heap [] := va_S.rf
  have hl : lv_has ls 7 [(0, .ref o), (1, .int (nI p9)), (2, .long t), (4, .long b)] := hl
  have hown : s.vm.findClass RT = some m.cls := hown
  obtain ⟨H, hHe⟩ : ∃ H : Heap, H = s.heap := ⟨_, rfl⟩
  rw [← hHe] at hP
  have hS : va_S A s.heap H [] := by rw [hHe]; exact va_S.rf
  suffices h9 : W p l e rm_c_append_new s m args below meth c H [] 0 0 Q (F0 m 0 ls []) by rw [hHe] at h9; exact h9
  clear hHe
  refine lv_aload_n hx hb dT_append_0 rfl (lv_at hl 0 rfl) ?_
  refine va_get (D := D) (ci := 2) (v := .int (nI n)) (C := RT) (T := TT) (N := 13) hx hb hts iT_append_T hown hK hP 0 rfl rfl 1 (by decide) (hts (.fieldLink RT 70 "TreeDesk" "count" "I") (by decide +kernel)) (fun _ h9 => h9) rfl dT_append_1 ?_
  refine lv_istore (lv' := [(6, .int (nI n)), (0, .ref o), (1, .int (nI p9)), (2, .long t), (4, .long b)]) hx hb dT_append_4 hl (by decide) rfl (fun ls hl => ?_)
  refine lv_aload_n hx hb dT_append_6 rfl (lv_at hl 1 rfl) ?_
  refine va_get (D := D) (ci := 2) (v := .ref aP) (C := RT) (T := TT) (N := 13) hx hb hts iT_append_T hown hK hP 0 rfl rfl 3 (by decide) (hts (.fieldLink RT 13 "TreeDesk" "parents" "[I") (by decide +kernel)) (fun _ h9 => h9) rfl dT_append_7 ?_
  refine lv_iload hx hb dT_append_10 (lv_at hl 0 rfl) ?_
  refine lv_iload_n hx hb dT_append_12 rfl (lv_at hl 2 rfl) ?_
  refine ar_ist (j := n) hx hb hK hP hD hS 1 0 rfl rfl dT_append_13 (by omega) (by omega) (fun H locs hP hD hS => ?_)
  have hP : va_P D vwCl [(o, .inr (2, [.int (nI rm), .int (nI n), .int (nI bs), .ref aP, .ref aH, .ref aC, .ref aT, .ref aB, .ref aZ, .ref aW, .ref aR, .ref oR, .ref oW])), (aP, .inl (cI, rm, .inl (upd (pF P) n (nI p9)))), (aH, .inl (cI, rm, .inl (nF Hh))), (aC, .inl (cI, rm, .inl (nF Ch))), (aT, .inl (cJ, rm, .inr (.inl Tm))), (aB, .inl (cJ, rm, .inr (.inl Bt))), (aW, .inl (cJ, rm * 8, .inr (.inl Wk))), (oW, .inr (1, [.ref dv, .ref rs, .ref qt, .long kn])), (dv, .inl (cJ, 8, .inr (.inl fd))), (rs, .inl (cJ, 8, .inr (.inl fr))), (qt, .inl (cJ, 8, .inr (.inl fq)))] H := hP
  have hD : va_D A [(o, .inr (2, [.int (nI rm), .int (nI n), .int (nI bs), .ref aP, .ref aH, .ref aC, .ref aT, .ref aB, .ref aZ, .ref aW, .ref aR, .ref oR, .ref oW])), (aP, .inl (cI, rm, .inl (upd (pF P) n (nI p9)))), (aH, .inl (cI, rm, .inl (nF Hh))), (aC, .inl (cI, rm, .inl (nF Ch))), (aT, .inl (cJ, rm, .inr (.inl Tm))), (aB, .inl (cJ, rm, .inr (.inl Bt))), (aW, .inl (cJ, rm * 8, .inr (.inl Wk))), (oW, .inr (1, [.ref dv, .ref rs, .ref qt, .long kn])), (dv, .inl (cJ, 8, .inr (.inl fd))), (rs, .inl (cJ, 8, .inr (.inl fr))), (qt, .inl (cJ, 8, .inr (.inl fq)))] := hD
  have e_w13 : upd (pF P) n (nI p9) = pF (updN P n p9) := pF_u P p9 (by omega)
  rw [e_w13] at hP hD
  refine lv_aload_n hx hb dT_append_14 rfl (lv_at hl 1 rfl) ?_
  refine va_get (D := D) (ci := 2) (v := .ref aH) (C := RT) (T := TT) (N := 13) hx hb hts iT_append_T hown hK hP 0 rfl rfl 4 (by decide) (hts (.fieldLink RT 17 "TreeDesk" "heights" "[I") (by decide +kernel)) (fun _ h9 => h9) rfl dT_append_15 ?_
  refine lv_iload hx hb dT_append_18 (lv_at hl 0 rfl) ?_
  refine lv_aload_n hx hb dT_append_20 rfl (lv_at hl 1 rfl) ?_
  refine va_get (D := D) (ci := 2) (v := .ref aH) (C := RT) (T := TT) (N := 13) hx hb hts iT_append_T hown hK hP 0 rfl rfl 4 (by decide) (hts (.fieldLink RT 17 "TreeDesk" "heights" "[I") (by decide +kernel)) (fun _ h9 => h9) rfl dT_append_21 ?_
  refine lv_iload_n hx hb dT_append_24 rfl (lv_at hl 2 rfl) ?_
  refine ar_ild (j := p9) hx hb hK hP 2 0 rfl rfl dT_append_25 (by omega) (by omega) ?_
  refine tp_i (y := nI (Hh p9)) rfl ?_
  refine lv_iconst (v := nI 1) hx hb dT_append_26 (by decide) ?_
  refine lv_iadd hx hb dT_append_27 ?_
  refine tp_i (y := nI ((Hh p9) + 1)) (nI_add _ _) ?_
  refine ar_ist (j := n) hx hb hK hP hD hS 2 0 rfl rfl dT_append_28 (by omega) (by omega) (fun H locs hP hD hS => ?_)
  have hP : va_P D vwCl [(o, .inr (2, [.int (nI rm), .int (nI n), .int (nI bs), .ref aP, .ref aH, .ref aC, .ref aT, .ref aB, .ref aZ, .ref aW, .ref aR, .ref oR, .ref oW])), (aP, .inl (cI, rm, .inl (pF (updN P n p9)))), (aH, .inl (cI, rm, .inl (upd (nF Hh) n (nI ((Hh p9) + 1))))), (aC, .inl (cI, rm, .inl (nF Ch))), (aT, .inl (cJ, rm, .inr (.inl Tm))), (aB, .inl (cJ, rm, .inr (.inl Bt))), (aW, .inl (cJ, rm * 8, .inr (.inl Wk))), (oW, .inr (1, [.ref dv, .ref rs, .ref qt, .long kn])), (dv, .inl (cJ, 8, .inr (.inl fd))), (rs, .inl (cJ, 8, .inr (.inl fr))), (qt, .inl (cJ, 8, .inr (.inl fq)))] H := hP
  have hD : va_D A [(o, .inr (2, [.int (nI rm), .int (nI n), .int (nI bs), .ref aP, .ref aH, .ref aC, .ref aT, .ref aB, .ref aZ, .ref aW, .ref aR, .ref oR, .ref oW])), (aP, .inl (cI, rm, .inl (pF (updN P n p9)))), (aH, .inl (cI, rm, .inl (upd (nF Hh) n (nI ((Hh p9) + 1))))), (aC, .inl (cI, rm, .inl (nF Ch))), (aT, .inl (cJ, rm, .inr (.inl Tm))), (aB, .inl (cJ, rm, .inr (.inl Bt))), (aW, .inl (cJ, rm * 8, .inr (.inl Wk))), (oW, .inr (1, [.ref dv, .ref rs, .ref qt, .long kn])), (dv, .inl (cJ, 8, .inr (.inl fd))), (rs, .inl (cJ, 8, .inr (.inl fr))), (qt, .inl (cJ, 8, .inr (.inl fq)))] := hD
  have e_w28 : upd (nF Hh) n (nI ((Hh p9) + 1)) = nF (updN Hh n (Hh p9 + 1)) := nF_u Hh n (Hh p9 + 1)
  rw [e_w28] at hP hD
  refine lv_aload_n hx hb dT_append_29 rfl (lv_at hl 1 rfl) ?_
  refine va_get (D := D) (ci := 2) (v := .ref aT) (C := RT) (T := TT) (N := 13) hx hb hts iT_append_T hown hK hP 0 rfl rfl 6 (by decide) (hts (.fieldLink RT 23 "TreeDesk" "times" "[J") (by decide +kernel)) (fun _ h9 => h9) rfl dT_append_30 ?_
  refine lv_iload hx hb dT_append_33 (lv_at hl 0 rfl) ?_
  refine lv_lload_n hx hb dT_append_35 rfl (lv_at hl 3 rfl) ?_
  refine ar_lst (j := n) hx hb hK hP hD hS 4 1 rfl rfl dT_append_36 (by omega) (by omega) (fun H locs hP hD hS => ?_)
  have hP : va_P D vwCl [(o, .inr (2, [.int (nI rm), .int (nI n), .int (nI bs), .ref aP, .ref aH, .ref aC, .ref aT, .ref aB, .ref aZ, .ref aW, .ref aR, .ref oR, .ref oW])), (aP, .inl (cI, rm, .inl (pF (updN P n p9)))), (aH, .inl (cI, rm, .inl (nF (updN Hh n (Hh p9 + 1))))), (aC, .inl (cI, rm, .inl (nF Ch))), (aT, .inl (cJ, rm, .inr (.inl (vp_updL Tm n t)))), (aB, .inl (cJ, rm, .inr (.inl Bt))), (aW, .inl (cJ, rm * 8, .inr (.inl Wk))), (oW, .inr (1, [.ref dv, .ref rs, .ref qt, .long kn])), (dv, .inl (cJ, 8, .inr (.inl fd))), (rs, .inl (cJ, 8, .inr (.inl fr))), (qt, .inl (cJ, 8, .inr (.inl fq)))] H := hP
  have hD : va_D A [(o, .inr (2, [.int (nI rm), .int (nI n), .int (nI bs), .ref aP, .ref aH, .ref aC, .ref aT, .ref aB, .ref aZ, .ref aW, .ref aR, .ref oR, .ref oW])), (aP, .inl (cI, rm, .inl (pF (updN P n p9)))), (aH, .inl (cI, rm, .inl (nF (updN Hh n (Hh p9 + 1))))), (aC, .inl (cI, rm, .inl (nF Ch))), (aT, .inl (cJ, rm, .inr (.inl (vp_updL Tm n t)))), (aB, .inl (cJ, rm, .inr (.inl Bt))), (aW, .inl (cJ, rm * 8, .inr (.inl Wk))), (oW, .inr (1, [.ref dv, .ref rs, .ref qt, .long kn])), (dv, .inl (cJ, 8, .inr (.inl fd))), (rs, .inl (cJ, 8, .inr (.inl fr))), (qt, .inl (cJ, 8, .inr (.inl fq)))] := hD
  refine lv_aload_n hx hb dT_append_37 rfl (lv_at hl 1 rfl) ?_
  refine va_get (D := D) (ci := 2) (v := .ref aB) (C := RT) (T := TT) (N := 13) hx hb hts iT_append_T hown hK hP 0 rfl rfl 7 (by decide) (hts (.fieldLink RT 27 "TreeDesk" "bitsOf" "[J") (by decide +kernel)) (fun _ h9 => h9) rfl dT_append_38 ?_
  refine lv_iload hx hb dT_append_41 (lv_at hl 0 rfl) ?_
  refine lv_lload hx hb dT_append_43 (lv_at hl 4 rfl) ?_
  refine ar_lst (j := n) hx hb hK hP hD hS 5 1 rfl rfl dT_append_45 (by omega) (by omega) (fun H locs hP hD hS => ?_)
  have hP : va_P D vwCl [(o, .inr (2, [.int (nI rm), .int (nI n), .int (nI bs), .ref aP, .ref aH, .ref aC, .ref aT, .ref aB, .ref aZ, .ref aW, .ref aR, .ref oR, .ref oW])), (aP, .inl (cI, rm, .inl (pF (updN P n p9)))), (aH, .inl (cI, rm, .inl (nF (updN Hh n (Hh p9 + 1))))), (aC, .inl (cI, rm, .inl (nF Ch))), (aT, .inl (cJ, rm, .inr (.inl (vp_updL Tm n t)))), (aB, .inl (cJ, rm, .inr (.inl (vp_updL Bt n b)))), (aW, .inl (cJ, rm * 8, .inr (.inl Wk))), (oW, .inr (1, [.ref dv, .ref rs, .ref qt, .long kn])), (dv, .inl (cJ, 8, .inr (.inl fd))), (rs, .inl (cJ, 8, .inr (.inl fr))), (qt, .inl (cJ, 8, .inr (.inl fq)))] H := hP
  have hD : va_D A [(o, .inr (2, [.int (nI rm), .int (nI n), .int (nI bs), .ref aP, .ref aH, .ref aC, .ref aT, .ref aB, .ref aZ, .ref aW, .ref aR, .ref oR, .ref oW])), (aP, .inl (cI, rm, .inl (pF (updN P n p9)))), (aH, .inl (cI, rm, .inl (nF (updN Hh n (Hh p9 + 1))))), (aC, .inl (cI, rm, .inl (nF Ch))), (aT, .inl (cJ, rm, .inr (.inl (vp_updL Tm n t)))), (aB, .inl (cJ, rm, .inr (.inl (vp_updL Bt n b)))), (aW, .inl (cJ, rm * 8, .inr (.inl Wk))), (oW, .inr (1, [.ref dv, .ref rs, .ref qt, .long kn])), (dv, .inl (cJ, 8, .inr (.inl fd))), (rs, .inl (cJ, 8, .inr (.inl fr))), (qt, .inl (cJ, 8, .inr (.inl fq)))] := hD
  refine lv_aload_n hx hb dT_append_46 rfl (lv_at hl 1 rfl) ?_
  refine va_get (D := D) (ci := 2) (v := .ref aC) (C := RT) (T := TT) (N := 13) hx hb hts iT_append_T hown hK hP 0 rfl rfl 5 (by decide) (hts (.fieldLink RT 20 "TreeDesk" "children" "[I") (by decide +kernel)) (fun _ h9 => h9) rfl dT_append_47 ?_
  refine lv_iload_n hx hb dT_append_50 rfl (lv_at hl 2 rfl) ?_
  refine lv_dup2_11 hx hb dT_append_51 rfl rfl ?_
  refine ar_ild (j := p9) hx hb hK hP 3 0 rfl rfl dT_append_52 (by omega) (by omega) ?_
  refine tp_i (y := nI (Ch p9)) rfl ?_
  refine lv_iconst (v := nI 1) hx hb dT_append_53 (by decide) ?_
  refine lv_iadd hx hb dT_append_54 ?_
  refine tp_i (y := nI ((Ch p9) + 1)) (nI_add _ _) ?_
  refine ar_ist (j := p9) hx hb hK hP hD hS 3 0 rfl rfl dT_append_55 (by omega) (by omega) (fun H locs hP hD hS => ?_)
  have hP : va_P D vwCl [(o, .inr (2, [.int (nI rm), .int (nI n), .int (nI bs), .ref aP, .ref aH, .ref aC, .ref aT, .ref aB, .ref aZ, .ref aW, .ref aR, .ref oR, .ref oW])), (aP, .inl (cI, rm, .inl (pF (updN P n p9)))), (aH, .inl (cI, rm, .inl (nF (updN Hh n (Hh p9 + 1))))), (aC, .inl (cI, rm, .inl (upd (nF Ch) p9 (nI ((Ch p9) + 1))))), (aT, .inl (cJ, rm, .inr (.inl (vp_updL Tm n t)))), (aB, .inl (cJ, rm, .inr (.inl (vp_updL Bt n b)))), (aW, .inl (cJ, rm * 8, .inr (.inl Wk))), (oW, .inr (1, [.ref dv, .ref rs, .ref qt, .long kn])), (dv, .inl (cJ, 8, .inr (.inl fd))), (rs, .inl (cJ, 8, .inr (.inl fr))), (qt, .inl (cJ, 8, .inr (.inl fq)))] H := hP
  have hD : va_D A [(o, .inr (2, [.int (nI rm), .int (nI n), .int (nI bs), .ref aP, .ref aH, .ref aC, .ref aT, .ref aB, .ref aZ, .ref aW, .ref aR, .ref oR, .ref oW])), (aP, .inl (cI, rm, .inl (pF (updN P n p9)))), (aH, .inl (cI, rm, .inl (nF (updN Hh n (Hh p9 + 1))))), (aC, .inl (cI, rm, .inl (upd (nF Ch) p9 (nI ((Ch p9) + 1))))), (aT, .inl (cJ, rm, .inr (.inl (vp_updL Tm n t)))), (aB, .inl (cJ, rm, .inr (.inl (vp_updL Bt n b)))), (aW, .inl (cJ, rm * 8, .inr (.inl Wk))), (oW, .inr (1, [.ref dv, .ref rs, .ref qt, .long kn])), (dv, .inl (cJ, 8, .inr (.inl fd))), (rs, .inl (cJ, 8, .inr (.inl fr))), (qt, .inl (cJ, 8, .inr (.inl fq)))] := hD
  have e_w55 : upd (nF Ch) p9 (nI ((Ch p9) + 1)) = nF (updN Ch p9 (Ch p9 + 1)) := nF_u Ch p9 (Ch p9 + 1)
  rw [e_w55] at hP hD
  refine lv_aload_n hx hb dT_append_56 rfl (lv_at hl 1 rfl) ?_
  refine lv_iload hx hb dT_append_57 (lv_at hl 0 rfl) ?_
  refine lv_iload_n hx hb dT_append_59 rfl (lv_at hl 2 rfl) ?_
  refine lv_aload_n hx hb dT_append_60 rfl (lv_at hl 1 rfl) ?_
  refine va_get (D := D) (ci := 2) (v := .ref oW) (C := RT) (T := TT) (N := 13) hx hb hts iT_append_T hown hK hP 0 rfl rfl 12 (by decide) (hts (.fieldLink RT 52 "TreeDesk" "worth" "LTreeDesk$Worth;") (by decide +kernel)) (fun _ h9 => h9) rfl dT_append_61 ?_
  refine lv_lload hx hb dT_append_64 (lv_at hl 4 rfl) ?_
  refine rw_k (wc := [(oW, .inr (1, [.ref dv, .ref rs, .ref qt, .long kn])), (dv, .inl (cJ, 8, .inr (.inl fd))), (rs, .inl (cJ, 8, .inr (.inl fr))), (qt, .inl (cJ, 8, .inr (.inl fq)))]) (wr := [(o, .inr (2, [.int (nI rm), .int (nI n), .int (nI bs), .ref aP, .ref aH, .ref aC, .ref aT, .ref aB, .ref aZ, .ref aW, .ref aR, .ref oR, .ref oW])), (aP, .inl (cI, rm, .inl (pF (updN P n p9)))), (aH, .inl (cI, rm, .inl (nF (updN Hh n (Hh p9 + 1))))), (aC, .inl (cI, rm, .inl (nF (updN Ch p9 (Ch p9 + 1))))), (aT, .inl (cJ, rm, .inr (.inl (vp_updL Tm n t)))), (aB, .inl (cJ, rm, .inr (.inl (vp_updL Bt n b)))), (aW, .inl (cJ, rm * 8, .inr (.inl Wk)))]) (va_runV (As := [.long b]) (rest := [.int (nI p9), .int (nI n), .ref o]) ⟨hx, hb, hml, hown, hts⟩ (c_W_ofBits_new l D cI cJ cZ oW dv rs qt kn fd fr fq b Ld hb9 hLd hL2 hL6 H.size) (cwV 1 hts gT_append_W_ofBits_60 rfl rfl rfl (by decide +kernel) ⟨Nat.le_of_ble_eq_true rfl, Nat.le_of_ble_eq_true rfl⟩) (rw_preV (hP.sub [7, 8, 9, 10] rfl) hK (hD.sub [7, 8, 9, 10] (by decide) rfl) (va_recv hK hP (ci := 1) (q0 := 7) rfl rfl)) rfl rfl hl.1 rfl (lv_room (Nat.le_of_ble_eq_true rfl)) dT_append_66 ⟨Nat.le_of_ble_eq_true rfl, Nat.le_of_ble_eq_true rfl⟩) hP hD hS hA [7, 8, 9, 10] [0, 1, 2, 3, 4, 5, 6] rfl rfl (by decide) (by decide) (fun v9 w9 H locs hp9 hP hD hS => ?_)
  obtain ⟨rfl, rfl⟩ := hp9
  have hP : va_P D vwCl [(o, .inr (2, [.int (nI rm), .int (nI n), .int (nI bs), .ref aP, .ref aH, .ref aC, .ref aT, .ref aB, .ref aZ, .ref aW, .ref aR, .ref oR, .ref oW])), (aP, .inl (cI, rm, .inl (pF (updN P n p9)))), (aH, .inl (cI, rm, .inl (nF (updN Hh n (Hh p9 + 1))))), (aC, .inl (cI, rm, .inl (nF (updN Ch p9 (Ch p9 + 1))))), (aT, .inl (cJ, rm, .inr (.inl (vp_updL Tm n t)))), (aB, .inl (cJ, rm, .inr (.inl (vp_updL Bt n b)))), (aW, .inl (cJ, rm * 8, .inr (.inl Wk))), (oW, .inr (1, [.ref dv, .ref rs, .ref qt, .long b])), (dv, .inl (cJ, 8, .inr (.inl (m_set b fd)))), (rs, .inl (cJ, 8, .inr (.inl ((m_dv (m_set b fd) fr fq (Ld - 2)).1)))), (qt, .inl (cJ, 8, .inr (.inl ((m_dv (m_set b fd) fr fq (Ld - 2)).2))))] H := hP
  have hD : va_D A [(o, .inr (2, [.int (nI rm), .int (nI n), .int (nI bs), .ref aP, .ref aH, .ref aC, .ref aT, .ref aB, .ref aZ, .ref aW, .ref aR, .ref oR, .ref oW])), (aP, .inl (cI, rm, .inl (pF (updN P n p9)))), (aH, .inl (cI, rm, .inl (nF (updN Hh n (Hh p9 + 1))))), (aC, .inl (cI, rm, .inl (nF (updN Ch p9 (Ch p9 + 1))))), (aT, .inl (cJ, rm, .inr (.inl (vp_updL Tm n t)))), (aB, .inl (cJ, rm, .inr (.inl (vp_updL Bt n b)))), (aW, .inl (cJ, rm * 8, .inr (.inl Wk))), (oW, .inr (1, [.ref dv, .ref rs, .ref qt, .long b])), (dv, .inl (cJ, 8, .inr (.inl (m_set b fd)))), (rs, .inl (cJ, 8, .inr (.inl ((m_dv (m_set b fd) fr fq (Ld - 2)).1)))), (qt, .inl (cJ, 8, .inr (.inl ((m_dv (m_set b fd) fr fq (Ld - 2)).2))))] := hD
  refine W.eq (g2 := F0 m 69 ls [.ref qt, .int (nI p9), .int (nI n), .ref o]) rfl ?_
  refine rw_k (wc := [(o, .inr (2, [.int (nI rm), .int (nI n), .int (nI bs), .ref aP, .ref aH, .ref aC, .ref aT, .ref aB, .ref aZ, .ref aW, .ref aR, .ref oR, .ref oW])), (aW, .inl (cJ, rm * 8, .inr (.inl Wk))), (qt, .inl (cJ, 8, .inr (.inl ((m_dv (m_set b fd) fr fq (Ld - 2)).2))))]) (wr := [(aP, .inl (cI, rm, .inl (pF (updN P n p9)))), (aH, .inl (cI, rm, .inl (nF (updN Hh n (Hh p9 + 1))))), (aC, .inl (cI, rm, .inl (nF (updN Ch p9 (Ch p9 + 1))))), (aT, .inl (cJ, rm, .inr (.inl (vp_updL Tm n t)))), (aB, .inl (cJ, rm, .inr (.inl (vp_updL Bt n b)))), (oW, .inr (1, [.ref dv, .ref rs, .ref qt, .long b])), (dv, .inl (cJ, 8, .inr (.inl (m_set b fd)))), (rs, .inl (cJ, 8, .inr (.inl ((m_dv (m_set b fd) fr fq (Ld - 2)).1))))]) (va_runV (As := [.int (nI n), .int (nI p9), .ref qt]) (rest := []) ⟨hx, hb, hml, hown, hts⟩ (c_sumWork l D cI cJ cZ o rm n bs aP aH aC aT aB aZ aW aR oR oW Wk qt ((m_dv (m_set b fd) fr fq (Ld - 2)).2) n p9 (by omega) (by omega) (by omega) H.size) (cwV 3 hts gT_append_T_sumWork_136 rfl rfl rfl (by decide +kernel) ⟨Nat.le_of_ble_eq_true rfl, Nat.le_of_ble_eq_true rfl⟩) (rw_preV (hP.sub [0, 6, 10] rfl) hK (hD.sub [0, 6, 10] (by decide) rfl) (va_recv hK hP (ci := 2) (q0 := 0) rfl rfl)) rfl rfl hl.1 rfl (lv_room (Nat.le_of_ble_eq_true rfl)) dT_append_69 ⟨Nat.le_of_ble_eq_true rfl, Nat.le_of_ble_eq_true rfl⟩) hP hD hS hA [0, 6, 10] [1, 2, 3, 4, 5, 7, 8, 9] rfl rfl (by decide) (by decide) (fun v9 w9 H locs hp9 hP hD hS => ?_)
  obtain ⟨rfl, rfl⟩ := hp9
  have hP : va_P D vwCl [(aP, .inl (cI, rm, .inl (pF (updN P n p9)))), (aH, .inl (cI, rm, .inl (nF (updN Hh n (Hh p9 + 1))))), (aC, .inl (cI, rm, .inl (nF (updN Ch p9 (Ch p9 + 1))))), (aT, .inl (cJ, rm, .inr (.inl (vp_updL Tm n t)))), (aB, .inl (cJ, rm, .inr (.inl (vp_updL Bt n b)))), (oW, .inr (1, [.ref dv, .ref rs, .ref qt, .long b])), (dv, .inl (cJ, 8, .inr (.inl (m_set b fd)))), (rs, .inl (cJ, 8, .inr (.inl ((m_dv (m_set b fd) fr fq (Ld - 2)).1)))), (o, .inr (2, [.int (nI rm), .int (nI n), .int (nI bs), .ref aP, .ref aH, .ref aC, .ref aT, .ref aB, .ref aZ, .ref aW, .ref aR, .ref oR, .ref oW])), (aW, .inl (cJ, rm * 8, .inr (.inl (m_sum ((m_dv (m_set b fd) fr fq (Ld - 2)).2) n p9 Wk)))), (qt, .inl (cJ, 8, .inr (.inl ((m_dv (m_set b fd) fr fq (Ld - 2)).2))))] H := hP
  have hD : va_D A [(aP, .inl (cI, rm, .inl (pF (updN P n p9)))), (aH, .inl (cI, rm, .inl (nF (updN Hh n (Hh p9 + 1))))), (aC, .inl (cI, rm, .inl (nF (updN Ch p9 (Ch p9 + 1))))), (aT, .inl (cJ, rm, .inr (.inl (vp_updL Tm n t)))), (aB, .inl (cJ, rm, .inr (.inl (vp_updL Bt n b)))), (oW, .inr (1, [.ref dv, .ref rs, .ref qt, .long b])), (dv, .inl (cJ, 8, .inr (.inl (m_set b fd)))), (rs, .inl (cJ, 8, .inr (.inl ((m_dv (m_set b fd) fr fq (Ld - 2)).1)))), (o, .inr (2, [.int (nI rm), .int (nI n), .int (nI bs), .ref aP, .ref aH, .ref aC, .ref aT, .ref aB, .ref aZ, .ref aW, .ref aR, .ref oR, .ref oW])), (aW, .inl (cJ, rm * 8, .inr (.inl (m_sum ((m_dv (m_set b fd) fr fq (Ld - 2)).2) n p9 Wk)))), (qt, .inl (cJ, 8, .inr (.inl ((m_dv (m_set b fd) fr fq (Ld - 2)).2))))] := hD
  refine W.eq (g2 := F0 m 72 ls []) rfl ?_
  refine lv_aload_n hx hb dT_append_72 rfl (lv_at hl 1 rfl) ?_
  refine lv_dup hx hb dT_append_73 rfl ?_
  refine va_get (D := D) (ci := 2) (v := .int (nI n)) (C := RT) (T := TT) (N := 13) hx hb hts iT_append_T hown hK hP 8 rfl rfl 1 (by decide) (hts (.fieldLink RT 70 "TreeDesk" "count" "I") (by decide +kernel)) (fun _ h9 => h9) rfl dT_append_74 ?_
  refine lv_iconst (v := nI 1) hx hb dT_append_77 (by decide) ?_
  refine lv_iadd hx hb dT_append_78 ?_
  refine tp_i (y := nI (n + 1)) (nI_add _ _) ?_
  refine va_put (D := D) (ci := 2) (v := .int (nI (n + 1))) (ty := .int) (C := RT) (T := TT) (N := 13) hx hb hts iT_append_T tyT tyT_ok nmT hown hK hP hD hS 8 rfl rfl 1 (by decide) (hts (.fieldLink RT 70 "TreeDesk" "count" "I") (by decide +kernel)) (fun _ h9 => h9) rfl (by decide +kernel) rfl rfl (Nat.le_of_ble_eq_true rfl) dT_append_79 (fun H locs hP hD hS => ?_)
  have hP : va_P D vwCl [(aP, .inl (cI, rm, .inl (pF (updN P n p9)))), (aH, .inl (cI, rm, .inl (nF (updN Hh n (Hh p9 + 1))))), (aC, .inl (cI, rm, .inl (nF (updN Ch p9 (Ch p9 + 1))))), (aT, .inl (cJ, rm, .inr (.inl (vp_updL Tm n t)))), (aB, .inl (cJ, rm, .inr (.inl (vp_updL Bt n b)))), (oW, .inr (1, [.ref dv, .ref rs, .ref qt, .long b])), (dv, .inl (cJ, 8, .inr (.inl (m_set b fd)))), (rs, .inl (cJ, 8, .inr (.inl ((m_dv (m_set b fd) fr fq (Ld - 2)).1)))), (o, .inr (2, [.int (nI rm), .int (nI (n + 1)), .int (nI bs), .ref aP, .ref aH, .ref aC, .ref aT, .ref aB, .ref aZ, .ref aW, .ref aR, .ref oR, .ref oW])), (aW, .inl (cJ, rm * 8, .inr (.inl (m_sum ((m_dv (m_set b fd) fr fq (Ld - 2)).2) n p9 Wk)))), (qt, .inl (cJ, 8, .inr (.inl ((m_dv (m_set b fd) fr fq (Ld - 2)).2))))] H := hP
  have hD : va_D A [(aP, .inl (cI, rm, .inl (pF (updN P n p9)))), (aH, .inl (cI, rm, .inl (nF (updN Hh n (Hh p9 + 1))))), (aC, .inl (cI, rm, .inl (nF (updN Ch p9 (Ch p9 + 1))))), (aT, .inl (cJ, rm, .inr (.inl (vp_updL Tm n t)))), (aB, .inl (cJ, rm, .inr (.inl (vp_updL Bt n b)))), (oW, .inr (1, [.ref dv, .ref rs, .ref qt, .long b])), (dv, .inl (cJ, 8, .inr (.inl (m_set b fd)))), (rs, .inl (cJ, 8, .inr (.inl ((m_dv (m_set b fd) fr fq (Ld - 2)).1)))), (o, .inr (2, [.int (nI rm), .int (nI (n + 1)), .int (nI bs), .ref aP, .ref aH, .ref aC, .ref aT, .ref aB, .ref aZ, .ref aW, .ref aR, .ref oR, .ref oW])), (aW, .inl (cJ, rm * 8, .inr (.inl (m_sum ((m_dv (m_set b fd) fr fq (Ld - 2)).2) n p9 Wk)))), (qt, .inl (cJ, 8, .inr (.inl ((m_dv (m_set b fd) fr fq (Ld - 2)).2))))] := hD
  refine lv_aload_n hx hb dT_append_82 rfl (lv_at hl 1 rfl) ?_
  refine lv_iload hx hb dT_append_83 (lv_at hl 0 rfl) ?_
  refine lv_aload_n hx hb dT_append_85 rfl (lv_at hl 1 rfl) ?_
  refine va_get (D := D) (ci := 2) (v := .int (nI bs)) (C := RT) (T := TT) (N := 13) hx hb hts iT_append_T hown hK hP 8 rfl rfl 2 (by decide) (hts (.fieldLink RT 73 "TreeDesk" "best" "I") (by decide +kernel)) (fun _ h9 => h9) rfl dT_append_86 ?_
  refine ro_ki (va_runV (As := [.int (nI n), .int (nI bs)]) (rest := []) ⟨hx, hb, hml, hown, hts⟩ (c_compareWorks l D cI cJ cZ o rm (n + 1) bs aP aH aC aT aB aZ aW aR oR oW (m_sum ((m_dv (m_set b fd) fr fq (Ld - 2)).2) n p9 Wk) n bs (by omega) (by omega) (by omega)) (cwV 2 hts gT_append_T_compareWorks_116 rfl rfl rfl (by decide +kernel) ⟨Nat.le_of_ble_eq_true rfl, Nat.le_of_ble_eq_true rfl⟩) (ro_preV (hP.sub [8, 9] rfl) hK (va_recv hK hP (ci := 2) (q0 := 8) rfl rfl)) rfl rfl hl.1 rfl (lv_room (Nat.le_of_ble_eq_true rfl)) dT_append_89 ⟨Nat.le_of_ble_eq_true rfl, Nat.le_of_ble_eq_true rfl⟩) ?_
  refine lv_if_le (tgt := 101) hx hb dT_append_92 (by decide) (fun c_92 => ?_) (fun c_92 => ?_)
  · skip
    refine lv_iload hx hb dT_append_101 (lv_at hl 0 rfl) ?_
    exact rw_iret (w := [(o, .inr (2, [.int (nI rm), .int (nI (n + 1)), .int (nI bs), .ref aP, .ref aH, .ref aC, .ref aT, .ref aB, .ref aZ, .ref aW, .ref aR, .ref oR, .ref oW])), (aP, .inl (cI, rm, .inl (pF (updN P n p9)))), (aH, .inl (cI, rm, .inl (nF (updN Hh n (Hh p9 + 1))))), (aC, .inl (cI, rm, .inl (nF (updN Ch p9 (Ch p9 + 1))))), (aT, .inl (cJ, rm, .inr (.inl (vp_updL Tm n t)))), (aB, .inl (cJ, rm, .inr (.inl (vp_updL Bt n b)))), (aW, .inl (cJ, rm * 8, .inr (.inl (m_sum ((m_dv (m_set b fd) fr fq (Ld - 2)).2) n p9 Wk)))), (oW, .inr (1, [.ref dv, .ref rs, .ref qt, .long b])), (dv, .inl (cJ, 8, .inr (.inl (m_set b fd)))), (rs, .inl (cJ, 8, .inr (.inl ((m_dv (m_set b fd) fr fq (Ld - 2)).1)))), (qt, .inl (cJ, 8, .inr (.inl ((m_dv (m_set b fd) fr fq (Ld - 2)).2))))]) hQ hx hb hr hlocks dT_append_103 (hP.sub [8, 0, 1, 2, 3, 4, 9, 5, 6, 7, 10] rfl) (hD.sub [8, 0, 1, 2, 3, 4, 9, 5, 6, 7, 10] (by decide) rfl) hS ⟨rfl, by rw [if_pos c_92]⟩
  · skip
    refine lv_aload_n hx hb dT_append_95 rfl (lv_at hl 1 rfl) ?_
    refine lv_iload hx hb dT_append_96 (lv_at hl 0 rfl) ?_
    refine va_put (D := D) (ci := 2) (v := .int (nI n)) (ty := .int) (C := RT) (T := TT) (N := 13) hx hb hts iT_append_T tyT tyT_ok nmT hown hK hP hD hS 8 rfl rfl 2 (by decide) (hts (.fieldLink RT 73 "TreeDesk" "best" "I") (by decide +kernel)) (fun _ h9 => h9) rfl (by decide +kernel) rfl rfl (Nat.le_of_ble_eq_true rfl) dT_append_98 (fun H locs hP hD hS => ?_)
    have hP : va_P D vwCl [(aP, .inl (cI, rm, .inl (pF (updN P n p9)))), (aH, .inl (cI, rm, .inl (nF (updN Hh n (Hh p9 + 1))))), (aC, .inl (cI, rm, .inl (nF (updN Ch p9 (Ch p9 + 1))))), (aT, .inl (cJ, rm, .inr (.inl (vp_updL Tm n t)))), (aB, .inl (cJ, rm, .inr (.inl (vp_updL Bt n b)))), (oW, .inr (1, [.ref dv, .ref rs, .ref qt, .long b])), (dv, .inl (cJ, 8, .inr (.inl (m_set b fd)))), (rs, .inl (cJ, 8, .inr (.inl ((m_dv (m_set b fd) fr fq (Ld - 2)).1)))), (o, .inr (2, [.int (nI rm), .int (nI (n + 1)), .int (nI n), .ref aP, .ref aH, .ref aC, .ref aT, .ref aB, .ref aZ, .ref aW, .ref aR, .ref oR, .ref oW])), (aW, .inl (cJ, rm * 8, .inr (.inl (m_sum ((m_dv (m_set b fd) fr fq (Ld - 2)).2) n p9 Wk)))), (qt, .inl (cJ, 8, .inr (.inl ((m_dv (m_set b fd) fr fq (Ld - 2)).2))))] H := hP
    have hD : va_D A [(aP, .inl (cI, rm, .inl (pF (updN P n p9)))), (aH, .inl (cI, rm, .inl (nF (updN Hh n (Hh p9 + 1))))), (aC, .inl (cI, rm, .inl (nF (updN Ch p9 (Ch p9 + 1))))), (aT, .inl (cJ, rm, .inr (.inl (vp_updL Tm n t)))), (aB, .inl (cJ, rm, .inr (.inl (vp_updL Bt n b)))), (oW, .inr (1, [.ref dv, .ref rs, .ref qt, .long b])), (dv, .inl (cJ, 8, .inr (.inl (m_set b fd)))), (rs, .inl (cJ, 8, .inr (.inl ((m_dv (m_set b fd) fr fq (Ld - 2)).1)))), (o, .inr (2, [.int (nI rm), .int (nI (n + 1)), .int (nI n), .ref aP, .ref aH, .ref aC, .ref aT, .ref aB, .ref aZ, .ref aW, .ref aR, .ref oR, .ref oW])), (aW, .inl (cJ, rm * 8, .inr (.inl (m_sum ((m_dv (m_set b fd) fr fq (Ld - 2)).2) n p9 Wk)))), (qt, .inl (cJ, 8, .inr (.inl ((m_dv (m_set b fd) fr fq (Ld - 2)).2))))] := hD
    refine lv_iload hx hb dT_append_101 (lv_at hl 0 rfl) ?_
    exact rw_iret (w := [(o, .inr (2, [.int (nI rm), .int (nI (n + 1)), .int (nI n), .ref aP, .ref aH, .ref aC, .ref aT, .ref aB, .ref aZ, .ref aW, .ref aR, .ref oR, .ref oW])), (aP, .inl (cI, rm, .inl (pF (updN P n p9)))), (aH, .inl (cI, rm, .inl (nF (updN Hh n (Hh p9 + 1))))), (aC, .inl (cI, rm, .inl (nF (updN Ch p9 (Ch p9 + 1))))), (aT, .inl (cJ, rm, .inr (.inl (vp_updL Tm n t)))), (aB, .inl (cJ, rm, .inr (.inl (vp_updL Bt n b)))), (aW, .inl (cJ, rm * 8, .inr (.inl (m_sum ((m_dv (m_set b fd) fr fq (Ld - 2)).2) n p9 Wk)))), (oW, .inr (1, [.ref dv, .ref rs, .ref qt, .long b])), (dv, .inl (cJ, 8, .inr (.inl (m_set b fd)))), (rs, .inl (cJ, 8, .inr (.inl ((m_dv (m_set b fd) fr fq (Ld - 2)).1)))), (qt, .inl (cJ, 8, .inr (.inl ((m_dv (m_set b fd) fr fq (Ld - 2)).2))))]) hQ hx hb hr hlocks dT_append_103 (hP.sub [8, 0, 1, 2, 3, 4, 9, 5, 6, 7, 10] rfl) (hD.sub [8, 0, 1, 2, 3, 4, 9, 5, 6, 7, 10] (by decide) rfl) hS ⟨rfl, by rw [if_neg c_92]⟩

abbrev rm_c_append_old : Room := { frames := 1, cells := 0, slots := 0, locals := 28 }
set_option maxRecDepth 100000 in
set_option maxHeartbeats 4000000 in
theorem c_append_old (l : Launch) (D : va_G) (cI cJ cZ : ClassId) (o : Nat) (rm : Nat) (n : Nat) (bs : Nat) (aP : Nat) (aH : Nat) (aC : Nat) (aT : Nat) (aB : Nat) (aZ : Nat) (aW : Nat) (aR : Nat) (oR : Nat) (oW : Nat) (P : Nat → Nat) (Hh : Nat → Nat) (Ch : Nat → Nat) (Tm : Nat → Int64) (Bt : Nat → Int64) (Wk : Nat → Int64) (dv : Nat) (rs : Nat) (qt : Nat) (kn : Int64) (fd : Nat → Int64) (fr : Nat → Int64) (fq : Nat → Int64) (p9 : Nat) (t : Int64) (hn0 : 0 < n) (hn3 : n < rm) (hr3 : rm ≤ 300) (hp9 : p9 < n) (hbs : bs < n) (hHp : Hh p9 < 300) (hCp : Ch p9 < 300) : rw_C l yT_append wT_append rm_c_append_old D vwCl (gT cI cJ cZ) [.ref o, .int (nI p9), .long t, .long kn] [(o, .inr (2, [.int (nI rm), .int (nI n), .int (nI bs), .ref aP, .ref aH, .ref aC, .ref aT, .ref aB, .ref aZ, .ref aW, .ref aR, .ref oR, .ref oW])), (aP, .inl (cI, rm, .inl (pF P))), (aH, .inl (cI, rm, .inl (nF Hh))), (aC, .inl (cI, rm, .inl (nF Ch))), (aT, .inl (cJ, rm, .inr (.inl Tm))), (aB, .inl (cJ, rm, .inr (.inl Bt))), (aW, .inl (cJ, rm * 8, .inr (.inl Wk))), (oW, .inr (1, [.ref dv, .ref rs, .ref qt, .long kn])), (dv, .inl (cJ, 8, .inr (.inl fd))), (rs, .inl (cJ, 8, .inr (.inl fr))), (qt, .inl (cJ, 8, .inr (.inl fq)))] (fun v9 w9 => v9 = some (.int (nI n)) ∧ w9 = [(o, .inr (2, [.int (nI rm), .int (nI (n + 1)), .int (nI (if m_cmp (m_sum fq n p9 Wk) n bs 8 0 ≤ 0 then bs else n)), .ref aP, .ref aH, .ref aC, .ref aT, .ref aB, .ref aZ, .ref aW, .ref aR, .ref oR, .ref oW])), (aP, .inl (cI, rm, .inl (pF (updN P n p9)))), (aH, .inl (cI, rm, .inl (nF (updN Hh n (Hh p9 + 1))))), (aC, .inl (cI, rm, .inl (nF (updN Ch p9 (Ch p9 + 1))))), (aT, .inl (cJ, rm, .inr (.inl (vp_updL Tm n t)))), (aB, .inl (cJ, rm, .inr (.inl (vp_updL Bt n kn)))), (aW, .inl (cJ, rm * 8, .inr (.inl (m_sum fq n p9 Wk)))), (oW, .inr (1, [.ref dv, .ref rs, .ref qt, .long kn])), (dv, .inl (cJ, 8, .inr (.inl fd))), (rs, .inl (cJ, 8, .inr (.inl fr))), (qt, .inl (cJ, 8, .inr (.inl fq)))]) 0 0 := by
  refine rw_of (cc := cT_append) (maxL := 7) (ret := some .int) (by decide) rfl (Nat.le_of_ble_eq_true rfl) ?_
  intro p e s m args below meth c Q A ls hx hb hr hml hown hts hlocks hin hK hP hD hA hl hQ
  have hS : va_S A s.heap s.heap [] := va_S.rf
  have hl : lv_has ls 7 [(0, .ref o), (1, .int (nI p9)), (2, .long t), (4, .long kn)] := hl
  have hown : s.vm.findClass RT = some m.cls := hown
  obtain ⟨H, hHe⟩ : ∃ H : Heap, H = s.heap := ⟨_, rfl⟩
  rw [← hHe] at hP
  have hS : va_S A s.heap H [] := by rw [hHe]; exact va_S.rf
  suffices h9 : W p l e rm_c_append_old s m args below meth c H [] 0 0 Q (F0 m 0 ls []) by rw [hHe] at h9; exact h9
  clear hHe
  refine lv_aload_n hx hb dT_append_0 rfl (lv_at hl 0 rfl) ?_
  refine va_get (D := D) (ci := 2) (v := .int (nI n)) (C := RT) (T := TT) (N := 13) hx hb hts iT_append_T hown hK hP 0 rfl rfl 1 (by decide) (hts (.fieldLink RT 70 "TreeDesk" "count" "I") (by decide +kernel)) (fun _ h9 => h9) rfl dT_append_1 ?_
  refine lv_istore (lv' := [(6, .int (nI n)), (0, .ref o), (1, .int (nI p9)), (2, .long t), (4, .long kn)]) hx hb dT_append_4 hl (by decide) rfl (fun ls hl => ?_)
  refine lv_aload_n hx hb dT_append_6 rfl (lv_at hl 1 rfl) ?_
  refine va_get (D := D) (ci := 2) (v := .ref aP) (C := RT) (T := TT) (N := 13) hx hb hts iT_append_T hown hK hP 0 rfl rfl 3 (by decide) (hts (.fieldLink RT 13 "TreeDesk" "parents" "[I") (by decide +kernel)) (fun _ h9 => h9) rfl dT_append_7 ?_
  refine lv_iload hx hb dT_append_10 (lv_at hl 0 rfl) ?_
  refine lv_iload_n hx hb dT_append_12 rfl (lv_at hl 2 rfl) ?_
  refine ar_ist (j := n) hx hb hK hP hD hS 1 0 rfl rfl dT_append_13 (by omega) (by omega) (fun H locs hP hD hS => ?_)
  have hP : va_P D vwCl [(o, .inr (2, [.int (nI rm), .int (nI n), .int (nI bs), .ref aP, .ref aH, .ref aC, .ref aT, .ref aB, .ref aZ, .ref aW, .ref aR, .ref oR, .ref oW])), (aP, .inl (cI, rm, .inl (upd (pF P) n (nI p9)))), (aH, .inl (cI, rm, .inl (nF Hh))), (aC, .inl (cI, rm, .inl (nF Ch))), (aT, .inl (cJ, rm, .inr (.inl Tm))), (aB, .inl (cJ, rm, .inr (.inl Bt))), (aW, .inl (cJ, rm * 8, .inr (.inl Wk))), (oW, .inr (1, [.ref dv, .ref rs, .ref qt, .long kn])), (dv, .inl (cJ, 8, .inr (.inl fd))), (rs, .inl (cJ, 8, .inr (.inl fr))), (qt, .inl (cJ, 8, .inr (.inl fq)))] H := hP
  have hD : va_D A [(o, .inr (2, [.int (nI rm), .int (nI n), .int (nI bs), .ref aP, .ref aH, .ref aC, .ref aT, .ref aB, .ref aZ, .ref aW, .ref aR, .ref oR, .ref oW])), (aP, .inl (cI, rm, .inl (upd (pF P) n (nI p9)))), (aH, .inl (cI, rm, .inl (nF Hh))), (aC, .inl (cI, rm, .inl (nF Ch))), (aT, .inl (cJ, rm, .inr (.inl Tm))), (aB, .inl (cJ, rm, .inr (.inl Bt))), (aW, .inl (cJ, rm * 8, .inr (.inl Wk))), (oW, .inr (1, [.ref dv, .ref rs, .ref qt, .long kn])), (dv, .inl (cJ, 8, .inr (.inl fd))), (rs, .inl (cJ, 8, .inr (.inl fr))), (qt, .inl (cJ, 8, .inr (.inl fq)))] := hD
  have e_w13 : upd (pF P) n (nI p9) = pF (updN P n p9) := pF_u P p9 (by omega)
  rw [e_w13] at hP hD
  refine lv_aload_n hx hb dT_append_14 rfl (lv_at hl 1 rfl) ?_
  refine va_get (D := D) (ci := 2) (v := .ref aH) (C := RT) (T := TT) (N := 13) hx hb hts iT_append_T hown hK hP 0 rfl rfl 4 (by decide) (hts (.fieldLink RT 17 "TreeDesk" "heights" "[I") (by decide +kernel)) (fun _ h9 => h9) rfl dT_append_15 ?_
  refine lv_iload hx hb dT_append_18 (lv_at hl 0 rfl) ?_
  refine lv_aload_n hx hb dT_append_20 rfl (lv_at hl 1 rfl) ?_
  refine va_get (D := D) (ci := 2) (v := .ref aH) (C := RT) (T := TT) (N := 13) hx hb hts iT_append_T hown hK hP 0 rfl rfl 4 (by decide) (hts (.fieldLink RT 17 "TreeDesk" "heights" "[I") (by decide +kernel)) (fun _ h9 => h9) rfl dT_append_21 ?_
  refine lv_iload_n hx hb dT_append_24 rfl (lv_at hl 2 rfl) ?_
  refine ar_ild (j := p9) hx hb hK hP 2 0 rfl rfl dT_append_25 (by omega) (by omega) ?_
  refine tp_i (y := nI (Hh p9)) rfl ?_
  refine lv_iconst (v := nI 1) hx hb dT_append_26 (by decide) ?_
  refine lv_iadd hx hb dT_append_27 ?_
  refine tp_i (y := nI ((Hh p9) + 1)) (nI_add _ _) ?_
  refine ar_ist (j := n) hx hb hK hP hD hS 2 0 rfl rfl dT_append_28 (by omega) (by omega) (fun H locs hP hD hS => ?_)
  have hP : va_P D vwCl [(o, .inr (2, [.int (nI rm), .int (nI n), .int (nI bs), .ref aP, .ref aH, .ref aC, .ref aT, .ref aB, .ref aZ, .ref aW, .ref aR, .ref oR, .ref oW])), (aP, .inl (cI, rm, .inl (pF (updN P n p9)))), (aH, .inl (cI, rm, .inl (upd (nF Hh) n (nI ((Hh p9) + 1))))), (aC, .inl (cI, rm, .inl (nF Ch))), (aT, .inl (cJ, rm, .inr (.inl Tm))), (aB, .inl (cJ, rm, .inr (.inl Bt))), (aW, .inl (cJ, rm * 8, .inr (.inl Wk))), (oW, .inr (1, [.ref dv, .ref rs, .ref qt, .long kn])), (dv, .inl (cJ, 8, .inr (.inl fd))), (rs, .inl (cJ, 8, .inr (.inl fr))), (qt, .inl (cJ, 8, .inr (.inl fq)))] H := hP
  have hD : va_D A [(o, .inr (2, [.int (nI rm), .int (nI n), .int (nI bs), .ref aP, .ref aH, .ref aC, .ref aT, .ref aB, .ref aZ, .ref aW, .ref aR, .ref oR, .ref oW])), (aP, .inl (cI, rm, .inl (pF (updN P n p9)))), (aH, .inl (cI, rm, .inl (upd (nF Hh) n (nI ((Hh p9) + 1))))), (aC, .inl (cI, rm, .inl (nF Ch))), (aT, .inl (cJ, rm, .inr (.inl Tm))), (aB, .inl (cJ, rm, .inr (.inl Bt))), (aW, .inl (cJ, rm * 8, .inr (.inl Wk))), (oW, .inr (1, [.ref dv, .ref rs, .ref qt, .long kn])), (dv, .inl (cJ, 8, .inr (.inl fd))), (rs, .inl (cJ, 8, .inr (.inl fr))), (qt, .inl (cJ, 8, .inr (.inl fq)))] := hD
  have e_w28 : upd (nF Hh) n (nI ((Hh p9) + 1)) = nF (updN Hh n (Hh p9 + 1)) := nF_u Hh n (Hh p9 + 1)
  rw [e_w28] at hP hD
  refine lv_aload_n hx hb dT_append_29 rfl (lv_at hl 1 rfl) ?_
  refine va_get (D := D) (ci := 2) (v := .ref aT) (C := RT) (T := TT) (N := 13) hx hb hts iT_append_T hown hK hP 0 rfl rfl 6 (by decide) (hts (.fieldLink RT 23 "TreeDesk" "times" "[J") (by decide +kernel)) (fun _ h9 => h9) rfl dT_append_30 ?_
  refine lv_iload hx hb dT_append_33 (lv_at hl 0 rfl) ?_
  refine lv_lload_n hx hb dT_append_35 rfl (lv_at hl 3 rfl) ?_
  refine ar_lst (j := n) hx hb hK hP hD hS 4 1 rfl rfl dT_append_36 (by omega) (by omega) (fun H locs hP hD hS => ?_)
  have hP : va_P D vwCl [(o, .inr (2, [.int (nI rm), .int (nI n), .int (nI bs), .ref aP, .ref aH, .ref aC, .ref aT, .ref aB, .ref aZ, .ref aW, .ref aR, .ref oR, .ref oW])), (aP, .inl (cI, rm, .inl (pF (updN P n p9)))), (aH, .inl (cI, rm, .inl (nF (updN Hh n (Hh p9 + 1))))), (aC, .inl (cI, rm, .inl (nF Ch))), (aT, .inl (cJ, rm, .inr (.inl (vp_updL Tm n t)))), (aB, .inl (cJ, rm, .inr (.inl Bt))), (aW, .inl (cJ, rm * 8, .inr (.inl Wk))), (oW, .inr (1, [.ref dv, .ref rs, .ref qt, .long kn])), (dv, .inl (cJ, 8, .inr (.inl fd))), (rs, .inl (cJ, 8, .inr (.inl fr))), (qt, .inl (cJ, 8, .inr (.inl fq)))] H := hP
  have hD : va_D A [(o, .inr (2, [.int (nI rm), .int (nI n), .int (nI bs), .ref aP, .ref aH, .ref aC, .ref aT, .ref aB, .ref aZ, .ref aW, .ref aR, .ref oR, .ref oW])), (aP, .inl (cI, rm, .inl (pF (updN P n p9)))), (aH, .inl (cI, rm, .inl (nF (updN Hh n (Hh p9 + 1))))), (aC, .inl (cI, rm, .inl (nF Ch))), (aT, .inl (cJ, rm, .inr (.inl (vp_updL Tm n t)))), (aB, .inl (cJ, rm, .inr (.inl Bt))), (aW, .inl (cJ, rm * 8, .inr (.inl Wk))), (oW, .inr (1, [.ref dv, .ref rs, .ref qt, .long kn])), (dv, .inl (cJ, 8, .inr (.inl fd))), (rs, .inl (cJ, 8, .inr (.inl fr))), (qt, .inl (cJ, 8, .inr (.inl fq)))] := hD
  refine lv_aload_n hx hb dT_append_37 rfl (lv_at hl 1 rfl) ?_
  refine va_get (D := D) (ci := 2) (v := .ref aB) (C := RT) (T := TT) (N := 13) hx hb hts iT_append_T hown hK hP 0 rfl rfl 7 (by decide) (hts (.fieldLink RT 27 "TreeDesk" "bitsOf" "[J") (by decide +kernel)) (fun _ h9 => h9) rfl dT_append_38 ?_
  refine lv_iload hx hb dT_append_41 (lv_at hl 0 rfl) ?_
  refine lv_lload hx hb dT_append_43 (lv_at hl 4 rfl) ?_
  refine ar_lst (j := n) hx hb hK hP hD hS 5 1 rfl rfl dT_append_45 (by omega) (by omega) (fun H locs hP hD hS => ?_)
  have hP : va_P D vwCl [(o, .inr (2, [.int (nI rm), .int (nI n), .int (nI bs), .ref aP, .ref aH, .ref aC, .ref aT, .ref aB, .ref aZ, .ref aW, .ref aR, .ref oR, .ref oW])), (aP, .inl (cI, rm, .inl (pF (updN P n p9)))), (aH, .inl (cI, rm, .inl (nF (updN Hh n (Hh p9 + 1))))), (aC, .inl (cI, rm, .inl (nF Ch))), (aT, .inl (cJ, rm, .inr (.inl (vp_updL Tm n t)))), (aB, .inl (cJ, rm, .inr (.inl (vp_updL Bt n kn)))), (aW, .inl (cJ, rm * 8, .inr (.inl Wk))), (oW, .inr (1, [.ref dv, .ref rs, .ref qt, .long kn])), (dv, .inl (cJ, 8, .inr (.inl fd))), (rs, .inl (cJ, 8, .inr (.inl fr))), (qt, .inl (cJ, 8, .inr (.inl fq)))] H := hP
  have hD : va_D A [(o, .inr (2, [.int (nI rm), .int (nI n), .int (nI bs), .ref aP, .ref aH, .ref aC, .ref aT, .ref aB, .ref aZ, .ref aW, .ref aR, .ref oR, .ref oW])), (aP, .inl (cI, rm, .inl (pF (updN P n p9)))), (aH, .inl (cI, rm, .inl (nF (updN Hh n (Hh p9 + 1))))), (aC, .inl (cI, rm, .inl (nF Ch))), (aT, .inl (cJ, rm, .inr (.inl (vp_updL Tm n t)))), (aB, .inl (cJ, rm, .inr (.inl (vp_updL Bt n kn)))), (aW, .inl (cJ, rm * 8, .inr (.inl Wk))), (oW, .inr (1, [.ref dv, .ref rs, .ref qt, .long kn])), (dv, .inl (cJ, 8, .inr (.inl fd))), (rs, .inl (cJ, 8, .inr (.inl fr))), (qt, .inl (cJ, 8, .inr (.inl fq)))] := hD
  refine lv_aload_n hx hb dT_append_46 rfl (lv_at hl 1 rfl) ?_
  refine va_get (D := D) (ci := 2) (v := .ref aC) (C := RT) (T := TT) (N := 13) hx hb hts iT_append_T hown hK hP 0 rfl rfl 5 (by decide) (hts (.fieldLink RT 20 "TreeDesk" "children" "[I") (by decide +kernel)) (fun _ h9 => h9) rfl dT_append_47 ?_
  refine lv_iload_n hx hb dT_append_50 rfl (lv_at hl 2 rfl) ?_
  refine lv_dup2_11 hx hb dT_append_51 rfl rfl ?_
  refine ar_ild (j := p9) hx hb hK hP 3 0 rfl rfl dT_append_52 (by omega) (by omega) ?_
  refine tp_i (y := nI (Ch p9)) rfl ?_
  refine lv_iconst (v := nI 1) hx hb dT_append_53 (by decide) ?_
  refine lv_iadd hx hb dT_append_54 ?_
  refine tp_i (y := nI ((Ch p9) + 1)) (nI_add _ _) ?_
  refine ar_ist (j := p9) hx hb hK hP hD hS 3 0 rfl rfl dT_append_55 (by omega) (by omega) (fun H locs hP hD hS => ?_)
  have hP : va_P D vwCl [(o, .inr (2, [.int (nI rm), .int (nI n), .int (nI bs), .ref aP, .ref aH, .ref aC, .ref aT, .ref aB, .ref aZ, .ref aW, .ref aR, .ref oR, .ref oW])), (aP, .inl (cI, rm, .inl (pF (updN P n p9)))), (aH, .inl (cI, rm, .inl (nF (updN Hh n (Hh p9 + 1))))), (aC, .inl (cI, rm, .inl (upd (nF Ch) p9 (nI ((Ch p9) + 1))))), (aT, .inl (cJ, rm, .inr (.inl (vp_updL Tm n t)))), (aB, .inl (cJ, rm, .inr (.inl (vp_updL Bt n kn)))), (aW, .inl (cJ, rm * 8, .inr (.inl Wk))), (oW, .inr (1, [.ref dv, .ref rs, .ref qt, .long kn])), (dv, .inl (cJ, 8, .inr (.inl fd))), (rs, .inl (cJ, 8, .inr (.inl fr))), (qt, .inl (cJ, 8, .inr (.inl fq)))] H := hP
  have hD : va_D A [(o, .inr (2, [.int (nI rm), .int (nI n), .int (nI bs), .ref aP, .ref aH, .ref aC, .ref aT, .ref aB, .ref aZ, .ref aW, .ref aR, .ref oR, .ref oW])), (aP, .inl (cI, rm, .inl (pF (updN P n p9)))), (aH, .inl (cI, rm, .inl (nF (updN Hh n (Hh p9 + 1))))), (aC, .inl (cI, rm, .inl (upd (nF Ch) p9 (nI ((Ch p9) + 1))))), (aT, .inl (cJ, rm, .inr (.inl (vp_updL Tm n t)))), (aB, .inl (cJ, rm, .inr (.inl (vp_updL Bt n kn)))), (aW, .inl (cJ, rm * 8, .inr (.inl Wk))), (oW, .inr (1, [.ref dv, .ref rs, .ref qt, .long kn])), (dv, .inl (cJ, 8, .inr (.inl fd))), (rs, .inl (cJ, 8, .inr (.inl fr))), (qt, .inl (cJ, 8, .inr (.inl fq)))] := hD
  have e_w55 : upd (nF Ch) p9 (nI ((Ch p9) + 1)) = nF (updN Ch p9 (Ch p9 + 1)) := nF_u Ch p9 (Ch p9 + 1)
  rw [e_w55] at hP hD
  refine lv_aload_n hx hb dT_append_56 rfl (lv_at hl 1 rfl) ?_
  refine lv_iload hx hb dT_append_57 (lv_at hl 0 rfl) ?_
  refine lv_iload_n hx hb dT_append_59 rfl (lv_at hl 2 rfl) ?_
  refine lv_aload_n hx hb dT_append_60 rfl (lv_at hl 1 rfl) ?_
  refine va_get (D := D) (ci := 2) (v := .ref oW) (C := RT) (T := TT) (N := 13) hx hb hts iT_append_T hown hK hP 0 rfl rfl 12 (by decide) (hts (.fieldLink RT 52 "TreeDesk" "worth" "LTreeDesk$Worth;") (by decide +kernel)) (fun _ h9 => h9) rfl dT_append_61 ?_
  refine lv_lload hx hb dT_append_64 (lv_at hl 4 rfl) ?_
  refine rw_k (wc := [(oW, .inr (1, [.ref dv, .ref rs, .ref qt, .long kn])), (dv, .inl (cJ, 8, .inr (.inl fd))), (rs, .inl (cJ, 8, .inr (.inl fr))), (qt, .inl (cJ, 8, .inr (.inl fq)))]) (wr := [(o, .inr (2, [.int (nI rm), .int (nI n), .int (nI bs), .ref aP, .ref aH, .ref aC, .ref aT, .ref aB, .ref aZ, .ref aW, .ref aR, .ref oR, .ref oW])), (aP, .inl (cI, rm, .inl (pF (updN P n p9)))), (aH, .inl (cI, rm, .inl (nF (updN Hh n (Hh p9 + 1))))), (aC, .inl (cI, rm, .inl (nF (updN Ch p9 (Ch p9 + 1))))), (aT, .inl (cJ, rm, .inr (.inl (vp_updL Tm n t)))), (aB, .inl (cJ, rm, .inr (.inl (vp_updL Bt n kn)))), (aW, .inl (cJ, rm * 8, .inr (.inl Wk)))]) (va_runV (As := [.long kn]) (rest := [.int (nI p9), .int (nI n), .ref o]) ⟨hx, hb, hml, hown, hts⟩ (c_W_ofBits_old l D cI cJ cZ oW dv rs qt kn fd fr fq H.size) (cwV 1 hts gT_append_W_ofBits_60 rfl rfl rfl (by decide +kernel) ⟨Nat.le_of_ble_eq_true rfl, Nat.le_of_ble_eq_true rfl⟩) (rw_preV (hP.sub [7, 8, 9, 10] rfl) hK (hD.sub [7, 8, 9, 10] (by decide) rfl) (va_recv hK hP (ci := 1) (q0 := 7) rfl rfl)) rfl rfl hl.1 rfl (lv_room (Nat.le_of_ble_eq_true rfl)) dT_append_66 ⟨Nat.le_of_ble_eq_true rfl, Nat.le_of_ble_eq_true rfl⟩) hP hD hS hA [7, 8, 9, 10] [0, 1, 2, 3, 4, 5, 6] rfl rfl (by decide) (by decide) (fun v9 w9 H locs hp9 hP hD hS => ?_)
  obtain ⟨rfl, rfl⟩ := hp9
  have hP : va_P D vwCl [(o, .inr (2, [.int (nI rm), .int (nI n), .int (nI bs), .ref aP, .ref aH, .ref aC, .ref aT, .ref aB, .ref aZ, .ref aW, .ref aR, .ref oR, .ref oW])), (aP, .inl (cI, rm, .inl (pF (updN P n p9)))), (aH, .inl (cI, rm, .inl (nF (updN Hh n (Hh p9 + 1))))), (aC, .inl (cI, rm, .inl (nF (updN Ch p9 (Ch p9 + 1))))), (aT, .inl (cJ, rm, .inr (.inl (vp_updL Tm n t)))), (aB, .inl (cJ, rm, .inr (.inl (vp_updL Bt n kn)))), (aW, .inl (cJ, rm * 8, .inr (.inl Wk))), (oW, .inr (1, [.ref dv, .ref rs, .ref qt, .long kn])), (dv, .inl (cJ, 8, .inr (.inl fd))), (rs, .inl (cJ, 8, .inr (.inl fr))), (qt, .inl (cJ, 8, .inr (.inl fq)))] H := hP
  have hD : va_D A [(o, .inr (2, [.int (nI rm), .int (nI n), .int (nI bs), .ref aP, .ref aH, .ref aC, .ref aT, .ref aB, .ref aZ, .ref aW, .ref aR, .ref oR, .ref oW])), (aP, .inl (cI, rm, .inl (pF (updN P n p9)))), (aH, .inl (cI, rm, .inl (nF (updN Hh n (Hh p9 + 1))))), (aC, .inl (cI, rm, .inl (nF (updN Ch p9 (Ch p9 + 1))))), (aT, .inl (cJ, rm, .inr (.inl (vp_updL Tm n t)))), (aB, .inl (cJ, rm, .inr (.inl (vp_updL Bt n kn)))), (aW, .inl (cJ, rm * 8, .inr (.inl Wk))), (oW, .inr (1, [.ref dv, .ref rs, .ref qt, .long kn])), (dv, .inl (cJ, 8, .inr (.inl fd))), (rs, .inl (cJ, 8, .inr (.inl fr))), (qt, .inl (cJ, 8, .inr (.inl fq)))] := hD
  refine W.eq (g2 := F0 m 69 ls [.ref qt, .int (nI p9), .int (nI n), .ref o]) rfl ?_
  refine rw_k (wc := [(o, .inr (2, [.int (nI rm), .int (nI n), .int (nI bs), .ref aP, .ref aH, .ref aC, .ref aT, .ref aB, .ref aZ, .ref aW, .ref aR, .ref oR, .ref oW])), (aW, .inl (cJ, rm * 8, .inr (.inl Wk))), (qt, .inl (cJ, 8, .inr (.inl fq)))]) (wr := [(aP, .inl (cI, rm, .inl (pF (updN P n p9)))), (aH, .inl (cI, rm, .inl (nF (updN Hh n (Hh p9 + 1))))), (aC, .inl (cI, rm, .inl (nF (updN Ch p9 (Ch p9 + 1))))), (aT, .inl (cJ, rm, .inr (.inl (vp_updL Tm n t)))), (aB, .inl (cJ, rm, .inr (.inl (vp_updL Bt n kn)))), (oW, .inr (1, [.ref dv, .ref rs, .ref qt, .long kn])), (dv, .inl (cJ, 8, .inr (.inl fd))), (rs, .inl (cJ, 8, .inr (.inl fr)))]) (va_runV (As := [.int (nI n), .int (nI p9), .ref qt]) (rest := []) ⟨hx, hb, hml, hown, hts⟩ (c_sumWork l D cI cJ cZ o rm n bs aP aH aC aT aB aZ aW aR oR oW Wk qt fq n p9 (by omega) (by omega) (by omega) H.size) (cwV 3 hts gT_append_T_sumWork_136 rfl rfl rfl (by decide +kernel) ⟨Nat.le_of_ble_eq_true rfl, Nat.le_of_ble_eq_true rfl⟩) (rw_preV (hP.sub [0, 6, 10] rfl) hK (hD.sub [0, 6, 10] (by decide) rfl) (va_recv hK hP (ci := 2) (q0 := 0) rfl rfl)) rfl rfl hl.1 rfl (lv_room (Nat.le_of_ble_eq_true rfl)) dT_append_69 ⟨Nat.le_of_ble_eq_true rfl, Nat.le_of_ble_eq_true rfl⟩) hP hD hS hA [0, 6, 10] [1, 2, 3, 4, 5, 7, 8, 9] rfl rfl (by decide) (by decide) (fun v9 w9 H locs hp9 hP hD hS => ?_)
  obtain ⟨rfl, rfl⟩ := hp9
  have hP : va_P D vwCl [(aP, .inl (cI, rm, .inl (pF (updN P n p9)))), (aH, .inl (cI, rm, .inl (nF (updN Hh n (Hh p9 + 1))))), (aC, .inl (cI, rm, .inl (nF (updN Ch p9 (Ch p9 + 1))))), (aT, .inl (cJ, rm, .inr (.inl (vp_updL Tm n t)))), (aB, .inl (cJ, rm, .inr (.inl (vp_updL Bt n kn)))), (oW, .inr (1, [.ref dv, .ref rs, .ref qt, .long kn])), (dv, .inl (cJ, 8, .inr (.inl fd))), (rs, .inl (cJ, 8, .inr (.inl fr))), (o, .inr (2, [.int (nI rm), .int (nI n), .int (nI bs), .ref aP, .ref aH, .ref aC, .ref aT, .ref aB, .ref aZ, .ref aW, .ref aR, .ref oR, .ref oW])), (aW, .inl (cJ, rm * 8, .inr (.inl (m_sum fq n p9 Wk)))), (qt, .inl (cJ, 8, .inr (.inl fq)))] H := hP
  have hD : va_D A [(aP, .inl (cI, rm, .inl (pF (updN P n p9)))), (aH, .inl (cI, rm, .inl (nF (updN Hh n (Hh p9 + 1))))), (aC, .inl (cI, rm, .inl (nF (updN Ch p9 (Ch p9 + 1))))), (aT, .inl (cJ, rm, .inr (.inl (vp_updL Tm n t)))), (aB, .inl (cJ, rm, .inr (.inl (vp_updL Bt n kn)))), (oW, .inr (1, [.ref dv, .ref rs, .ref qt, .long kn])), (dv, .inl (cJ, 8, .inr (.inl fd))), (rs, .inl (cJ, 8, .inr (.inl fr))), (o, .inr (2, [.int (nI rm), .int (nI n), .int (nI bs), .ref aP, .ref aH, .ref aC, .ref aT, .ref aB, .ref aZ, .ref aW, .ref aR, .ref oR, .ref oW])), (aW, .inl (cJ, rm * 8, .inr (.inl (m_sum fq n p9 Wk)))), (qt, .inl (cJ, 8, .inr (.inl fq)))] := hD
  refine W.eq (g2 := F0 m 72 ls []) rfl ?_
  refine lv_aload_n hx hb dT_append_72 rfl (lv_at hl 1 rfl) ?_
  refine lv_dup hx hb dT_append_73 rfl ?_
  refine va_get (D := D) (ci := 2) (v := .int (nI n)) (C := RT) (T := TT) (N := 13) hx hb hts iT_append_T hown hK hP 8 rfl rfl 1 (by decide) (hts (.fieldLink RT 70 "TreeDesk" "count" "I") (by decide +kernel)) (fun _ h9 => h9) rfl dT_append_74 ?_
  refine lv_iconst (v := nI 1) hx hb dT_append_77 (by decide) ?_
  refine lv_iadd hx hb dT_append_78 ?_
  refine tp_i (y := nI (n + 1)) (nI_add _ _) ?_
  refine va_put (D := D) (ci := 2) (v := .int (nI (n + 1))) (ty := .int) (C := RT) (T := TT) (N := 13) hx hb hts iT_append_T tyT tyT_ok nmT hown hK hP hD hS 8 rfl rfl 1 (by decide) (hts (.fieldLink RT 70 "TreeDesk" "count" "I") (by decide +kernel)) (fun _ h9 => h9) rfl (by decide +kernel) rfl rfl (Nat.le_of_ble_eq_true rfl) dT_append_79 (fun H locs hP hD hS => ?_)
  have hP : va_P D vwCl [(aP, .inl (cI, rm, .inl (pF (updN P n p9)))), (aH, .inl (cI, rm, .inl (nF (updN Hh n (Hh p9 + 1))))), (aC, .inl (cI, rm, .inl (nF (updN Ch p9 (Ch p9 + 1))))), (aT, .inl (cJ, rm, .inr (.inl (vp_updL Tm n t)))), (aB, .inl (cJ, rm, .inr (.inl (vp_updL Bt n kn)))), (oW, .inr (1, [.ref dv, .ref rs, .ref qt, .long kn])), (dv, .inl (cJ, 8, .inr (.inl fd))), (rs, .inl (cJ, 8, .inr (.inl fr))), (o, .inr (2, [.int (nI rm), .int (nI (n + 1)), .int (nI bs), .ref aP, .ref aH, .ref aC, .ref aT, .ref aB, .ref aZ, .ref aW, .ref aR, .ref oR, .ref oW])), (aW, .inl (cJ, rm * 8, .inr (.inl (m_sum fq n p9 Wk)))), (qt, .inl (cJ, 8, .inr (.inl fq)))] H := hP
  have hD : va_D A [(aP, .inl (cI, rm, .inl (pF (updN P n p9)))), (aH, .inl (cI, rm, .inl (nF (updN Hh n (Hh p9 + 1))))), (aC, .inl (cI, rm, .inl (nF (updN Ch p9 (Ch p9 + 1))))), (aT, .inl (cJ, rm, .inr (.inl (vp_updL Tm n t)))), (aB, .inl (cJ, rm, .inr (.inl (vp_updL Bt n kn)))), (oW, .inr (1, [.ref dv, .ref rs, .ref qt, .long kn])), (dv, .inl (cJ, 8, .inr (.inl fd))), (rs, .inl (cJ, 8, .inr (.inl fr))), (o, .inr (2, [.int (nI rm), .int (nI (n + 1)), .int (nI bs), .ref aP, .ref aH, .ref aC, .ref aT, .ref aB, .ref aZ, .ref aW, .ref aR, .ref oR, .ref oW])), (aW, .inl (cJ, rm * 8, .inr (.inl (m_sum fq n p9 Wk)))), (qt, .inl (cJ, 8, .inr (.inl fq)))] := hD
  refine lv_aload_n hx hb dT_append_82 rfl (lv_at hl 1 rfl) ?_
  refine lv_iload hx hb dT_append_83 (lv_at hl 0 rfl) ?_
  refine lv_aload_n hx hb dT_append_85 rfl (lv_at hl 1 rfl) ?_
  refine va_get (D := D) (ci := 2) (v := .int (nI bs)) (C := RT) (T := TT) (N := 13) hx hb hts iT_append_T hown hK hP 8 rfl rfl 2 (by decide) (hts (.fieldLink RT 73 "TreeDesk" "best" "I") (by decide +kernel)) (fun _ h9 => h9) rfl dT_append_86 ?_
  refine ro_ki (va_runV (As := [.int (nI n), .int (nI bs)]) (rest := []) ⟨hx, hb, hml, hown, hts⟩ (c_compareWorks l D cI cJ cZ o rm (n + 1) bs aP aH aC aT aB aZ aW aR oR oW (m_sum fq n p9 Wk) n bs (by omega) (by omega) (by omega)) (cwV 2 hts gT_append_T_compareWorks_116 rfl rfl rfl (by decide +kernel) ⟨Nat.le_of_ble_eq_true rfl, Nat.le_of_ble_eq_true rfl⟩) (ro_preV (hP.sub [8, 9] rfl) hK (va_recv hK hP (ci := 2) (q0 := 8) rfl rfl)) rfl rfl hl.1 rfl (lv_room (Nat.le_of_ble_eq_true rfl)) dT_append_89 ⟨Nat.le_of_ble_eq_true rfl, Nat.le_of_ble_eq_true rfl⟩) ?_
  refine lv_if_le (tgt := 101) hx hb dT_append_92 (by decide) (fun c_92 => ?_) (fun c_92 => ?_)
  · skip
    refine lv_iload hx hb dT_append_101 (lv_at hl 0 rfl) ?_
    exact rw_iret (w := [(o, .inr (2, [.int (nI rm), .int (nI (n + 1)), .int (nI bs), .ref aP, .ref aH, .ref aC, .ref aT, .ref aB, .ref aZ, .ref aW, .ref aR, .ref oR, .ref oW])), (aP, .inl (cI, rm, .inl (pF (updN P n p9)))), (aH, .inl (cI, rm, .inl (nF (updN Hh n (Hh p9 + 1))))), (aC, .inl (cI, rm, .inl (nF (updN Ch p9 (Ch p9 + 1))))), (aT, .inl (cJ, rm, .inr (.inl (vp_updL Tm n t)))), (aB, .inl (cJ, rm, .inr (.inl (vp_updL Bt n kn)))), (aW, .inl (cJ, rm * 8, .inr (.inl (m_sum fq n p9 Wk)))), (oW, .inr (1, [.ref dv, .ref rs, .ref qt, .long kn])), (dv, .inl (cJ, 8, .inr (.inl fd))), (rs, .inl (cJ, 8, .inr (.inl fr))), (qt, .inl (cJ, 8, .inr (.inl fq)))]) hQ hx hb hr hlocks dT_append_103 (hP.sub [8, 0, 1, 2, 3, 4, 9, 5, 6, 7, 10] rfl) (hD.sub [8, 0, 1, 2, 3, 4, 9, 5, 6, 7, 10] (by decide) rfl) hS ⟨rfl, by rw [if_pos c_92]⟩
  · skip
    refine lv_aload_n hx hb dT_append_95 rfl (lv_at hl 1 rfl) ?_
    refine lv_iload hx hb dT_append_96 (lv_at hl 0 rfl) ?_
    refine va_put (D := D) (ci := 2) (v := .int (nI n)) (ty := .int) (C := RT) (T := TT) (N := 13) hx hb hts iT_append_T tyT tyT_ok nmT hown hK hP hD hS 8 rfl rfl 2 (by decide) (hts (.fieldLink RT 73 "TreeDesk" "best" "I") (by decide +kernel)) (fun _ h9 => h9) rfl (by decide +kernel) rfl rfl (Nat.le_of_ble_eq_true rfl) dT_append_98 (fun H locs hP hD hS => ?_)
    have hP : va_P D vwCl [(aP, .inl (cI, rm, .inl (pF (updN P n p9)))), (aH, .inl (cI, rm, .inl (nF (updN Hh n (Hh p9 + 1))))), (aC, .inl (cI, rm, .inl (nF (updN Ch p9 (Ch p9 + 1))))), (aT, .inl (cJ, rm, .inr (.inl (vp_updL Tm n t)))), (aB, .inl (cJ, rm, .inr (.inl (vp_updL Bt n kn)))), (oW, .inr (1, [.ref dv, .ref rs, .ref qt, .long kn])), (dv, .inl (cJ, 8, .inr (.inl fd))), (rs, .inl (cJ, 8, .inr (.inl fr))), (o, .inr (2, [.int (nI rm), .int (nI (n + 1)), .int (nI n), .ref aP, .ref aH, .ref aC, .ref aT, .ref aB, .ref aZ, .ref aW, .ref aR, .ref oR, .ref oW])), (aW, .inl (cJ, rm * 8, .inr (.inl (m_sum fq n p9 Wk)))), (qt, .inl (cJ, 8, .inr (.inl fq)))] H := hP
    have hD : va_D A [(aP, .inl (cI, rm, .inl (pF (updN P n p9)))), (aH, .inl (cI, rm, .inl (nF (updN Hh n (Hh p9 + 1))))), (aC, .inl (cI, rm, .inl (nF (updN Ch p9 (Ch p9 + 1))))), (aT, .inl (cJ, rm, .inr (.inl (vp_updL Tm n t)))), (aB, .inl (cJ, rm, .inr (.inl (vp_updL Bt n kn)))), (oW, .inr (1, [.ref dv, .ref rs, .ref qt, .long kn])), (dv, .inl (cJ, 8, .inr (.inl fd))), (rs, .inl (cJ, 8, .inr (.inl fr))), (o, .inr (2, [.int (nI rm), .int (nI (n + 1)), .int (nI n), .ref aP, .ref aH, .ref aC, .ref aT, .ref aB, .ref aZ, .ref aW, .ref aR, .ref oR, .ref oW])), (aW, .inl (cJ, rm * 8, .inr (.inl (m_sum fq n p9 Wk)))), (qt, .inl (cJ, 8, .inr (.inl fq)))] := hD
    refine lv_iload hx hb dT_append_101 (lv_at hl 0 rfl) ?_
    exact rw_iret (w := [(o, .inr (2, [.int (nI rm), .int (nI (n + 1)), .int (nI n), .ref aP, .ref aH, .ref aC, .ref aT, .ref aB, .ref aZ, .ref aW, .ref aR, .ref oR, .ref oW])), (aP, .inl (cI, rm, .inl (pF (updN P n p9)))), (aH, .inl (cI, rm, .inl (nF (updN Hh n (Hh p9 + 1))))), (aC, .inl (cI, rm, .inl (nF (updN Ch p9 (Ch p9 + 1))))), (aT, .inl (cJ, rm, .inr (.inl (vp_updL Tm n t)))), (aB, .inl (cJ, rm, .inr (.inl (vp_updL Bt n kn)))), (aW, .inl (cJ, rm * 8, .inr (.inl (m_sum fq n p9 Wk)))), (oW, .inr (1, [.ref dv, .ref rs, .ref qt, .long kn])), (dv, .inl (cJ, 8, .inr (.inl fd))), (rs, .inl (cJ, 8, .inr (.inl fr))), (qt, .inl (cJ, 8, .inr (.inl fq)))]) hQ hx hb hr hlocks dT_append_103 (hP.sub [8, 0, 1, 2, 3, 4, 9, 5, 6, 7, 10] rfl) (hD.sub [8, 0, 1, 2, 3, 4, 9, 5, 6, 7, 10] (by decide) rfl) hS ⟨rfl, by rw [if_neg c_92]⟩

abbrev rm_c_add_nob : Room := { frames := 1, cells := 0, slots := 0, locals := 21 }
set_option maxRecDepth 100000 in
set_option maxHeartbeats 4000000 in
theorem c_add_nob (l : Launch) (D : va_G) (cI cJ cZ : ClassId) (o : Nat) (rm : Nat) (n : Nat) (bs : Nat) (aP : Nat) (aH : Nat) (aC : Nat) (aT : Nat) (aB : Nat) (aZ : Nat) (aW : Nat) (aR : Nat) (oR : Nat) (oW : Nat) (x : Int32) (t : Int64) (b : Int64) (hx9 : ¬ (0 ≤ x ∧ x < nI n)) : ro_C l yT_add wT_add rm_c_add_nob D vwCl (gT cI cJ cZ) [.ref o, .int x, .long t, .long b] [(o, .inr (2, [.int (nI rm), .int (nI n), .int (nI bs), .ref aP, .ref aH, .ref aC, .ref aT, .ref aB, .ref aZ, .ref aW, .ref aR, .ref oR, .ref oW]))] (some (.int (-1))) := by
  refine ro_of (cc := cT_add) (maxL := 6) (ret := some .int) (by decide) rfl (Nat.le_of_ble_eq_true rfl) ?_
  intro p e s m args below meth c Q ls hx hb hr hml hown hts hlocks hK hP hl hQ
  have hl : lv_has ls 6 [(0, .ref o), (1, .int x), (2, .long t), (4, .long b)] := hl
  have hown : s.vm.findClass RT = some m.cls := hown
  refine lv_aload_n hx hb dT_add_0 rfl (lv_at hl 0 rfl) ?_
  refine lv_iload_n hx hb dT_add_1 rfl (lv_at hl 1 rfl) ?_
  refine ro_ki (va_runV (As := [.int x]) (rest := []) ⟨hx, hb, hml, hown, hts⟩ (c_isBlock_no l D cI cJ cZ o rm n bs aP aH aC aT aB aZ aW aR oR oW x hx9) (cwV 1 hts gT_add_T_isBlock_76 rfl rfl rfl (by decide +kernel) ⟨Nat.le_of_ble_eq_true rfl, Nat.le_of_ble_eq_true rfl⟩) (ro_preV (hP.sub [0] rfl) hK (va_recv hK hP (ci := 2) (q0 := 0) rfl rfl)) rfl rfl hl.1 rfl (lv_room (Nat.le_of_ble_eq_true rfl)) dT_add_2 ⟨Nat.le_of_ble_eq_true rfl, Nat.le_of_ble_eq_true rfl⟩) ?_
  refine lv_if_ne (tgt := 10) hx hb dT_add_5 (by decide) (fun c_5 => ?_) (fun c_5 => ?_)
  · skip
    rw [← nI_0] at c_5
    have c_5 : ¬ 0 = 0 := n_ne c_5
    omega
  · skip
    rw [← nI_0] at c_5
    have c_5 : 0 = 0 := n_eq c_5 (by omega) (by omega)
    refine lv_iconst (v := (-1)) hx hb dT_add_8 (by decide) ?_
    exact ro_iret hQ hx hb hr hlocks dT_add_9 rfl

abbrev rm_c_add_bad : Room := { frames := 1, cells := 0, slots := 0, locals := 21 }
set_option maxRecDepth 100000 in
set_option maxHeartbeats 4000000 in
theorem c_add_bad (l : Launch) (D : va_G) (cI cJ cZ : ClassId) (o : Nat) (rm : Nat) (n : Nat) (bs : Nat) (aP : Nat) (aH : Nat) (aC : Nat) (aT : Nat) (aB : Nat) (aZ : Nat) (aW : Nat) (aR : Nat) (oR : Nat) (oW : Nat) (Zb : Nat → Nat) (j : Nat) (t : Int64) (b : Int64) (hn3 : n ≤ rm) (hr3 : rm ≤ 300) (hj : j < n) (hz1 : ¬ Zb j = 0) (hz2 : Zb j < 2) : ro_C l yT_add wT_add rm_c_add_bad D vwCl (gT cI cJ cZ) [.ref o, .int (nI j), .long t, .long b] [(o, .inr (2, [.int (nI rm), .int (nI n), .int (nI bs), .ref aP, .ref aH, .ref aC, .ref aT, .ref aB, .ref aZ, .ref aW, .ref aR, .ref oR, .ref oW])), (aZ, .inl (cZ, rm, .inl (nF Zb)))] (some (.int (-2))) := by
  refine ro_of (cc := cT_add) (maxL := 6) (ret := some .int) (by decide) rfl (Nat.le_of_ble_eq_true rfl) ?_
  intro p e s m args below meth c Q ls hx hb hr hml hown hts hlocks hK hP hl hQ
  have hl : lv_has ls 6 [(0, .ref o), (1, .int (nI j)), (2, .long t), (4, .long b)] := hl
  have hown : s.vm.findClass RT = some m.cls := hown
  refine lv_aload_n hx hb dT_add_0 rfl (lv_at hl 0 rfl) ?_
  refine lv_iload_n hx hb dT_add_1 rfl (lv_at hl 1 rfl) ?_
  refine ro_ki (va_runV (As := [.int (nI j)]) (rest := []) ⟨hx, hb, hml, hown, hts⟩ (c_isBlock_ok l D cI cJ cZ o rm n bs aP aH aC aT aB aZ aW aR oR oW j (by omega) (by omega)) (cwV 1 hts gT_add_T_isBlock_76 rfl rfl rfl (by decide +kernel) ⟨Nat.le_of_ble_eq_true rfl, Nat.le_of_ble_eq_true rfl⟩) (ro_preV (hP.sub [0] rfl) hK (va_recv hK hP (ci := 2) (q0 := 0) rfl rfl)) rfl rfl hl.1 rfl (lv_room (Nat.le_of_ble_eq_true rfl)) dT_add_2 ⟨Nat.le_of_ble_eq_true rfl, Nat.le_of_ble_eq_true rfl⟩) ?_
  refine lv_if_ne (tgt := 10) hx hb dT_add_5 (by decide) (fun c_5 => ?_) (fun c_5 => ?_)
  · skip
    rw [← nI_0] at c_5
    have c_5 : ¬ 1 = 0 := n_ne c_5
    refine lv_aload_n hx hb dT_add_10 rfl (lv_at hl 0 rfl) ?_
    refine va_get (D := D) (ci := 2) (v := .ref aZ) (C := RT) (T := TT) (N := 13) hx hb hts iT_add_T hown hK hP 0 rfl rfl 8 (by decide) (hts (.fieldLink RT 30 "TreeDesk" "bad" "[Z") (by decide +kernel)) (fun _ h9 => h9) rfl dT_add_11 ?_
    refine lv_iload_n hx hb dT_add_14 rfl (lv_at hl 1 rfl) ?_
    refine ar_zld (j := j) hx hb hK hP 1 2 rfl rfl dT_add_15 (by omega) (by omega) ?_
    refine tp_i (y := nI (Zb j)) rfl ?_
    refine lv_if_eq (tgt := 22) hx hb dT_add_16 (by decide) (fun c_16 => ?_) (fun c_16 => ?_)
    · skip
      rw [← nI_0] at c_16
      have c_16 : (Zb j) = 0 := n_eq c_16 (by omega) (by omega)
      omega
    · skip
      rw [← nI_0] at c_16
      have c_16 : ¬ (Zb j) = 0 := n_ne c_16
      refine lv_bipush (v := (-2)) hx hb dT_add_19 (by decide) ?_
      exact ro_iret hQ hx hb hr hlocks dT_add_21 rfl
  · skip
    rw [← nI_0] at c_5
    have c_5 : 1 = 0 := n_eq c_5 (by omega) (by omega)
    omega

abbrev rm_c_add_bitsS : Room := { frames := 2, cells := 0, slots := 0, locals := 44 }
set_option maxRecDepth 100000 in
set_option maxHeartbeats 4000000 in
theorem c_add_bitsS (l : Launch) (D : va_G) (cI cJ cZ : ClassId) (o : Nat) (rm : Nat) (n : Nat) (bs : Nat) (aP : Nat) (aH : Nat) (aC : Nat) (aT : Nat) (aB : Nat) (aZ : Nat) (aW : Nat) (aR : Nat) (oR : Nat) (oW : Nat) (Hh : Nat → Nat) (Bt : Nat → Int64) (Zb : Nat → Nat) (j : Nat) (t : Int64) (b : Int64) (hn3 : n ≤ rm) (hr3 : rm ≤ 300) (hj : j < n) (hHj : Hh j < 300) (hz0 : Zb j = 0) (h8 : ¬ (Hh j + 1) % 8 = 0) (hb9 : ¬ b = Bt j) : ro_C l yT_add wT_add rm_c_add_bitsS D vwCl (gT cI cJ cZ) [.ref o, .int (nI j), .long t, .long b] [(o, .inr (2, [.int (nI rm), .int (nI n), .int (nI bs), .ref aP, .ref aH, .ref aC, .ref aT, .ref aB, .ref aZ, .ref aW, .ref aR, .ref oR, .ref oW])), (aH, .inl (cI, rm, .inl (nF Hh))), (aB, .inl (cJ, rm, .inr (.inl Bt))), (aZ, .inl (cZ, rm, .inl (nF Zb)))] (some (.int (-3))) := by
  refine ro_of (cc := cT_add) (maxL := 6) (ret := some .int) (by decide) rfl (Nat.le_of_ble_eq_true rfl) ?_
  intro p e s m args below meth c Q ls hx hb hr hml hown hts hlocks hK hP hl hQ
  have hl : lv_has ls 6 [(0, .ref o), (1, .int (nI j)), (2, .long t), (4, .long b)] := hl
  have hown : s.vm.findClass RT = some m.cls := hown
  refine lv_aload_n hx hb dT_add_0 rfl (lv_at hl 0 rfl) ?_
  refine lv_iload_n hx hb dT_add_1 rfl (lv_at hl 1 rfl) ?_
  refine ro_ki (va_runV (As := [.int (nI j)]) (rest := []) ⟨hx, hb, hml, hown, hts⟩ (c_isBlock_ok l D cI cJ cZ o rm n bs aP aH aC aT aB aZ aW aR oR oW j (by omega) (by omega)) (cwV 1 hts gT_add_T_isBlock_76 rfl rfl rfl (by decide +kernel) ⟨Nat.le_of_ble_eq_true rfl, Nat.le_of_ble_eq_true rfl⟩) (ro_preV (hP.sub [0] rfl) hK (va_recv hK hP (ci := 2) (q0 := 0) rfl rfl)) rfl rfl hl.1 rfl (lv_room (Nat.le_of_ble_eq_true rfl)) dT_add_2 ⟨Nat.le_of_ble_eq_true rfl, Nat.le_of_ble_eq_true rfl⟩) ?_
  refine lv_if_ne (tgt := 10) hx hb dT_add_5 (by decide) (fun c_5 => ?_) (fun c_5 => ?_)
  · skip
    rw [← nI_0] at c_5
    have c_5 : ¬ 1 = 0 := n_ne c_5
    refine lv_aload_n hx hb dT_add_10 rfl (lv_at hl 0 rfl) ?_
    refine va_get (D := D) (ci := 2) (v := .ref aZ) (C := RT) (T := TT) (N := 13) hx hb hts iT_add_T hown hK hP 0 rfl rfl 8 (by decide) (hts (.fieldLink RT 30 "TreeDesk" "bad" "[Z") (by decide +kernel)) (fun _ h9 => h9) rfl dT_add_11 ?_
    refine lv_iload_n hx hb dT_add_14 rfl (lv_at hl 1 rfl) ?_
    refine ar_zld (j := j) hx hb hK hP 3 2 rfl rfl dT_add_15 (by omega) (by omega) ?_
    refine tp_i (y := nI (Zb j)) rfl ?_
    refine lv_if_eq (tgt := 22) hx hb dT_add_16 (by decide) (fun c_16 => ?_) (fun c_16 => ?_)
    · skip
      rw [← nI_0] at c_16
      have c_16 : (Zb j) = 0 := n_eq c_16 (by omega) (by omega)
      refine lv_lload hx hb dT_add_22 (lv_at hl 3 rfl) ?_
      refine lv_aload_n hx hb dT_add_24 rfl (lv_at hl 0 rfl) ?_
      refine lv_iload_n hx hb dT_add_25 rfl (lv_at hl 1 rfl) ?_
      refine ro_kl (va_runV (As := [.int (nI j)]) (rest := [.long b]) ⟨hx, hb, hml, hown, hts⟩ (c_must_same l D cI cJ cZ o rm n bs aP aH aC aT aB aZ aW aR oR oW Hh Bt j (by omega) (by omega) (by omega) (by omega) h8) (cwV 1 hts gT_add_T_must_80 rfl rfl rfl (by decide +kernel) ⟨Nat.le_of_ble_eq_true rfl, Nat.le_of_ble_eq_true rfl⟩) (ro_preV (hP.sub [0, 1, 2] rfl) hK (va_recv hK hP (ci := 2) (q0 := 0) rfl rfl)) rfl rfl hl.1 rfl (lv_room (Nat.le_of_ble_eq_true rfl)) dT_add_26 ⟨Nat.le_of_ble_eq_true rfl, Nat.le_of_ble_eq_true rfl⟩) ?_
      refine lc_eq (tgt := 36) hx hb dT_add_29 dT_add_30 (by decide) (fun c_30 => ?_) (fun c_30 => ?_)
      · skip
        exact absurd c_30 hb9
      · skip
        refine lv_bipush (v := (-3)) hx hb dT_add_33 (by decide) ?_
        exact ro_iret hQ hx hb hr hlocks dT_add_35 rfl
    · skip
      rw [← nI_0] at c_16
      have c_16 : ¬ (Zb j) = 0 := n_ne c_16
      omega
  · skip
    rw [← nI_0] at c_5
    have c_5 : 1 = 0 := n_eq c_5 (by omega) (by omega)
    omega

abbrev rm_c_add_timeS : Room := { frames := 2, cells := 0, slots := 0, locals := 47 }
set_option maxRecDepth 100000 in
set_option maxHeartbeats 4000000 in
theorem c_add_timeS (l : Launch) (D : va_G) (cI cJ cZ : ClassId) (o : Nat) (rm : Nat) (n : Nat) (bs : Nat) (aP : Nat) (aH : Nat) (aC : Nat) (aT : Nat) (aB : Nat) (aZ : Nat) (aW : Nat) (aR : Nat) (oR : Nat) (oW : Nat) (P : Nat → Nat) (Hh : Nat → Nat) (Tm : Nat → Int64) (Bt : Nat → Int64) (Zb : Nat → Nat) (Rk : Nat → Int64) (aQ : Nat) (pr : Nat → Int64) (j : Nat) (t : Int64) (b : Int64) (hn3 : n ≤ rm) (hr3 : rm ≤ 300) (hj : j < n) (hHj : Hh j < 300) (hz0 : Zb j = 0) (h8 : ¬ (Hh j + 1) % 8 = 0) (hb9 : b = Bt j) (ht9 : ¬ ((m_med P Tm 11 0 (j + 1) Rk).1 ((m_med P Tm 11 0 (j + 1) Rk).2 / 2) < t ∧ t ≤ 4294967295)) (hpar : ∀ x : Nat, 0 < x → x < n → P x < x) : rw_C l yT_add wT_add rm_c_add_timeS D vwCl (gT cI cJ cZ) [.ref o, .int (nI j), .long t, .long b] [(o, .inr (2, [.int (nI rm), .int (nI n), .int (nI bs), .ref aP, .ref aH, .ref aC, .ref aT, .ref aB, .ref aZ, .ref aW, .ref aR, .ref oR, .ref oW])), (aP, .inl (cI, rm, .inl (pF P))), (aH, .inl (cI, rm, .inl (nF Hh))), (aT, .inl (cJ, rm, .inr (.inl Tm))), (aB, .inl (cJ, rm, .inr (.inl Bt))), (aZ, .inl (cZ, rm, .inl (nF Zb))), (aR, .inl (cJ, 11, .inr (.inl Rk))), (oR, .inr (0, [.ref aQ])), (aQ, .inl (cJ, 9, .inr (.inl pr)))] (fun v9 w9 => v9 = some (.int (-4)) ∧ w9 = [(o, .inr (2, [.int (nI rm), .int (nI n), .int (nI bs), .ref aP, .ref aH, .ref aC, .ref aT, .ref aB, .ref aZ, .ref aW, .ref aR, .ref oR, .ref oW])), (aP, .inl (cI, rm, .inl (pF P))), (aH, .inl (cI, rm, .inl (nF Hh))), (aT, .inl (cJ, rm, .inr (.inl Tm))), (aB, .inl (cJ, rm, .inr (.inl Bt))), (aZ, .inl (cZ, rm, .inl (nF Zb))), (aR, .inl (cJ, 11, .inr (.inl ((m_med P Tm 11 0 (j + 1) Rk).1)))), (oR, .inr (0, [.ref aQ])), (aQ, .inl (cJ, 9, .inr (.inl pr)))]) 0 0 := by
  refine rw_of (cc := cT_add) (maxL := 6) (ret := some .int) (by decide) rfl (Nat.le_of_ble_eq_true rfl) ?_
  intro p e s m args below meth c Q A ls hx hb hr hml hown hts hlocks hin hK hP hD hA hl hQ
  have hS : va_S A s.heap s.heap [] := va_S.rf
  have hl : lv_has ls 6 [(0, .ref o), (1, .int (nI j)), (2, .long t), (4, .long b)] := hl
  have hown : s.vm.findClass RT = some m.cls := hown
  obtain ⟨H, hHe⟩ : ∃ H : Heap, H = s.heap := ⟨_, rfl⟩
  rw [← hHe] at hP
  have hS : va_S A s.heap H [] := by rw [hHe]; exact va_S.rf
  suffices h9 : W p l e rm_c_add_timeS s m args below meth c H [] 0 0 Q (F0 m 0 ls []) by rw [hHe] at h9; exact h9
  clear hHe
  refine lv_aload_n hx hb dT_add_0 rfl (lv_at hl 0 rfl) ?_
  refine lv_iload_n hx hb dT_add_1 rfl (lv_at hl 1 rfl) ?_
  refine ro_ki (va_runV (As := [.int (nI j)]) (rest := []) ⟨hx, hb, hml, hown, hts⟩ (c_isBlock_ok l D cI cJ cZ o rm n bs aP aH aC aT aB aZ aW aR oR oW j (by omega) (by omega)) (cwV 1 hts gT_add_T_isBlock_76 rfl rfl rfl (by decide +kernel) ⟨Nat.le_of_ble_eq_true rfl, Nat.le_of_ble_eq_true rfl⟩) (ro_preV (hP.sub [0] rfl) hK (va_recv hK hP (ci := 2) (q0 := 0) rfl rfl)) rfl rfl hl.1 rfl (lv_room (Nat.le_of_ble_eq_true rfl)) dT_add_2 ⟨Nat.le_of_ble_eq_true rfl, Nat.le_of_ble_eq_true rfl⟩) ?_
  refine lv_if_ne (tgt := 10) hx hb dT_add_5 (by decide) (fun c_5 => ?_) (fun c_5 => ?_)
  · skip
    rw [← nI_0] at c_5
    have c_5 : ¬ 1 = 0 := n_ne c_5
    refine lv_aload_n hx hb dT_add_10 rfl (lv_at hl 0 rfl) ?_
    refine va_get (D := D) (ci := 2) (v := .ref aZ) (C := RT) (T := TT) (N := 13) hx hb hts iT_add_T hown hK hP 0 rfl rfl 8 (by decide) (hts (.fieldLink RT 30 "TreeDesk" "bad" "[Z") (by decide +kernel)) (fun _ h9 => h9) rfl dT_add_11 ?_
    refine lv_iload_n hx hb dT_add_14 rfl (lv_at hl 1 rfl) ?_
    refine ar_zld (j := j) hx hb hK hP 5 2 rfl rfl dT_add_15 (by omega) (by omega) ?_
    refine tp_i (y := nI (Zb j)) rfl ?_
    refine lv_if_eq (tgt := 22) hx hb dT_add_16 (by decide) (fun c_16 => ?_) (fun c_16 => ?_)
    · skip
      rw [← nI_0] at c_16
      have c_16 : (Zb j) = 0 := n_eq c_16 (by omega) (by omega)
      refine lv_lload hx hb dT_add_22 (lv_at hl 3 rfl) ?_
      refine lv_aload_n hx hb dT_add_24 rfl (lv_at hl 0 rfl) ?_
      refine lv_iload_n hx hb dT_add_25 rfl (lv_at hl 1 rfl) ?_
      refine ro_kl (va_runV (As := [.int (nI j)]) (rest := [.long b]) ⟨hx, hb, hml, hown, hts⟩ (c_must_same l D cI cJ cZ o rm n bs aP aH aC aT aB aZ aW aR oR oW Hh Bt j (by omega) (by omega) (by omega) (by omega) h8) (cwV 1 hts gT_add_T_must_80 rfl rfl rfl (by decide +kernel) ⟨Nat.le_of_ble_eq_true rfl, Nat.le_of_ble_eq_true rfl⟩) (ro_preV (hP.sub [0, 2, 4] rfl) hK (va_recv hK hP (ci := 2) (q0 := 0) rfl rfl)) rfl rfl hl.1 rfl (lv_room (Nat.le_of_ble_eq_true rfl)) dT_add_26 ⟨Nat.le_of_ble_eq_true rfl, Nat.le_of_ble_eq_true rfl⟩) ?_
      refine lc_eq (tgt := 36) hx hb dT_add_29 dT_add_30 (by decide) (fun c_30 => ?_) (fun c_30 => ?_)
      · skip
        refine lv_lload_n hx hb dT_add_36 rfl (lv_at hl 2 rfl) ?_
        refine lv_aload_n hx hb dT_add_37 rfl (lv_at hl 0 rfl) ?_
        refine lv_iload_n hx hb dT_add_38 rfl (lv_at hl 1 rfl) ?_
        refine rw_k (wc := [(o, .inr (2, [.int (nI rm), .int (nI n), .int (nI bs), .ref aP, .ref aH, .ref aC, .ref aT, .ref aB, .ref aZ, .ref aW, .ref aR, .ref oR, .ref oW])), (aP, .inl (cI, rm, .inl (pF P))), (aT, .inl (cJ, rm, .inr (.inl Tm))), (aR, .inl (cJ, 11, .inr (.inl Rk)))]) (wr := [(aH, .inl (cI, rm, .inl (nF Hh))), (aB, .inl (cJ, rm, .inr (.inl Bt))), (aZ, .inl (cZ, rm, .inl (nF Zb))), (oR, .inr (0, [.ref aQ])), (aQ, .inl (cJ, 9, .inr (.inl pr)))]) (va_runV (As := [.int (nI j)]) (rest := [.long t]) ⟨hx, hb, hml, hown, hts⟩ (c_median_ok l D cI cJ cZ o rm n bs aP aH aC aT aB aZ aW aR oR oW P Tm Rk j (by omega) (by omega) (by omega) hpar H.size) (cwV 1 hts gT_add_T_median_84 rfl rfl rfl (by decide +kernel) ⟨Nat.le_of_ble_eq_true rfl, Nat.le_of_ble_eq_true rfl⟩) (rw_preV (hP.sub [0, 1, 3, 6] rfl) hK (hD.sub [0, 1, 3, 6] (by decide) rfl) (va_recv hK hP (ci := 2) (q0 := 0) rfl rfl)) rfl rfl hl.1 rfl (lv_room (Nat.le_of_ble_eq_true rfl)) dT_add_39 ⟨Nat.le_of_ble_eq_true rfl, Nat.le_of_ble_eq_true rfl⟩) hP hD hS hA [0, 1, 3, 6] [2, 4, 5, 7, 8] rfl rfl (by decide) (by decide) (fun v9 w9 H locs hp9 hP hD hS => ?_)
        obtain ⟨rfl, rfl⟩ := hp9
        have hP : va_P D vwCl [(aH, .inl (cI, rm, .inl (nF Hh))), (aB, .inl (cJ, rm, .inr (.inl Bt))), (aZ, .inl (cZ, rm, .inl (nF Zb))), (oR, .inr (0, [.ref aQ])), (aQ, .inl (cJ, 9, .inr (.inl pr))), (o, .inr (2, [.int (nI rm), .int (nI n), .int (nI bs), .ref aP, .ref aH, .ref aC, .ref aT, .ref aB, .ref aZ, .ref aW, .ref aR, .ref oR, .ref oW])), (aP, .inl (cI, rm, .inl (pF P))), (aT, .inl (cJ, rm, .inr (.inl Tm))), (aR, .inl (cJ, 11, .inr (.inl ((m_med P Tm 11 0 (j + 1) Rk).1))))] H := hP
        have hD : va_D A [(aH, .inl (cI, rm, .inl (nF Hh))), (aB, .inl (cJ, rm, .inr (.inl Bt))), (aZ, .inl (cZ, rm, .inl (nF Zb))), (oR, .inr (0, [.ref aQ])), (aQ, .inl (cJ, 9, .inr (.inl pr))), (o, .inr (2, [.int (nI rm), .int (nI n), .int (nI bs), .ref aP, .ref aH, .ref aC, .ref aT, .ref aB, .ref aZ, .ref aW, .ref aR, .ref oR, .ref oW])), (aP, .inl (cI, rm, .inl (pF P))), (aT, .inl (cJ, rm, .inr (.inl Tm))), (aR, .inl (cJ, 11, .inr (.inl ((m_med P Tm 11 0 (j + 1) Rk).1))))] := hD
        refine W.eq (g2 := F0 m 42 ls [.long ((m_med P Tm 11 0 (j + 1) Rk).1 ((m_med P Tm 11 0 (j + 1) Rk).2 / 2)), .long t]) rfl ?_
        refine lc_le (tgt := 54) hx hb dT_add_42 dT_add_43 (by decide) (fun c_43 => ?_) (fun c_43 => ?_)
        · skip
          refine lv_bipush (v := (-4)) hx hb dT_add_54 (by decide) ?_
          exact rw_iret (w := [(o, .inr (2, [.int (nI rm), .int (nI n), .int (nI bs), .ref aP, .ref aH, .ref aC, .ref aT, .ref aB, .ref aZ, .ref aW, .ref aR, .ref oR, .ref oW])), (aP, .inl (cI, rm, .inl (pF P))), (aH, .inl (cI, rm, .inl (nF Hh))), (aT, .inl (cJ, rm, .inr (.inl Tm))), (aB, .inl (cJ, rm, .inr (.inl Bt))), (aZ, .inl (cZ, rm, .inl (nF Zb))), (aR, .inl (cJ, 11, .inr (.inl ((m_med P Tm 11 0 (j + 1) Rk).1)))), (oR, .inr (0, [.ref aQ])), (aQ, .inl (cJ, 9, .inr (.inl pr)))]) hQ hx hb hr hlocks dT_add_56 (hP.sub [5, 6, 0, 7, 1, 2, 8, 3, 4] rfl) (hD.sub [5, 6, 0, 7, 1, 2, 8, 3, 4] (by decide) rfl) hS ⟨rfl, rfl⟩
        · skip
          refine lv_lload_n hx hb dT_add_46 rfl (lv_at hl 2 rfl) ?_
          refine lv_ldc2 (v := 4294967295) hx hb hown (hts (.constantLong RT 56 4294967295) (by decide +kernel)) dT_add_47 ?_
          refine lc_le (tgt := 57) hx hb dT_add_50 dT_add_51 (by decide) (fun c_51 => ?_) (fun c_51 => ?_)
          · skip
            exact absurd ⟨Int64.not_le.mp c_43, c_51⟩ ht9
          · skip
            refine lv_bipush (v := (-4)) hx hb dT_add_54 (by decide) ?_
            exact rw_iret (w := [(o, .inr (2, [.int (nI rm), .int (nI n), .int (nI bs), .ref aP, .ref aH, .ref aC, .ref aT, .ref aB, .ref aZ, .ref aW, .ref aR, .ref oR, .ref oW])), (aP, .inl (cI, rm, .inl (pF P))), (aH, .inl (cI, rm, .inl (nF Hh))), (aT, .inl (cJ, rm, .inr (.inl Tm))), (aB, .inl (cJ, rm, .inr (.inl Bt))), (aZ, .inl (cZ, rm, .inl (nF Zb))), (aR, .inl (cJ, 11, .inr (.inl ((m_med P Tm 11 0 (j + 1) Rk).1)))), (oR, .inr (0, [.ref aQ])), (aQ, .inl (cJ, 9, .inr (.inl pr)))]) hQ hx hb hr hlocks dT_add_56 (hP.sub [5, 6, 0, 7, 1, 2, 8, 3, 4] rfl) (hD.sub [5, 6, 0, 7, 1, 2, 8, 3, 4] (by decide) rfl) hS ⟨rfl, rfl⟩
      · skip
        exact absurd hb9 c_30
    · skip
      rw [← nI_0] at c_16
      have c_16 : ¬ (Zb j) = 0 := n_ne c_16
      omega
  · skip
    rw [← nI_0] at c_5
    have c_5 : 1 = 0 := n_eq c_5 (by omega) (by omega)
    omega

abbrev rm_c_add_fullS : Room := { frames := 2, cells := 0, slots := 0, locals := 47 }
set_option maxRecDepth 100000 in
set_option maxHeartbeats 4000000 in
theorem c_add_fullS (l : Launch) (D : va_G) (cI cJ cZ : ClassId) (o : Nat) (rm : Nat) (n : Nat) (bs : Nat) (aP : Nat) (aH : Nat) (aC : Nat) (aT : Nat) (aB : Nat) (aZ : Nat) (aW : Nat) (aR : Nat) (oR : Nat) (oW : Nat) (P : Nat → Nat) (Hh : Nat → Nat) (Tm : Nat → Int64) (Bt : Nat → Int64) (Zb : Nat → Nat) (Rk : Nat → Int64) (aQ : Nat) (pr : Nat → Int64) (j : Nat) (t : Int64) (b : Int64) (hn3 : n ≤ rm) (hr3 : rm ≤ 300) (hj : j < n) (hHj : Hh j < 300) (hz0 : Zb j = 0) (h8 : ¬ (Hh j + 1) % 8 = 0) (hb9 : b = Bt j) (ht9 : (m_med P Tm 11 0 (j + 1) Rk).1 ((m_med P Tm 11 0 (j + 1) Rk).2 / 2) < t) (ht8 : t ≤ 4294967295) (hfl : n = rm) (hpar : ∀ x : Nat, 0 < x → x < n → P x < x) : rw_C l yT_add wT_add rm_c_add_fullS D vwCl (gT cI cJ cZ) [.ref o, .int (nI j), .long t, .long b] [(o, .inr (2, [.int (nI rm), .int (nI n), .int (nI bs), .ref aP, .ref aH, .ref aC, .ref aT, .ref aB, .ref aZ, .ref aW, .ref aR, .ref oR, .ref oW])), (aP, .inl (cI, rm, .inl (pF P))), (aH, .inl (cI, rm, .inl (nF Hh))), (aT, .inl (cJ, rm, .inr (.inl Tm))), (aB, .inl (cJ, rm, .inr (.inl Bt))), (aZ, .inl (cZ, rm, .inl (nF Zb))), (aR, .inl (cJ, 11, .inr (.inl Rk))), (oR, .inr (0, [.ref aQ])), (aQ, .inl (cJ, 9, .inr (.inl pr)))] (fun v9 w9 => v9 = some (.int (-5)) ∧ w9 = [(o, .inr (2, [.int (nI rm), .int (nI n), .int (nI bs), .ref aP, .ref aH, .ref aC, .ref aT, .ref aB, .ref aZ, .ref aW, .ref aR, .ref oR, .ref oW])), (aP, .inl (cI, rm, .inl (pF P))), (aH, .inl (cI, rm, .inl (nF Hh))), (aT, .inl (cJ, rm, .inr (.inl Tm))), (aB, .inl (cJ, rm, .inr (.inl Bt))), (aZ, .inl (cZ, rm, .inl (nF Zb))), (aR, .inl (cJ, 11, .inr (.inl ((m_med P Tm 11 0 (j + 1) Rk).1)))), (oR, .inr (0, [.ref aQ])), (aQ, .inl (cJ, 9, .inr (.inl pr)))]) 0 0 := by
  refine rw_of (cc := cT_add) (maxL := 6) (ret := some .int) (by decide) rfl (Nat.le_of_ble_eq_true rfl) ?_
  intro p e s m args below meth c Q A ls hx hb hr hml hown hts hlocks hin hK hP hD hA hl hQ
  have hS : va_S A s.heap s.heap [] := va_S.rf
  have hl : lv_has ls 6 [(0, .ref o), (1, .int (nI j)), (2, .long t), (4, .long b)] := hl
  have hown : s.vm.findClass RT = some m.cls := hown
  obtain ⟨H, hHe⟩ : ∃ H : Heap, H = s.heap := ⟨_, rfl⟩
  rw [← hHe] at hP
  have hS : va_S A s.heap H [] := by rw [hHe]; exact va_S.rf
  suffices h9 : W p l e rm_c_add_fullS s m args below meth c H [] 0 0 Q (F0 m 0 ls []) by rw [hHe] at h9; exact h9
  clear hHe
  refine lv_aload_n hx hb dT_add_0 rfl (lv_at hl 0 rfl) ?_
  refine lv_iload_n hx hb dT_add_1 rfl (lv_at hl 1 rfl) ?_
  refine ro_ki (va_runV (As := [.int (nI j)]) (rest := []) ⟨hx, hb, hml, hown, hts⟩ (c_isBlock_ok l D cI cJ cZ o rm n bs aP aH aC aT aB aZ aW aR oR oW j (by omega) (by omega)) (cwV 1 hts gT_add_T_isBlock_76 rfl rfl rfl (by decide +kernel) ⟨Nat.le_of_ble_eq_true rfl, Nat.le_of_ble_eq_true rfl⟩) (ro_preV (hP.sub [0] rfl) hK (va_recv hK hP (ci := 2) (q0 := 0) rfl rfl)) rfl rfl hl.1 rfl (lv_room (Nat.le_of_ble_eq_true rfl)) dT_add_2 ⟨Nat.le_of_ble_eq_true rfl, Nat.le_of_ble_eq_true rfl⟩) ?_
  refine lv_if_ne (tgt := 10) hx hb dT_add_5 (by decide) (fun c_5 => ?_) (fun c_5 => ?_)
  · skip
    rw [← nI_0] at c_5
    have c_5 : ¬ 1 = 0 := n_ne c_5
    refine lv_aload_n hx hb dT_add_10 rfl (lv_at hl 0 rfl) ?_
    refine va_get (D := D) (ci := 2) (v := .ref aZ) (C := RT) (T := TT) (N := 13) hx hb hts iT_add_T hown hK hP 0 rfl rfl 8 (by decide) (hts (.fieldLink RT 30 "TreeDesk" "bad" "[Z") (by decide +kernel)) (fun _ h9 => h9) rfl dT_add_11 ?_
    refine lv_iload_n hx hb dT_add_14 rfl (lv_at hl 1 rfl) ?_
    refine ar_zld (j := j) hx hb hK hP 5 2 rfl rfl dT_add_15 (by omega) (by omega) ?_
    refine tp_i (y := nI (Zb j)) rfl ?_
    refine lv_if_eq (tgt := 22) hx hb dT_add_16 (by decide) (fun c_16 => ?_) (fun c_16 => ?_)
    · skip
      rw [← nI_0] at c_16
      have c_16 : (Zb j) = 0 := n_eq c_16 (by omega) (by omega)
      refine lv_lload hx hb dT_add_22 (lv_at hl 3 rfl) ?_
      refine lv_aload_n hx hb dT_add_24 rfl (lv_at hl 0 rfl) ?_
      refine lv_iload_n hx hb dT_add_25 rfl (lv_at hl 1 rfl) ?_
      refine ro_kl (va_runV (As := [.int (nI j)]) (rest := [.long b]) ⟨hx, hb, hml, hown, hts⟩ (c_must_same l D cI cJ cZ o rm n bs aP aH aC aT aB aZ aW aR oR oW Hh Bt j (by omega) (by omega) (by omega) (by omega) h8) (cwV 1 hts gT_add_T_must_80 rfl rfl rfl (by decide +kernel) ⟨Nat.le_of_ble_eq_true rfl, Nat.le_of_ble_eq_true rfl⟩) (ro_preV (hP.sub [0, 2, 4] rfl) hK (va_recv hK hP (ci := 2) (q0 := 0) rfl rfl)) rfl rfl hl.1 rfl (lv_room (Nat.le_of_ble_eq_true rfl)) dT_add_26 ⟨Nat.le_of_ble_eq_true rfl, Nat.le_of_ble_eq_true rfl⟩) ?_
      refine lc_eq (tgt := 36) hx hb dT_add_29 dT_add_30 (by decide) (fun c_30 => ?_) (fun c_30 => ?_)
      · skip
        refine lv_lload_n hx hb dT_add_36 rfl (lv_at hl 2 rfl) ?_
        refine lv_aload_n hx hb dT_add_37 rfl (lv_at hl 0 rfl) ?_
        refine lv_iload_n hx hb dT_add_38 rfl (lv_at hl 1 rfl) ?_
        refine rw_k (wc := [(o, .inr (2, [.int (nI rm), .int (nI n), .int (nI bs), .ref aP, .ref aH, .ref aC, .ref aT, .ref aB, .ref aZ, .ref aW, .ref aR, .ref oR, .ref oW])), (aP, .inl (cI, rm, .inl (pF P))), (aT, .inl (cJ, rm, .inr (.inl Tm))), (aR, .inl (cJ, 11, .inr (.inl Rk)))]) (wr := [(aH, .inl (cI, rm, .inl (nF Hh))), (aB, .inl (cJ, rm, .inr (.inl Bt))), (aZ, .inl (cZ, rm, .inl (nF Zb))), (oR, .inr (0, [.ref aQ])), (aQ, .inl (cJ, 9, .inr (.inl pr)))]) (va_runV (As := [.int (nI j)]) (rest := [.long t]) ⟨hx, hb, hml, hown, hts⟩ (c_median_ok l D cI cJ cZ o rm n bs aP aH aC aT aB aZ aW aR oR oW P Tm Rk j (by omega) (by omega) (by omega) hpar H.size) (cwV 1 hts gT_add_T_median_84 rfl rfl rfl (by decide +kernel) ⟨Nat.le_of_ble_eq_true rfl, Nat.le_of_ble_eq_true rfl⟩) (rw_preV (hP.sub [0, 1, 3, 6] rfl) hK (hD.sub [0, 1, 3, 6] (by decide) rfl) (va_recv hK hP (ci := 2) (q0 := 0) rfl rfl)) rfl rfl hl.1 rfl (lv_room (Nat.le_of_ble_eq_true rfl)) dT_add_39 ⟨Nat.le_of_ble_eq_true rfl, Nat.le_of_ble_eq_true rfl⟩) hP hD hS hA [0, 1, 3, 6] [2, 4, 5, 7, 8] rfl rfl (by decide) (by decide) (fun v9 w9 H locs hp9 hP hD hS => ?_)
        obtain ⟨rfl, rfl⟩ := hp9
        have hP : va_P D vwCl [(aH, .inl (cI, rm, .inl (nF Hh))), (aB, .inl (cJ, rm, .inr (.inl Bt))), (aZ, .inl (cZ, rm, .inl (nF Zb))), (oR, .inr (0, [.ref aQ])), (aQ, .inl (cJ, 9, .inr (.inl pr))), (o, .inr (2, [.int (nI rm), .int (nI n), .int (nI bs), .ref aP, .ref aH, .ref aC, .ref aT, .ref aB, .ref aZ, .ref aW, .ref aR, .ref oR, .ref oW])), (aP, .inl (cI, rm, .inl (pF P))), (aT, .inl (cJ, rm, .inr (.inl Tm))), (aR, .inl (cJ, 11, .inr (.inl ((m_med P Tm 11 0 (j + 1) Rk).1))))] H := hP
        have hD : va_D A [(aH, .inl (cI, rm, .inl (nF Hh))), (aB, .inl (cJ, rm, .inr (.inl Bt))), (aZ, .inl (cZ, rm, .inl (nF Zb))), (oR, .inr (0, [.ref aQ])), (aQ, .inl (cJ, 9, .inr (.inl pr))), (o, .inr (2, [.int (nI rm), .int (nI n), .int (nI bs), .ref aP, .ref aH, .ref aC, .ref aT, .ref aB, .ref aZ, .ref aW, .ref aR, .ref oR, .ref oW])), (aP, .inl (cI, rm, .inl (pF P))), (aT, .inl (cJ, rm, .inr (.inl Tm))), (aR, .inl (cJ, 11, .inr (.inl ((m_med P Tm 11 0 (j + 1) Rk).1))))] := hD
        refine W.eq (g2 := F0 m 42 ls [.long ((m_med P Tm 11 0 (j + 1) Rk).1 ((m_med P Tm 11 0 (j + 1) Rk).2 / 2)), .long t]) rfl ?_
        refine lc_le (tgt := 54) hx hb dT_add_42 dT_add_43 (by decide) (fun c_43 => ?_) (fun c_43 => ?_)
        · skip
          exact absurd ht9 (Int64.not_lt.mpr c_43)
        · skip
          refine lv_lload_n hx hb dT_add_46 rfl (lv_at hl 2 rfl) ?_
          refine lv_ldc2 (v := 4294967295) hx hb hown (hts (.constantLong RT 56 4294967295) (by decide +kernel)) dT_add_47 ?_
          refine lc_le (tgt := 57) hx hb dT_add_50 dT_add_51 (by decide) (fun c_51 => ?_) (fun c_51 => ?_)
          · skip
            refine lv_aload_n hx hb dT_add_57 rfl (lv_at hl 0 rfl) ?_
            refine va_get (D := D) (ci := 2) (v := .int (nI n)) (C := RT) (T := TT) (N := 13) hx hb hts iT_add_T hown hK hP 5 rfl rfl 1 (by decide) (hts (.fieldLink RT 70 "TreeDesk" "count" "I") (by decide +kernel)) (fun _ h9 => h9) rfl dT_add_58 ?_
            refine lv_aload_n hx hb dT_add_61 rfl (lv_at hl 0 rfl) ?_
            refine va_get (D := D) (ci := 2) (v := .int (nI rm)) (C := RT) (T := TT) (N := 13) hx hb hts iT_add_T hown hK hP 5 rfl rfl 0 (by decide) (hts (.fieldLink RT 9 "TreeDesk" "room" "I") (by decide +kernel)) (fun _ h9 => h9) rfl dT_add_62 ?_
            refine lv_icmp_lt (tgt := 71) hx hb dT_add_65 (by decide) (fun c_65 => ?_) (fun c_65 => ?_)
            · skip
              have c_65 : n < rm := n_lt c_65 (by omega) (by omega)
              omega
            · skip
              have c_65 : rm ≤ n := n_nlt c_65 (by omega) (by omega)
              refine lv_bipush (v := (-5)) hx hb dT_add_68 (by decide) ?_
              exact rw_iret (w := [(o, .inr (2, [.int (nI rm), .int (nI n), .int (nI bs), .ref aP, .ref aH, .ref aC, .ref aT, .ref aB, .ref aZ, .ref aW, .ref aR, .ref oR, .ref oW])), (aP, .inl (cI, rm, .inl (pF P))), (aH, .inl (cI, rm, .inl (nF Hh))), (aT, .inl (cJ, rm, .inr (.inl Tm))), (aB, .inl (cJ, rm, .inr (.inl Bt))), (aZ, .inl (cZ, rm, .inl (nF Zb))), (aR, .inl (cJ, 11, .inr (.inl ((m_med P Tm 11 0 (j + 1) Rk).1)))), (oR, .inr (0, [.ref aQ])), (aQ, .inl (cJ, 9, .inr (.inl pr)))]) hQ hx hb hr hlocks dT_add_70 (hP.sub [5, 6, 0, 7, 1, 2, 8, 3, 4] rfl) (hD.sub [5, 6, 0, 7, 1, 2, 8, 3, 4] (by decide) rfl) hS ⟨rfl, rfl⟩
          · skip
            exact absurd ht8 c_51
      · skip
        exact absurd hb9 c_30
    · skip
      rw [← nI_0] at c_16
      have c_16 : ¬ (Zb j) = 0 := n_ne c_16
      omega
  · skip
    rw [← nI_0] at c_5
    have c_5 : 1 = 0 := n_eq c_5 (by omega) (by omega)
    omega

abbrev rm_c_add_bitsR : Room := { frames := 6, cells := 0, slots := 0, locals := 154 }
set_option maxRecDepth 100000 in
set_option maxHeartbeats 4000000 in
theorem c_add_bitsR (l : Launch) (D : va_G) (cI cJ cZ : ClassId) (o : Nat) (rm : Nat) (n : Nat) (bs : Nat) (aP : Nat) (aH : Nat) (aC : Nat) (aT : Nat) (aB : Nat) (aZ : Nat) (aW : Nat) (aR : Nat) (oR : Nat) (oW : Nat) (P : Nat → Nat) (Hh : Nat → Nat) (Tm : Nat → Int64) (Bt : Nat → Int64) (Zb : Nat → Nat) (Rk : Nat → Int64) (aQ : Nat) (pr : Nat → Int64) (j : Nat) (t : Int64) (b : Int64) (hn3 : n ≤ rm) (hr3 : rm ≤ 300) (hj : j < n) (hHj : Hh j < 300) (hz0 : Zb j = 0) (h8 : (Hh j + 1) % 8 = 0) (hb9 : ¬ b = m_next (m_pr (Bt j) (Tm j - Tm (m_anc P (Hh j - (Hh j - 7)) j)) pr)) (hpar : ∀ x : Nat, 0 < x → x < n → P x < x) : rw_C l yT_add wT_add rm_c_add_bitsR D vwCl (gT cI cJ cZ) [.ref o, .int (nI j), .long t, .long b] [(o, .inr (2, [.int (nI rm), .int (nI n), .int (nI bs), .ref aP, .ref aH, .ref aC, .ref aT, .ref aB, .ref aZ, .ref aW, .ref aR, .ref oR, .ref oW])), (aP, .inl (cI, rm, .inl (pF P))), (aH, .inl (cI, rm, .inl (nF Hh))), (aT, .inl (cJ, rm, .inr (.inl Tm))), (aB, .inl (cJ, rm, .inr (.inl Bt))), (aZ, .inl (cZ, rm, .inl (nF Zb))), (aR, .inl (cJ, 11, .inr (.inl Rk))), (oR, .inr (0, [.ref aQ])), (aQ, .inl (cJ, 9, .inr (.inl pr)))] (fun v9 w9 => v9 = some (.int (-3)) ∧ w9 = [(o, .inr (2, [.int (nI rm), .int (nI n), .int (nI bs), .ref aP, .ref aH, .ref aC, .ref aT, .ref aB, .ref aZ, .ref aW, .ref aR, .ref oR, .ref oW])), (aP, .inl (cI, rm, .inl (pF P))), (aH, .inl (cI, rm, .inl (nF Hh))), (aT, .inl (cJ, rm, .inr (.inl Tm))), (aB, .inl (cJ, rm, .inr (.inl Bt))), (aZ, .inl (cZ, rm, .inl (nF Zb))), (aR, .inl (cJ, 11, .inr (.inl Rk))), (oR, .inr (0, [.ref aQ])), (aQ, .inl (cJ, 9, .inr (.inl (m_pr (Bt j) (Tm j - Tm (m_anc P (Hh j - (Hh j - 7)) j)) pr))))]) 0 0 := by
  refine rw_of (cc := cT_add) (maxL := 6) (ret := some .int) (by decide) rfl (Nat.le_of_ble_eq_true rfl) ?_
  intro p e s m args below meth c Q A ls hx hb hr hml hown hts hlocks hin hK hP hD hA hl hQ
  have hS : va_S A s.heap s.heap [] := va_S.rf
  have hl : lv_has ls 6 [(0, .ref o), (1, .int (nI j)), (2, .long t), (4, .long b)] := hl
  have hown : s.vm.findClass RT = some m.cls := hown
  obtain ⟨H, hHe⟩ : ∃ H : Heap, H = s.heap := ⟨_, rfl⟩
  rw [← hHe] at hP
  have hS : va_S A s.heap H [] := by rw [hHe]; exact va_S.rf
  suffices h9 : W p l e rm_c_add_bitsR s m args below meth c H [] 0 0 Q (F0 m 0 ls []) by rw [hHe] at h9; exact h9
  clear hHe
  refine lv_aload_n hx hb dT_add_0 rfl (lv_at hl 0 rfl) ?_
  refine lv_iload_n hx hb dT_add_1 rfl (lv_at hl 1 rfl) ?_
  refine ro_ki (va_runV (As := [.int (nI j)]) (rest := []) ⟨hx, hb, hml, hown, hts⟩ (c_isBlock_ok l D cI cJ cZ o rm n bs aP aH aC aT aB aZ aW aR oR oW j (by omega) (by omega)) (cwV 1 hts gT_add_T_isBlock_76 rfl rfl rfl (by decide +kernel) ⟨Nat.le_of_ble_eq_true rfl, Nat.le_of_ble_eq_true rfl⟩) (ro_preV (hP.sub [0] rfl) hK (va_recv hK hP (ci := 2) (q0 := 0) rfl rfl)) rfl rfl hl.1 rfl (lv_room (Nat.le_of_ble_eq_true rfl)) dT_add_2 ⟨Nat.le_of_ble_eq_true rfl, Nat.le_of_ble_eq_true rfl⟩) ?_
  refine lv_if_ne (tgt := 10) hx hb dT_add_5 (by decide) (fun c_5 => ?_) (fun c_5 => ?_)
  · skip
    rw [← nI_0] at c_5
    have c_5 : ¬ 1 = 0 := n_ne c_5
    refine lv_aload_n hx hb dT_add_10 rfl (lv_at hl 0 rfl) ?_
    refine va_get (D := D) (ci := 2) (v := .ref aZ) (C := RT) (T := TT) (N := 13) hx hb hts iT_add_T hown hK hP 0 rfl rfl 8 (by decide) (hts (.fieldLink RT 30 "TreeDesk" "bad" "[Z") (by decide +kernel)) (fun _ h9 => h9) rfl dT_add_11 ?_
    refine lv_iload_n hx hb dT_add_14 rfl (lv_at hl 1 rfl) ?_
    refine ar_zld (j := j) hx hb hK hP 5 2 rfl rfl dT_add_15 (by omega) (by omega) ?_
    refine tp_i (y := nI (Zb j)) rfl ?_
    refine lv_if_eq (tgt := 22) hx hb dT_add_16 (by decide) (fun c_16 => ?_) (fun c_16 => ?_)
    · skip
      rw [← nI_0] at c_16
      have c_16 : (Zb j) = 0 := n_eq c_16 (by omega) (by omega)
      refine lv_lload hx hb dT_add_22 (lv_at hl 3 rfl) ?_
      refine lv_aload_n hx hb dT_add_24 rfl (lv_at hl 0 rfl) ?_
      refine lv_iload_n hx hb dT_add_25 rfl (lv_at hl 1 rfl) ?_
      refine rw_k (wc := [(o, .inr (2, [.int (nI rm), .int (nI n), .int (nI bs), .ref aP, .ref aH, .ref aC, .ref aT, .ref aB, .ref aZ, .ref aW, .ref aR, .ref oR, .ref oW])), (aP, .inl (cI, rm, .inl (pF P))), (aH, .inl (cI, rm, .inl (nF Hh))), (aT, .inl (cJ, rm, .inr (.inl Tm))), (aB, .inl (cJ, rm, .inr (.inl Bt))), (oR, .inr (0, [.ref aQ])), (aQ, .inl (cJ, 9, .inr (.inl pr)))]) (wr := [(aZ, .inl (cZ, rm, .inl (nF Zb))), (aR, .inl (cJ, 11, .inr (.inl Rk)))]) (va_runV (As := [.int (nI j)]) (rest := [.long b]) ⟨hx, hb, hml, hown, hts⟩ (c_must_ret l D cI cJ cZ o rm n bs aP aH aC aT aB aZ aW aR oR oW P Hh Tm Bt aQ pr j (by omega) (by omega) (by omega) (by omega) h8 hpar H.size) (cwV 1 hts gT_add_T_must_80 rfl rfl rfl (by decide +kernel) ⟨Nat.le_of_ble_eq_true rfl, Nat.le_of_ble_eq_true rfl⟩) (rw_preV (hP.sub [0, 1, 2, 3, 4, 7, 8] rfl) hK (hD.sub [0, 1, 2, 3, 4, 7, 8] (by decide) rfl) (va_recv hK hP (ci := 2) (q0 := 0) rfl rfl)) rfl rfl hl.1 rfl (lv_room (Nat.le_of_ble_eq_true rfl)) dT_add_26 ⟨Nat.le_of_ble_eq_true rfl, Nat.le_of_ble_eq_true rfl⟩) hP hD hS hA [0, 1, 2, 3, 4, 7, 8] [5, 6] rfl rfl (by decide) (by decide) (fun v9 w9 H locs hp9 hP hD hS => ?_)
      obtain ⟨rfl, rfl⟩ := hp9
      have hP : va_P D vwCl [(aZ, .inl (cZ, rm, .inl (nF Zb))), (aR, .inl (cJ, 11, .inr (.inl Rk))), (o, .inr (2, [.int (nI rm), .int (nI n), .int (nI bs), .ref aP, .ref aH, .ref aC, .ref aT, .ref aB, .ref aZ, .ref aW, .ref aR, .ref oR, .ref oW])), (aP, .inl (cI, rm, .inl (pF P))), (aH, .inl (cI, rm, .inl (nF Hh))), (aT, .inl (cJ, rm, .inr (.inl Tm))), (aB, .inl (cJ, rm, .inr (.inl Bt))), (oR, .inr (0, [.ref aQ])), (aQ, .inl (cJ, 9, .inr (.inl (m_pr (Bt j) (Tm j - Tm (m_anc P (Hh j - (Hh j - 7)) j)) pr))))] H := hP
      have hD : va_D A [(aZ, .inl (cZ, rm, .inl (nF Zb))), (aR, .inl (cJ, 11, .inr (.inl Rk))), (o, .inr (2, [.int (nI rm), .int (nI n), .int (nI bs), .ref aP, .ref aH, .ref aC, .ref aT, .ref aB, .ref aZ, .ref aW, .ref aR, .ref oR, .ref oW])), (aP, .inl (cI, rm, .inl (pF P))), (aH, .inl (cI, rm, .inl (nF Hh))), (aT, .inl (cJ, rm, .inr (.inl Tm))), (aB, .inl (cJ, rm, .inr (.inl Bt))), (oR, .inr (0, [.ref aQ])), (aQ, .inl (cJ, 9, .inr (.inl (m_pr (Bt j) (Tm j - Tm (m_anc P (Hh j - (Hh j - 7)) j)) pr))))] := hD
      refine W.eq (g2 := F0 m 29 ls [.long (m_next (m_pr (Bt j) (Tm j - Tm (m_anc P (Hh j - (Hh j - 7)) j)) pr)), .long b]) rfl ?_
      refine lc_eq (tgt := 36) hx hb dT_add_29 dT_add_30 (by decide) (fun c_30 => ?_) (fun c_30 => ?_)
      · skip
        exact absurd c_30 hb9
      · skip
        refine lv_bipush (v := (-3)) hx hb dT_add_33 (by decide) ?_
        exact rw_iret (w := [(o, .inr (2, [.int (nI rm), .int (nI n), .int (nI bs), .ref aP, .ref aH, .ref aC, .ref aT, .ref aB, .ref aZ, .ref aW, .ref aR, .ref oR, .ref oW])), (aP, .inl (cI, rm, .inl (pF P))), (aH, .inl (cI, rm, .inl (nF Hh))), (aT, .inl (cJ, rm, .inr (.inl Tm))), (aB, .inl (cJ, rm, .inr (.inl Bt))), (aZ, .inl (cZ, rm, .inl (nF Zb))), (aR, .inl (cJ, 11, .inr (.inl Rk))), (oR, .inr (0, [.ref aQ])), (aQ, .inl (cJ, 9, .inr (.inl (m_pr (Bt j) (Tm j - Tm (m_anc P (Hh j - (Hh j - 7)) j)) pr))))]) hQ hx hb hr hlocks dT_add_35 (hP.sub [2, 3, 4, 5, 6, 0, 1, 7, 8] rfl) (hD.sub [2, 3, 4, 5, 6, 0, 1, 7, 8] (by decide) rfl) hS ⟨rfl, rfl⟩
    · skip
      rw [← nI_0] at c_16
      have c_16 : ¬ (Zb j) = 0 := n_ne c_16
      omega
  · skip
    rw [← nI_0] at c_5
    have c_5 : 1 = 0 := n_eq c_5 (by omega) (by omega)
    omega

abbrev rm_c_add_timeR : Room := { frames := 6, cells := 0, slots := 0, locals := 154 }
set_option maxRecDepth 100000 in
set_option maxHeartbeats 4000000 in
theorem c_add_timeR (l : Launch) (D : va_G) (cI cJ cZ : ClassId) (o : Nat) (rm : Nat) (n : Nat) (bs : Nat) (aP : Nat) (aH : Nat) (aC : Nat) (aT : Nat) (aB : Nat) (aZ : Nat) (aW : Nat) (aR : Nat) (oR : Nat) (oW : Nat) (P : Nat → Nat) (Hh : Nat → Nat) (Tm : Nat → Int64) (Bt : Nat → Int64) (Zb : Nat → Nat) (Rk : Nat → Int64) (aQ : Nat) (pr : Nat → Int64) (j : Nat) (t : Int64) (b : Int64) (hn3 : n ≤ rm) (hr3 : rm ≤ 300) (hj : j < n) (hHj : Hh j < 300) (hz0 : Zb j = 0) (h8 : (Hh j + 1) % 8 = 0) (hb9 : b = m_next (m_pr (Bt j) (Tm j - Tm (m_anc P (Hh j - (Hh j - 7)) j)) pr)) (ht9 : ¬ ((m_med P Tm 11 0 (j + 1) Rk).1 ((m_med P Tm 11 0 (j + 1) Rk).2 / 2) < t ∧ t ≤ 4294967295)) (hpar : ∀ x : Nat, 0 < x → x < n → P x < x) : rw_C l yT_add wT_add rm_c_add_timeR D vwCl (gT cI cJ cZ) [.ref o, .int (nI j), .long t, .long b] [(o, .inr (2, [.int (nI rm), .int (nI n), .int (nI bs), .ref aP, .ref aH, .ref aC, .ref aT, .ref aB, .ref aZ, .ref aW, .ref aR, .ref oR, .ref oW])), (aP, .inl (cI, rm, .inl (pF P))), (aH, .inl (cI, rm, .inl (nF Hh))), (aT, .inl (cJ, rm, .inr (.inl Tm))), (aB, .inl (cJ, rm, .inr (.inl Bt))), (aZ, .inl (cZ, rm, .inl (nF Zb))), (aR, .inl (cJ, 11, .inr (.inl Rk))), (oR, .inr (0, [.ref aQ])), (aQ, .inl (cJ, 9, .inr (.inl pr)))] (fun v9 w9 => v9 = some (.int (-4)) ∧ w9 = [(o, .inr (2, [.int (nI rm), .int (nI n), .int (nI bs), .ref aP, .ref aH, .ref aC, .ref aT, .ref aB, .ref aZ, .ref aW, .ref aR, .ref oR, .ref oW])), (aP, .inl (cI, rm, .inl (pF P))), (aH, .inl (cI, rm, .inl (nF Hh))), (aT, .inl (cJ, rm, .inr (.inl Tm))), (aB, .inl (cJ, rm, .inr (.inl Bt))), (aZ, .inl (cZ, rm, .inl (nF Zb))), (aR, .inl (cJ, 11, .inr (.inl ((m_med P Tm 11 0 (j + 1) Rk).1)))), (oR, .inr (0, [.ref aQ])), (aQ, .inl (cJ, 9, .inr (.inl (m_pr (Bt j) (Tm j - Tm (m_anc P (Hh j - (Hh j - 7)) j)) pr))))]) 0 0 := by
  refine rw_of (cc := cT_add) (maxL := 6) (ret := some .int) (by decide) rfl (Nat.le_of_ble_eq_true rfl) ?_
  intro p e s m args below meth c Q A ls hx hb hr hml hown hts hlocks hin hK hP hD hA hl hQ
  have hS : va_S A s.heap s.heap [] := va_S.rf
  have hl : lv_has ls 6 [(0, .ref o), (1, .int (nI j)), (2, .long t), (4, .long b)] := hl
  have hown : s.vm.findClass RT = some m.cls := hown
  obtain ⟨H, hHe⟩ : ∃ H : Heap, H = s.heap := ⟨_, rfl⟩
  rw [← hHe] at hP
  have hS : va_S A s.heap H [] := by rw [hHe]; exact va_S.rf
  suffices h9 : W p l e rm_c_add_timeR s m args below meth c H [] 0 0 Q (F0 m 0 ls []) by rw [hHe] at h9; exact h9
  clear hHe
  refine lv_aload_n hx hb dT_add_0 rfl (lv_at hl 0 rfl) ?_
  refine lv_iload_n hx hb dT_add_1 rfl (lv_at hl 1 rfl) ?_
  refine ro_ki (va_runV (As := [.int (nI j)]) (rest := []) ⟨hx, hb, hml, hown, hts⟩ (c_isBlock_ok l D cI cJ cZ o rm n bs aP aH aC aT aB aZ aW aR oR oW j (by omega) (by omega)) (cwV 1 hts gT_add_T_isBlock_76 rfl rfl rfl (by decide +kernel) ⟨Nat.le_of_ble_eq_true rfl, Nat.le_of_ble_eq_true rfl⟩) (ro_preV (hP.sub [0] rfl) hK (va_recv hK hP (ci := 2) (q0 := 0) rfl rfl)) rfl rfl hl.1 rfl (lv_room (Nat.le_of_ble_eq_true rfl)) dT_add_2 ⟨Nat.le_of_ble_eq_true rfl, Nat.le_of_ble_eq_true rfl⟩) ?_
  refine lv_if_ne (tgt := 10) hx hb dT_add_5 (by decide) (fun c_5 => ?_) (fun c_5 => ?_)
  · skip
    rw [← nI_0] at c_5
    have c_5 : ¬ 1 = 0 := n_ne c_5
    refine lv_aload_n hx hb dT_add_10 rfl (lv_at hl 0 rfl) ?_
    refine va_get (D := D) (ci := 2) (v := .ref aZ) (C := RT) (T := TT) (N := 13) hx hb hts iT_add_T hown hK hP 0 rfl rfl 8 (by decide) (hts (.fieldLink RT 30 "TreeDesk" "bad" "[Z") (by decide +kernel)) (fun _ h9 => h9) rfl dT_add_11 ?_
    refine lv_iload_n hx hb dT_add_14 rfl (lv_at hl 1 rfl) ?_
    refine ar_zld (j := j) hx hb hK hP 5 2 rfl rfl dT_add_15 (by omega) (by omega) ?_
    refine tp_i (y := nI (Zb j)) rfl ?_
    refine lv_if_eq (tgt := 22) hx hb dT_add_16 (by decide) (fun c_16 => ?_) (fun c_16 => ?_)
    · skip
      rw [← nI_0] at c_16
      have c_16 : (Zb j) = 0 := n_eq c_16 (by omega) (by omega)
      refine lv_lload hx hb dT_add_22 (lv_at hl 3 rfl) ?_
      refine lv_aload_n hx hb dT_add_24 rfl (lv_at hl 0 rfl) ?_
      refine lv_iload_n hx hb dT_add_25 rfl (lv_at hl 1 rfl) ?_
      refine rw_k (wc := [(o, .inr (2, [.int (nI rm), .int (nI n), .int (nI bs), .ref aP, .ref aH, .ref aC, .ref aT, .ref aB, .ref aZ, .ref aW, .ref aR, .ref oR, .ref oW])), (aP, .inl (cI, rm, .inl (pF P))), (aH, .inl (cI, rm, .inl (nF Hh))), (aT, .inl (cJ, rm, .inr (.inl Tm))), (aB, .inl (cJ, rm, .inr (.inl Bt))), (oR, .inr (0, [.ref aQ])), (aQ, .inl (cJ, 9, .inr (.inl pr)))]) (wr := [(aZ, .inl (cZ, rm, .inl (nF Zb))), (aR, .inl (cJ, 11, .inr (.inl Rk)))]) (va_runV (As := [.int (nI j)]) (rest := [.long b]) ⟨hx, hb, hml, hown, hts⟩ (c_must_ret l D cI cJ cZ o rm n bs aP aH aC aT aB aZ aW aR oR oW P Hh Tm Bt aQ pr j (by omega) (by omega) (by omega) (by omega) h8 hpar H.size) (cwV 1 hts gT_add_T_must_80 rfl rfl rfl (by decide +kernel) ⟨Nat.le_of_ble_eq_true rfl, Nat.le_of_ble_eq_true rfl⟩) (rw_preV (hP.sub [0, 1, 2, 3, 4, 7, 8] rfl) hK (hD.sub [0, 1, 2, 3, 4, 7, 8] (by decide) rfl) (va_recv hK hP (ci := 2) (q0 := 0) rfl rfl)) rfl rfl hl.1 rfl (lv_room (Nat.le_of_ble_eq_true rfl)) dT_add_26 ⟨Nat.le_of_ble_eq_true rfl, Nat.le_of_ble_eq_true rfl⟩) hP hD hS hA [0, 1, 2, 3, 4, 7, 8] [5, 6] rfl rfl (by decide) (by decide) (fun v9 w9 H locs hp9 hP hD hS => ?_)
      obtain ⟨rfl, rfl⟩ := hp9
      have hP : va_P D vwCl [(aZ, .inl (cZ, rm, .inl (nF Zb))), (aR, .inl (cJ, 11, .inr (.inl Rk))), (o, .inr (2, [.int (nI rm), .int (nI n), .int (nI bs), .ref aP, .ref aH, .ref aC, .ref aT, .ref aB, .ref aZ, .ref aW, .ref aR, .ref oR, .ref oW])), (aP, .inl (cI, rm, .inl (pF P))), (aH, .inl (cI, rm, .inl (nF Hh))), (aT, .inl (cJ, rm, .inr (.inl Tm))), (aB, .inl (cJ, rm, .inr (.inl Bt))), (oR, .inr (0, [.ref aQ])), (aQ, .inl (cJ, 9, .inr (.inl (m_pr (Bt j) (Tm j - Tm (m_anc P (Hh j - (Hh j - 7)) j)) pr))))] H := hP
      have hD : va_D A [(aZ, .inl (cZ, rm, .inl (nF Zb))), (aR, .inl (cJ, 11, .inr (.inl Rk))), (o, .inr (2, [.int (nI rm), .int (nI n), .int (nI bs), .ref aP, .ref aH, .ref aC, .ref aT, .ref aB, .ref aZ, .ref aW, .ref aR, .ref oR, .ref oW])), (aP, .inl (cI, rm, .inl (pF P))), (aH, .inl (cI, rm, .inl (nF Hh))), (aT, .inl (cJ, rm, .inr (.inl Tm))), (aB, .inl (cJ, rm, .inr (.inl Bt))), (oR, .inr (0, [.ref aQ])), (aQ, .inl (cJ, 9, .inr (.inl (m_pr (Bt j) (Tm j - Tm (m_anc P (Hh j - (Hh j - 7)) j)) pr))))] := hD
      refine W.eq (g2 := F0 m 29 ls [.long (m_next (m_pr (Bt j) (Tm j - Tm (m_anc P (Hh j - (Hh j - 7)) j)) pr)), .long b]) rfl ?_
      refine lc_eq (tgt := 36) hx hb dT_add_29 dT_add_30 (by decide) (fun c_30 => ?_) (fun c_30 => ?_)
      · skip
        refine lv_lload_n hx hb dT_add_36 rfl (lv_at hl 2 rfl) ?_
        refine lv_aload_n hx hb dT_add_37 rfl (lv_at hl 0 rfl) ?_
        refine lv_iload_n hx hb dT_add_38 rfl (lv_at hl 1 rfl) ?_
        refine rw_k (wc := [(o, .inr (2, [.int (nI rm), .int (nI n), .int (nI bs), .ref aP, .ref aH, .ref aC, .ref aT, .ref aB, .ref aZ, .ref aW, .ref aR, .ref oR, .ref oW])), (aP, .inl (cI, rm, .inl (pF P))), (aT, .inl (cJ, rm, .inr (.inl Tm))), (aR, .inl (cJ, 11, .inr (.inl Rk)))]) (wr := [(aZ, .inl (cZ, rm, .inl (nF Zb))), (aH, .inl (cI, rm, .inl (nF Hh))), (aB, .inl (cJ, rm, .inr (.inl Bt))), (oR, .inr (0, [.ref aQ])), (aQ, .inl (cJ, 9, .inr (.inl (m_pr (Bt j) (Tm j - Tm (m_anc P (Hh j - (Hh j - 7)) j)) pr))))]) (va_runV (As := [.int (nI j)]) (rest := [.long t]) ⟨hx, hb, hml, hown, hts⟩ (c_median_ok l D cI cJ cZ o rm n bs aP aH aC aT aB aZ aW aR oR oW P Tm Rk j (by omega) (by omega) (by omega) hpar H.size) (cwV 1 hts gT_add_T_median_84 rfl rfl rfl (by decide +kernel) ⟨Nat.le_of_ble_eq_true rfl, Nat.le_of_ble_eq_true rfl⟩) (rw_preV (hP.sub [2, 3, 5, 1] rfl) hK (hD.sub [2, 3, 5, 1] (by decide) rfl) (va_recv hK hP (ci := 2) (q0 := 2) rfl rfl)) rfl rfl hl.1 rfl (lv_room (Nat.le_of_ble_eq_true rfl)) dT_add_39 ⟨Nat.le_of_ble_eq_true rfl, Nat.le_of_ble_eq_true rfl⟩) hP hD hS hA [2, 3, 5, 1] [0, 4, 6, 7, 8] rfl rfl (by decide) (by decide) (fun v9 w9 H locs hp9 hP hD hS => ?_)
        obtain ⟨rfl, rfl⟩ := hp9
        have hP : va_P D vwCl [(aZ, .inl (cZ, rm, .inl (nF Zb))), (aH, .inl (cI, rm, .inl (nF Hh))), (aB, .inl (cJ, rm, .inr (.inl Bt))), (oR, .inr (0, [.ref aQ])), (aQ, .inl (cJ, 9, .inr (.inl (m_pr (Bt j) (Tm j - Tm (m_anc P (Hh j - (Hh j - 7)) j)) pr)))), (o, .inr (2, [.int (nI rm), .int (nI n), .int (nI bs), .ref aP, .ref aH, .ref aC, .ref aT, .ref aB, .ref aZ, .ref aW, .ref aR, .ref oR, .ref oW])), (aP, .inl (cI, rm, .inl (pF P))), (aT, .inl (cJ, rm, .inr (.inl Tm))), (aR, .inl (cJ, 11, .inr (.inl ((m_med P Tm 11 0 (j + 1) Rk).1))))] H := hP
        have hD : va_D A [(aZ, .inl (cZ, rm, .inl (nF Zb))), (aH, .inl (cI, rm, .inl (nF Hh))), (aB, .inl (cJ, rm, .inr (.inl Bt))), (oR, .inr (0, [.ref aQ])), (aQ, .inl (cJ, 9, .inr (.inl (m_pr (Bt j) (Tm j - Tm (m_anc P (Hh j - (Hh j - 7)) j)) pr)))), (o, .inr (2, [.int (nI rm), .int (nI n), .int (nI bs), .ref aP, .ref aH, .ref aC, .ref aT, .ref aB, .ref aZ, .ref aW, .ref aR, .ref oR, .ref oW])), (aP, .inl (cI, rm, .inl (pF P))), (aT, .inl (cJ, rm, .inr (.inl Tm))), (aR, .inl (cJ, 11, .inr (.inl ((m_med P Tm 11 0 (j + 1) Rk).1))))] := hD
        refine W.eq (g2 := F0 m 42 ls [.long ((m_med P Tm 11 0 (j + 1) Rk).1 ((m_med P Tm 11 0 (j + 1) Rk).2 / 2)), .long t]) rfl ?_
        refine lc_le (tgt := 54) hx hb dT_add_42 dT_add_43 (by decide) (fun c_43 => ?_) (fun c_43 => ?_)
        · skip
          refine lv_bipush (v := (-4)) hx hb dT_add_54 (by decide) ?_
          exact rw_iret (w := [(o, .inr (2, [.int (nI rm), .int (nI n), .int (nI bs), .ref aP, .ref aH, .ref aC, .ref aT, .ref aB, .ref aZ, .ref aW, .ref aR, .ref oR, .ref oW])), (aP, .inl (cI, rm, .inl (pF P))), (aH, .inl (cI, rm, .inl (nF Hh))), (aT, .inl (cJ, rm, .inr (.inl Tm))), (aB, .inl (cJ, rm, .inr (.inl Bt))), (aZ, .inl (cZ, rm, .inl (nF Zb))), (aR, .inl (cJ, 11, .inr (.inl ((m_med P Tm 11 0 (j + 1) Rk).1)))), (oR, .inr (0, [.ref aQ])), (aQ, .inl (cJ, 9, .inr (.inl (m_pr (Bt j) (Tm j - Tm (m_anc P (Hh j - (Hh j - 7)) j)) pr))))]) hQ hx hb hr hlocks dT_add_56 (hP.sub [5, 6, 1, 7, 2, 0, 8, 3, 4] rfl) (hD.sub [5, 6, 1, 7, 2, 0, 8, 3, 4] (by decide) rfl) hS ⟨rfl, rfl⟩
        · skip
          refine lv_lload_n hx hb dT_add_46 rfl (lv_at hl 2 rfl) ?_
          refine lv_ldc2 (v := 4294967295) hx hb hown (hts (.constantLong RT 56 4294967295) (by decide +kernel)) dT_add_47 ?_
          refine lc_le (tgt := 57) hx hb dT_add_50 dT_add_51 (by decide) (fun c_51 => ?_) (fun c_51 => ?_)
          · skip
            exact absurd ⟨Int64.not_le.mp c_43, c_51⟩ ht9
          · skip
            refine lv_bipush (v := (-4)) hx hb dT_add_54 (by decide) ?_
            exact rw_iret (w := [(o, .inr (2, [.int (nI rm), .int (nI n), .int (nI bs), .ref aP, .ref aH, .ref aC, .ref aT, .ref aB, .ref aZ, .ref aW, .ref aR, .ref oR, .ref oW])), (aP, .inl (cI, rm, .inl (pF P))), (aH, .inl (cI, rm, .inl (nF Hh))), (aT, .inl (cJ, rm, .inr (.inl Tm))), (aB, .inl (cJ, rm, .inr (.inl Bt))), (aZ, .inl (cZ, rm, .inl (nF Zb))), (aR, .inl (cJ, 11, .inr (.inl ((m_med P Tm 11 0 (j + 1) Rk).1)))), (oR, .inr (0, [.ref aQ])), (aQ, .inl (cJ, 9, .inr (.inl (m_pr (Bt j) (Tm j - Tm (m_anc P (Hh j - (Hh j - 7)) j)) pr))))]) hQ hx hb hr hlocks dT_add_56 (hP.sub [5, 6, 1, 7, 2, 0, 8, 3, 4] rfl) (hD.sub [5, 6, 1, 7, 2, 0, 8, 3, 4] (by decide) rfl) hS ⟨rfl, rfl⟩
      · skip
        exact absurd hb9 c_30
    · skip
      rw [← nI_0] at c_16
      have c_16 : ¬ (Zb j) = 0 := n_ne c_16
      omega
  · skip
    rw [← nI_0] at c_5
    have c_5 : 1 = 0 := n_eq c_5 (by omega) (by omega)
    omega

abbrev rm_c_add_fullR : Room := { frames := 6, cells := 0, slots := 0, locals := 154 }
set_option maxRecDepth 100000 in
set_option maxHeartbeats 4000000 in
theorem c_add_fullR (l : Launch) (D : va_G) (cI cJ cZ : ClassId) (o : Nat) (rm : Nat) (n : Nat) (bs : Nat) (aP : Nat) (aH : Nat) (aC : Nat) (aT : Nat) (aB : Nat) (aZ : Nat) (aW : Nat) (aR : Nat) (oR : Nat) (oW : Nat) (P : Nat → Nat) (Hh : Nat → Nat) (Tm : Nat → Int64) (Bt : Nat → Int64) (Zb : Nat → Nat) (Rk : Nat → Int64) (aQ : Nat) (pr : Nat → Int64) (j : Nat) (t : Int64) (b : Int64) (hn3 : n ≤ rm) (hr3 : rm ≤ 300) (hj : j < n) (hHj : Hh j < 300) (hz0 : Zb j = 0) (h8 : (Hh j + 1) % 8 = 0) (hb9 : b = m_next (m_pr (Bt j) (Tm j - Tm (m_anc P (Hh j - (Hh j - 7)) j)) pr)) (ht9 : (m_med P Tm 11 0 (j + 1) Rk).1 ((m_med P Tm 11 0 (j + 1) Rk).2 / 2) < t) (ht8 : t ≤ 4294967295) (hfl : n = rm) (hpar : ∀ x : Nat, 0 < x → x < n → P x < x) : rw_C l yT_add wT_add rm_c_add_fullR D vwCl (gT cI cJ cZ) [.ref o, .int (nI j), .long t, .long b] [(o, .inr (2, [.int (nI rm), .int (nI n), .int (nI bs), .ref aP, .ref aH, .ref aC, .ref aT, .ref aB, .ref aZ, .ref aW, .ref aR, .ref oR, .ref oW])), (aP, .inl (cI, rm, .inl (pF P))), (aH, .inl (cI, rm, .inl (nF Hh))), (aT, .inl (cJ, rm, .inr (.inl Tm))), (aB, .inl (cJ, rm, .inr (.inl Bt))), (aZ, .inl (cZ, rm, .inl (nF Zb))), (aR, .inl (cJ, 11, .inr (.inl Rk))), (oR, .inr (0, [.ref aQ])), (aQ, .inl (cJ, 9, .inr (.inl pr)))] (fun v9 w9 => v9 = some (.int (-5)) ∧ w9 = [(o, .inr (2, [.int (nI rm), .int (nI n), .int (nI bs), .ref aP, .ref aH, .ref aC, .ref aT, .ref aB, .ref aZ, .ref aW, .ref aR, .ref oR, .ref oW])), (aP, .inl (cI, rm, .inl (pF P))), (aH, .inl (cI, rm, .inl (nF Hh))), (aT, .inl (cJ, rm, .inr (.inl Tm))), (aB, .inl (cJ, rm, .inr (.inl Bt))), (aZ, .inl (cZ, rm, .inl (nF Zb))), (aR, .inl (cJ, 11, .inr (.inl ((m_med P Tm 11 0 (j + 1) Rk).1)))), (oR, .inr (0, [.ref aQ])), (aQ, .inl (cJ, 9, .inr (.inl (m_pr (Bt j) (Tm j - Tm (m_anc P (Hh j - (Hh j - 7)) j)) pr))))]) 0 0 := by
  refine rw_of (cc := cT_add) (maxL := 6) (ret := some .int) (by decide) rfl (Nat.le_of_ble_eq_true rfl) ?_
  intro p e s m args below meth c Q A ls hx hb hr hml hown hts hlocks hin hK hP hD hA hl hQ
  have hS : va_S A s.heap s.heap [] := va_S.rf
  have hl : lv_has ls 6 [(0, .ref o), (1, .int (nI j)), (2, .long t), (4, .long b)] := hl
  have hown : s.vm.findClass RT = some m.cls := hown
  obtain ⟨H, hHe⟩ : ∃ H : Heap, H = s.heap := ⟨_, rfl⟩
  rw [← hHe] at hP
  have hS : va_S A s.heap H [] := by rw [hHe]; exact va_S.rf
  suffices h9 : W p l e rm_c_add_fullR s m args below meth c H [] 0 0 Q (F0 m 0 ls []) by rw [hHe] at h9; exact h9
  clear hHe
  refine lv_aload_n hx hb dT_add_0 rfl (lv_at hl 0 rfl) ?_
  refine lv_iload_n hx hb dT_add_1 rfl (lv_at hl 1 rfl) ?_
  refine ro_ki (va_runV (As := [.int (nI j)]) (rest := []) ⟨hx, hb, hml, hown, hts⟩ (c_isBlock_ok l D cI cJ cZ o rm n bs aP aH aC aT aB aZ aW aR oR oW j (by omega) (by omega)) (cwV 1 hts gT_add_T_isBlock_76 rfl rfl rfl (by decide +kernel) ⟨Nat.le_of_ble_eq_true rfl, Nat.le_of_ble_eq_true rfl⟩) (ro_preV (hP.sub [0] rfl) hK (va_recv hK hP (ci := 2) (q0 := 0) rfl rfl)) rfl rfl hl.1 rfl (lv_room (Nat.le_of_ble_eq_true rfl)) dT_add_2 ⟨Nat.le_of_ble_eq_true rfl, Nat.le_of_ble_eq_true rfl⟩) ?_
  refine lv_if_ne (tgt := 10) hx hb dT_add_5 (by decide) (fun c_5 => ?_) (fun c_5 => ?_)
  · skip
    rw [← nI_0] at c_5
    have c_5 : ¬ 1 = 0 := n_ne c_5
    refine lv_aload_n hx hb dT_add_10 rfl (lv_at hl 0 rfl) ?_
    refine va_get (D := D) (ci := 2) (v := .ref aZ) (C := RT) (T := TT) (N := 13) hx hb hts iT_add_T hown hK hP 0 rfl rfl 8 (by decide) (hts (.fieldLink RT 30 "TreeDesk" "bad" "[Z") (by decide +kernel)) (fun _ h9 => h9) rfl dT_add_11 ?_
    refine lv_iload_n hx hb dT_add_14 rfl (lv_at hl 1 rfl) ?_
    refine ar_zld (j := j) hx hb hK hP 5 2 rfl rfl dT_add_15 (by omega) (by omega) ?_
    refine tp_i (y := nI (Zb j)) rfl ?_
    refine lv_if_eq (tgt := 22) hx hb dT_add_16 (by decide) (fun c_16 => ?_) (fun c_16 => ?_)
    · skip
      rw [← nI_0] at c_16
      have c_16 : (Zb j) = 0 := n_eq c_16 (by omega) (by omega)
      refine lv_lload hx hb dT_add_22 (lv_at hl 3 rfl) ?_
      refine lv_aload_n hx hb dT_add_24 rfl (lv_at hl 0 rfl) ?_
      refine lv_iload_n hx hb dT_add_25 rfl (lv_at hl 1 rfl) ?_
      refine rw_k (wc := [(o, .inr (2, [.int (nI rm), .int (nI n), .int (nI bs), .ref aP, .ref aH, .ref aC, .ref aT, .ref aB, .ref aZ, .ref aW, .ref aR, .ref oR, .ref oW])), (aP, .inl (cI, rm, .inl (pF P))), (aH, .inl (cI, rm, .inl (nF Hh))), (aT, .inl (cJ, rm, .inr (.inl Tm))), (aB, .inl (cJ, rm, .inr (.inl Bt))), (oR, .inr (0, [.ref aQ])), (aQ, .inl (cJ, 9, .inr (.inl pr)))]) (wr := [(aZ, .inl (cZ, rm, .inl (nF Zb))), (aR, .inl (cJ, 11, .inr (.inl Rk)))]) (va_runV (As := [.int (nI j)]) (rest := [.long b]) ⟨hx, hb, hml, hown, hts⟩ (c_must_ret l D cI cJ cZ o rm n bs aP aH aC aT aB aZ aW aR oR oW P Hh Tm Bt aQ pr j (by omega) (by omega) (by omega) (by omega) h8 hpar H.size) (cwV 1 hts gT_add_T_must_80 rfl rfl rfl (by decide +kernel) ⟨Nat.le_of_ble_eq_true rfl, Nat.le_of_ble_eq_true rfl⟩) (rw_preV (hP.sub [0, 1, 2, 3, 4, 7, 8] rfl) hK (hD.sub [0, 1, 2, 3, 4, 7, 8] (by decide) rfl) (va_recv hK hP (ci := 2) (q0 := 0) rfl rfl)) rfl rfl hl.1 rfl (lv_room (Nat.le_of_ble_eq_true rfl)) dT_add_26 ⟨Nat.le_of_ble_eq_true rfl, Nat.le_of_ble_eq_true rfl⟩) hP hD hS hA [0, 1, 2, 3, 4, 7, 8] [5, 6] rfl rfl (by decide) (by decide) (fun v9 w9 H locs hp9 hP hD hS => ?_)
      obtain ⟨rfl, rfl⟩ := hp9
      have hP : va_P D vwCl [(aZ, .inl (cZ, rm, .inl (nF Zb))), (aR, .inl (cJ, 11, .inr (.inl Rk))), (o, .inr (2, [.int (nI rm), .int (nI n), .int (nI bs), .ref aP, .ref aH, .ref aC, .ref aT, .ref aB, .ref aZ, .ref aW, .ref aR, .ref oR, .ref oW])), (aP, .inl (cI, rm, .inl (pF P))), (aH, .inl (cI, rm, .inl (nF Hh))), (aT, .inl (cJ, rm, .inr (.inl Tm))), (aB, .inl (cJ, rm, .inr (.inl Bt))), (oR, .inr (0, [.ref aQ])), (aQ, .inl (cJ, 9, .inr (.inl (m_pr (Bt j) (Tm j - Tm (m_anc P (Hh j - (Hh j - 7)) j)) pr))))] H := hP
      have hD : va_D A [(aZ, .inl (cZ, rm, .inl (nF Zb))), (aR, .inl (cJ, 11, .inr (.inl Rk))), (o, .inr (2, [.int (nI rm), .int (nI n), .int (nI bs), .ref aP, .ref aH, .ref aC, .ref aT, .ref aB, .ref aZ, .ref aW, .ref aR, .ref oR, .ref oW])), (aP, .inl (cI, rm, .inl (pF P))), (aH, .inl (cI, rm, .inl (nF Hh))), (aT, .inl (cJ, rm, .inr (.inl Tm))), (aB, .inl (cJ, rm, .inr (.inl Bt))), (oR, .inr (0, [.ref aQ])), (aQ, .inl (cJ, 9, .inr (.inl (m_pr (Bt j) (Tm j - Tm (m_anc P (Hh j - (Hh j - 7)) j)) pr))))] := hD
      refine W.eq (g2 := F0 m 29 ls [.long (m_next (m_pr (Bt j) (Tm j - Tm (m_anc P (Hh j - (Hh j - 7)) j)) pr)), .long b]) rfl ?_
      refine lc_eq (tgt := 36) hx hb dT_add_29 dT_add_30 (by decide) (fun c_30 => ?_) (fun c_30 => ?_)
      · skip
        refine lv_lload_n hx hb dT_add_36 rfl (lv_at hl 2 rfl) ?_
        refine lv_aload_n hx hb dT_add_37 rfl (lv_at hl 0 rfl) ?_
        refine lv_iload_n hx hb dT_add_38 rfl (lv_at hl 1 rfl) ?_
        refine rw_k (wc := [(o, .inr (2, [.int (nI rm), .int (nI n), .int (nI bs), .ref aP, .ref aH, .ref aC, .ref aT, .ref aB, .ref aZ, .ref aW, .ref aR, .ref oR, .ref oW])), (aP, .inl (cI, rm, .inl (pF P))), (aT, .inl (cJ, rm, .inr (.inl Tm))), (aR, .inl (cJ, 11, .inr (.inl Rk)))]) (wr := [(aZ, .inl (cZ, rm, .inl (nF Zb))), (aH, .inl (cI, rm, .inl (nF Hh))), (aB, .inl (cJ, rm, .inr (.inl Bt))), (oR, .inr (0, [.ref aQ])), (aQ, .inl (cJ, 9, .inr (.inl (m_pr (Bt j) (Tm j - Tm (m_anc P (Hh j - (Hh j - 7)) j)) pr))))]) (va_runV (As := [.int (nI j)]) (rest := [.long t]) ⟨hx, hb, hml, hown, hts⟩ (c_median_ok l D cI cJ cZ o rm n bs aP aH aC aT aB aZ aW aR oR oW P Tm Rk j (by omega) (by omega) (by omega) hpar H.size) (cwV 1 hts gT_add_T_median_84 rfl rfl rfl (by decide +kernel) ⟨Nat.le_of_ble_eq_true rfl, Nat.le_of_ble_eq_true rfl⟩) (rw_preV (hP.sub [2, 3, 5, 1] rfl) hK (hD.sub [2, 3, 5, 1] (by decide) rfl) (va_recv hK hP (ci := 2) (q0 := 2) rfl rfl)) rfl rfl hl.1 rfl (lv_room (Nat.le_of_ble_eq_true rfl)) dT_add_39 ⟨Nat.le_of_ble_eq_true rfl, Nat.le_of_ble_eq_true rfl⟩) hP hD hS hA [2, 3, 5, 1] [0, 4, 6, 7, 8] rfl rfl (by decide) (by decide) (fun v9 w9 H locs hp9 hP hD hS => ?_)
        obtain ⟨rfl, rfl⟩ := hp9
        have hP : va_P D vwCl [(aZ, .inl (cZ, rm, .inl (nF Zb))), (aH, .inl (cI, rm, .inl (nF Hh))), (aB, .inl (cJ, rm, .inr (.inl Bt))), (oR, .inr (0, [.ref aQ])), (aQ, .inl (cJ, 9, .inr (.inl (m_pr (Bt j) (Tm j - Tm (m_anc P (Hh j - (Hh j - 7)) j)) pr)))), (o, .inr (2, [.int (nI rm), .int (nI n), .int (nI bs), .ref aP, .ref aH, .ref aC, .ref aT, .ref aB, .ref aZ, .ref aW, .ref aR, .ref oR, .ref oW])), (aP, .inl (cI, rm, .inl (pF P))), (aT, .inl (cJ, rm, .inr (.inl Tm))), (aR, .inl (cJ, 11, .inr (.inl ((m_med P Tm 11 0 (j + 1) Rk).1))))] H := hP
        have hD : va_D A [(aZ, .inl (cZ, rm, .inl (nF Zb))), (aH, .inl (cI, rm, .inl (nF Hh))), (aB, .inl (cJ, rm, .inr (.inl Bt))), (oR, .inr (0, [.ref aQ])), (aQ, .inl (cJ, 9, .inr (.inl (m_pr (Bt j) (Tm j - Tm (m_anc P (Hh j - (Hh j - 7)) j)) pr)))), (o, .inr (2, [.int (nI rm), .int (nI n), .int (nI bs), .ref aP, .ref aH, .ref aC, .ref aT, .ref aB, .ref aZ, .ref aW, .ref aR, .ref oR, .ref oW])), (aP, .inl (cI, rm, .inl (pF P))), (aT, .inl (cJ, rm, .inr (.inl Tm))), (aR, .inl (cJ, 11, .inr (.inl ((m_med P Tm 11 0 (j + 1) Rk).1))))] := hD
        refine W.eq (g2 := F0 m 42 ls [.long ((m_med P Tm 11 0 (j + 1) Rk).1 ((m_med P Tm 11 0 (j + 1) Rk).2 / 2)), .long t]) rfl ?_
        refine lc_le (tgt := 54) hx hb dT_add_42 dT_add_43 (by decide) (fun c_43 => ?_) (fun c_43 => ?_)
        · skip
          exact absurd ht9 (Int64.not_lt.mpr c_43)
        · skip
          refine lv_lload_n hx hb dT_add_46 rfl (lv_at hl 2 rfl) ?_
          refine lv_ldc2 (v := 4294967295) hx hb hown (hts (.constantLong RT 56 4294967295) (by decide +kernel)) dT_add_47 ?_
          refine lc_le (tgt := 57) hx hb dT_add_50 dT_add_51 (by decide) (fun c_51 => ?_) (fun c_51 => ?_)
          · skip
            refine lv_aload_n hx hb dT_add_57 rfl (lv_at hl 0 rfl) ?_
            refine va_get (D := D) (ci := 2) (v := .int (nI n)) (C := RT) (T := TT) (N := 13) hx hb hts iT_add_T hown hK hP 5 rfl rfl 1 (by decide) (hts (.fieldLink RT 70 "TreeDesk" "count" "I") (by decide +kernel)) (fun _ h9 => h9) rfl dT_add_58 ?_
            refine lv_aload_n hx hb dT_add_61 rfl (lv_at hl 0 rfl) ?_
            refine va_get (D := D) (ci := 2) (v := .int (nI rm)) (C := RT) (T := TT) (N := 13) hx hb hts iT_add_T hown hK hP 5 rfl rfl 0 (by decide) (hts (.fieldLink RT 9 "TreeDesk" "room" "I") (by decide +kernel)) (fun _ h9 => h9) rfl dT_add_62 ?_
            refine lv_icmp_lt (tgt := 71) hx hb dT_add_65 (by decide) (fun c_65 => ?_) (fun c_65 => ?_)
            · skip
              have c_65 : n < rm := n_lt c_65 (by omega) (by omega)
              omega
            · skip
              have c_65 : rm ≤ n := n_nlt c_65 (by omega) (by omega)
              refine lv_bipush (v := (-5)) hx hb dT_add_68 (by decide) ?_
              exact rw_iret (w := [(o, .inr (2, [.int (nI rm), .int (nI n), .int (nI bs), .ref aP, .ref aH, .ref aC, .ref aT, .ref aB, .ref aZ, .ref aW, .ref aR, .ref oR, .ref oW])), (aP, .inl (cI, rm, .inl (pF P))), (aH, .inl (cI, rm, .inl (nF Hh))), (aT, .inl (cJ, rm, .inr (.inl Tm))), (aB, .inl (cJ, rm, .inr (.inl Bt))), (aZ, .inl (cZ, rm, .inl (nF Zb))), (aR, .inl (cJ, 11, .inr (.inl ((m_med P Tm 11 0 (j + 1) Rk).1)))), (oR, .inr (0, [.ref aQ])), (aQ, .inl (cJ, 9, .inr (.inl (m_pr (Bt j) (Tm j - Tm (m_anc P (Hh j - (Hh j - 7)) j)) pr))))]) hQ hx hb hr hlocks dT_add_70 (hP.sub [5, 6, 1, 7, 2, 0, 8, 3, 4] rfl) (hD.sub [5, 6, 1, 7, 2, 0, 8, 3, 4] (by decide) rfl) hS ⟨rfl, rfl⟩
          · skip
            exact absurd ht8 c_51
      · skip
        exact absurd hb9 c_30
    · skip
      rw [← nI_0] at c_16
      have c_16 : ¬ (Zb j) = 0 := n_ne c_16
      omega
  · skip
    rw [← nI_0] at c_5
    have c_5 : 1 = 0 := n_eq c_5 (by omega) (by omega)
    omega
end
section
abbrev rm_c_add_okSn : Room := { frames := 7, cells := 0, slots := 0, locals := 156 }
set_option maxRecDepth 100000 in
set_option maxHeartbeats 4000000 in
theorem c_add_okSn (l : Launch) (D : va_G) (cI cJ cZ : ClassId) (o : Nat) (rm : Nat) (n : Nat) (bs : Nat) (aP : Nat) (aH : Nat) (aC : Nat) (aT : Nat) (aB : Nat) (aZ : Nat) (aW : Nat) (aR : Nat) (oR : Nat) (oW : Nat) (P : Nat → Nat) (Hh : Nat → Nat) (Ch : Nat → Nat) (Tm : Nat → Int64) (Bt : Nat → Int64) (Zb : Nat → Nat) (Wk : Nat → Int64) (Rk : Nat → Int64) (aQ : Nat) (pr : Nat → Int64) (dv : Nat) (rs : Nat) (qt : Nat) (kn : Int64) (fd : Nat → Int64) (fr : Nat → Int64) (fq : Nat → Int64) (j : Nat) (t : Int64) (b : Int64) (Ld : Nat) (hn0 : 0 < n) (hn3 : n < rm) (hr3 : rm ≤ 300) (hj : j < n) (hbs : bs < n) (hHj : Hh j < 300) (hCj : Ch j < 300) (hz0 : Zb j = 0) (h8 : ¬ (Hh j + 1) % 8 = 0) (hb9 : b = Bt j) (ht9 : (m_med P Tm 11 0 (j + 1) Rk).1 ((m_med P Tm 11 0 (j + 1) Rk).2 / 2) < t) (ht8 : t ≤ 4294967295) (hk9 : ¬ b = kn) (hLd : m_dlen (m_set b fd) 8 0 = nI Ld) (hL2 : 2 ≤ Ld) (hL6 : Ld ≤ 256) (hpar : ∀ x : Nat, 0 < x → x < n → P x < x) : rw_C l yT_add wT_add rm_c_add_okSn D vwCl (gT cI cJ cZ) [.ref o, .int (nI j), .long t, .long b] [(o, .inr (2, [.int (nI rm), .int (nI n), .int (nI bs), .ref aP, .ref aH, .ref aC, .ref aT, .ref aB, .ref aZ, .ref aW, .ref aR, .ref oR, .ref oW])), (aP, .inl (cI, rm, .inl (pF P))), (aH, .inl (cI, rm, .inl (nF Hh))), (aC, .inl (cI, rm, .inl (nF Ch))), (aT, .inl (cJ, rm, .inr (.inl Tm))), (aB, .inl (cJ, rm, .inr (.inl Bt))), (aZ, .inl (cZ, rm, .inl (nF Zb))), (aW, .inl (cJ, rm * 8, .inr (.inl Wk))), (aR, .inl (cJ, 11, .inr (.inl Rk))), (oR, .inr (0, [.ref aQ])), (aQ, .inl (cJ, 9, .inr (.inl pr))), (oW, .inr (1, [.ref dv, .ref rs, .ref qt, .long kn])), (dv, .inl (cJ, 8, .inr (.inl fd))), (rs, .inl (cJ, 8, .inr (.inl fr))), (qt, .inl (cJ, 8, .inr (.inl fq)))] (fun v9 w9 => v9 = some (.int (nI n)) ∧ w9 = [(o, .inr (2, [.int (nI rm), .int (nI (n + 1)), .int (nI (if m_cmp (m_sum ((m_dv (m_set b fd) fr fq (Ld - 2)).2) n j Wk) n bs 8 0 ≤ 0 then bs else n)), .ref aP, .ref aH, .ref aC, .ref aT, .ref aB, .ref aZ, .ref aW, .ref aR, .ref oR, .ref oW])), (aP, .inl (cI, rm, .inl (pF (updN P n j)))), (aH, .inl (cI, rm, .inl (nF (updN Hh n (Hh j + 1))))), (aC, .inl (cI, rm, .inl (nF (updN Ch j (Ch j + 1))))), (aT, .inl (cJ, rm, .inr (.inl (vp_updL Tm n t)))), (aB, .inl (cJ, rm, .inr (.inl (vp_updL Bt n b)))), (aZ, .inl (cZ, rm, .inl (nF Zb))), (aW, .inl (cJ, rm * 8, .inr (.inl (m_sum ((m_dv (m_set b fd) fr fq (Ld - 2)).2) n j Wk)))), (aR, .inl (cJ, 11, .inr (.inl ((m_med P Tm 11 0 (j + 1) Rk).1)))), (oR, .inr (0, [.ref aQ])), (aQ, .inl (cJ, 9, .inr (.inl pr))), (oW, .inr (1, [.ref dv, .ref rs, .ref qt, .long b])), (dv, .inl (cJ, 8, .inr (.inl (m_set b fd)))), (rs, .inl (cJ, 8, .inr (.inl ((m_dv (m_set b fd) fr fq (Ld - 2)).1)))), (qt, .inl (cJ, 8, .inr (.inl ((m_dv (m_set b fd) fr fq (Ld - 2)).2))))]) 0 0 := by
  refine rw_of (cc := cT_add) (maxL := 6) (ret := some .int) (by decide) rfl (Nat.le_of_ble_eq_true rfl) ?_
  intro p e s m args below meth c Q A ls hx hb hr hml hown hts hlocks hin hK hP hD hA hl hQ
  have hS : va_S A s.heap s.heap [] := va_S.rf
  have hl : lv_has ls 6 [(0, .ref o), (1, .int (nI j)), (2, .long t), (4, .long b)] := hl
  have hown : s.vm.findClass RT = some m.cls := hown
  obtain ⟨H, hHe⟩ : ∃ H : Heap, H = s.heap := ⟨_, rfl⟩
  rw [← hHe] at hP
  have hS : va_S A s.heap H [] := by rw [hHe]; exact va_S.rf
  suffices h9 : W p l e rm_c_add_okSn s m args below meth c H [] 0 0 Q (F0 m 0 ls []) by rw [hHe] at h9; exact h9
  clear hHe
  refine lv_aload_n hx hb dT_add_0 rfl (lv_at hl 0 rfl) ?_
  refine lv_iload_n hx hb dT_add_1 rfl (lv_at hl 1 rfl) ?_
  refine ro_ki (va_runV (As := [.int (nI j)]) (rest := []) ⟨hx, hb, hml, hown, hts⟩ (c_isBlock_ok l D cI cJ cZ o rm n bs aP aH aC aT aB aZ aW aR oR oW j (by omega) (by omega)) (cwV 1 hts gT_add_T_isBlock_76 rfl rfl rfl (by decide +kernel) ⟨Nat.le_of_ble_eq_true rfl, Nat.le_of_ble_eq_true rfl⟩) (ro_preV (hP.sub [0] rfl) hK (va_recv hK hP (ci := 2) (q0 := 0) rfl rfl)) rfl rfl hl.1 rfl (lv_room (Nat.le_of_ble_eq_true rfl)) dT_add_2 ⟨Nat.le_of_ble_eq_true rfl, Nat.le_of_ble_eq_true rfl⟩) ?_
  refine lv_if_ne (tgt := 10) hx hb dT_add_5 (by decide) (fun c_5 => ?_) (fun c_5 => ?_)
  · skip
    rw [← nI_0] at c_5
    have c_5 : ¬ 1 = 0 := n_ne c_5
    refine lv_aload_n hx hb dT_add_10 rfl (lv_at hl 0 rfl) ?_
    refine va_get (D := D) (ci := 2) (v := .ref aZ) (C := RT) (T := TT) (N := 13) hx hb hts iT_add_T hown hK hP 0 rfl rfl 8 (by decide) (hts (.fieldLink RT 30 "TreeDesk" "bad" "[Z") (by decide +kernel)) (fun _ h9 => h9) rfl dT_add_11 ?_
    refine lv_iload_n hx hb dT_add_14 rfl (lv_at hl 1 rfl) ?_
    refine ar_zld (j := j) hx hb hK hP 6 2 rfl rfl dT_add_15 (by omega) (by omega) ?_
    refine tp_i (y := nI (Zb j)) rfl ?_
    refine lv_if_eq (tgt := 22) hx hb dT_add_16 (by decide) (fun c_16 => ?_) (fun c_16 => ?_)
    · skip
      rw [← nI_0] at c_16
      have c_16 : (Zb j) = 0 := n_eq c_16 (by omega) (by omega)
      refine lv_lload hx hb dT_add_22 (lv_at hl 3 rfl) ?_
      refine lv_aload_n hx hb dT_add_24 rfl (lv_at hl 0 rfl) ?_
      refine lv_iload_n hx hb dT_add_25 rfl (lv_at hl 1 rfl) ?_
      refine ro_kl (va_runV (As := [.int (nI j)]) (rest := [.long b]) ⟨hx, hb, hml, hown, hts⟩ (c_must_same l D cI cJ cZ o rm n bs aP aH aC aT aB aZ aW aR oR oW Hh Bt j (by omega) (by omega) (by omega) (by omega) h8) (cwV 1 hts gT_add_T_must_80 rfl rfl rfl (by decide +kernel) ⟨Nat.le_of_ble_eq_true rfl, Nat.le_of_ble_eq_true rfl⟩) (ro_preV (hP.sub [0, 2, 5] rfl) hK (va_recv hK hP (ci := 2) (q0 := 0) rfl rfl)) rfl rfl hl.1 rfl (lv_room (Nat.le_of_ble_eq_true rfl)) dT_add_26 ⟨Nat.le_of_ble_eq_true rfl, Nat.le_of_ble_eq_true rfl⟩) ?_
      refine lc_eq (tgt := 36) hx hb dT_add_29 dT_add_30 (by decide) (fun c_30 => ?_) (fun c_30 => ?_)
      · skip
        refine lv_lload_n hx hb dT_add_36 rfl (lv_at hl 2 rfl) ?_
        refine lv_aload_n hx hb dT_add_37 rfl (lv_at hl 0 rfl) ?_
        refine lv_iload_n hx hb dT_add_38 rfl (lv_at hl 1 rfl) ?_
        refine rw_k (wc := [(o, .inr (2, [.int (nI rm), .int (nI n), .int (nI bs), .ref aP, .ref aH, .ref aC, .ref aT, .ref aB, .ref aZ, .ref aW, .ref aR, .ref oR, .ref oW])), (aP, .inl (cI, rm, .inl (pF P))), (aT, .inl (cJ, rm, .inr (.inl Tm))), (aR, .inl (cJ, 11, .inr (.inl Rk)))]) (wr := [(aH, .inl (cI, rm, .inl (nF Hh))), (aC, .inl (cI, rm, .inl (nF Ch))), (aB, .inl (cJ, rm, .inr (.inl Bt))), (aZ, .inl (cZ, rm, .inl (nF Zb))), (aW, .inl (cJ, rm * 8, .inr (.inl Wk))), (oR, .inr (0, [.ref aQ])), (aQ, .inl (cJ, 9, .inr (.inl pr))), (oW, .inr (1, [.ref dv, .ref rs, .ref qt, .long kn])), (dv, .inl (cJ, 8, .inr (.inl fd))), (rs, .inl (cJ, 8, .inr (.inl fr))), (qt, .inl (cJ, 8, .inr (.inl fq)))]) (va_runV (As := [.int (nI j)]) (rest := [.long t]) ⟨hx, hb, hml, hown, hts⟩ (c_median_ok l D cI cJ cZ o rm n bs aP aH aC aT aB aZ aW aR oR oW P Tm Rk j (by omega) (by omega) (by omega) hpar H.size) (cwV 1 hts gT_add_T_median_84 rfl rfl rfl (by decide +kernel) ⟨Nat.le_of_ble_eq_true rfl, Nat.le_of_ble_eq_true rfl⟩) (rw_preV (hP.sub [0, 1, 4, 8] rfl) hK (hD.sub [0, 1, 4, 8] (by decide) rfl) (va_recv hK hP (ci := 2) (q0 := 0) rfl rfl)) rfl rfl hl.1 rfl (lv_room (Nat.le_of_ble_eq_true rfl)) dT_add_39 ⟨Nat.le_of_ble_eq_true rfl, Nat.le_of_ble_eq_true rfl⟩) hP hD hS hA [0, 1, 4, 8] [2, 3, 5, 6, 7, 9, 10, 11, 12, 13, 14] rfl rfl (by decide) (by decide) (fun v9 w9 H locs hp9 hP hD hS => ?_)
        obtain ⟨rfl, rfl⟩ := hp9
        have hP : va_P D vwCl [(aH, .inl (cI, rm, .inl (nF Hh))), (aC, .inl (cI, rm, .inl (nF Ch))), (aB, .inl (cJ, rm, .inr (.inl Bt))), (aZ, .inl (cZ, rm, .inl (nF Zb))), (aW, .inl (cJ, rm * 8, .inr (.inl Wk))), (oR, .inr (0, [.ref aQ])), (aQ, .inl (cJ, 9, .inr (.inl pr))), (oW, .inr (1, [.ref dv, .ref rs, .ref qt, .long kn])), (dv, .inl (cJ, 8, .inr (.inl fd))), (rs, .inl (cJ, 8, .inr (.inl fr))), (qt, .inl (cJ, 8, .inr (.inl fq))), (o, .inr (2, [.int (nI rm), .int (nI n), .int (nI bs), .ref aP, .ref aH, .ref aC, .ref aT, .ref aB, .ref aZ, .ref aW, .ref aR, .ref oR, .ref oW])), (aP, .inl (cI, rm, .inl (pF P))), (aT, .inl (cJ, rm, .inr (.inl Tm))), (aR, .inl (cJ, 11, .inr (.inl ((m_med P Tm 11 0 (j + 1) Rk).1))))] H := hP
        have hD : va_D A [(aH, .inl (cI, rm, .inl (nF Hh))), (aC, .inl (cI, rm, .inl (nF Ch))), (aB, .inl (cJ, rm, .inr (.inl Bt))), (aZ, .inl (cZ, rm, .inl (nF Zb))), (aW, .inl (cJ, rm * 8, .inr (.inl Wk))), (oR, .inr (0, [.ref aQ])), (aQ, .inl (cJ, 9, .inr (.inl pr))), (oW, .inr (1, [.ref dv, .ref rs, .ref qt, .long kn])), (dv, .inl (cJ, 8, .inr (.inl fd))), (rs, .inl (cJ, 8, .inr (.inl fr))), (qt, .inl (cJ, 8, .inr (.inl fq))), (o, .inr (2, [.int (nI rm), .int (nI n), .int (nI bs), .ref aP, .ref aH, .ref aC, .ref aT, .ref aB, .ref aZ, .ref aW, .ref aR, .ref oR, .ref oW])), (aP, .inl (cI, rm, .inl (pF P))), (aT, .inl (cJ, rm, .inr (.inl Tm))), (aR, .inl (cJ, 11, .inr (.inl ((m_med P Tm 11 0 (j + 1) Rk).1))))] := hD
        refine W.eq (g2 := F0 m 42 ls [.long ((m_med P Tm 11 0 (j + 1) Rk).1 ((m_med P Tm 11 0 (j + 1) Rk).2 / 2)), .long t]) rfl ?_
        refine lc_le (tgt := 54) hx hb dT_add_42 dT_add_43 (by decide) (fun c_43 => ?_) (fun c_43 => ?_)
        · skip
          exact absurd ht9 (Int64.not_lt.mpr c_43)
        · skip
          refine lv_lload_n hx hb dT_add_46 rfl (lv_at hl 2 rfl) ?_
          refine lv_ldc2 (v := 4294967295) hx hb hown (hts (.constantLong RT 56 4294967295) (by decide +kernel)) dT_add_47 ?_
          refine lc_le (tgt := 57) hx hb dT_add_50 dT_add_51 (by decide) (fun c_51 => ?_) (fun c_51 => ?_)
          · skip
            refine lv_aload_n hx hb dT_add_57 rfl (lv_at hl 0 rfl) ?_
            refine va_get (D := D) (ci := 2) (v := .int (nI n)) (C := RT) (T := TT) (N := 13) hx hb hts iT_add_T hown hK hP 11 rfl rfl 1 (by decide) (hts (.fieldLink RT 70 "TreeDesk" "count" "I") (by decide +kernel)) (fun _ h9 => h9) rfl dT_add_58 ?_
            refine lv_aload_n hx hb dT_add_61 rfl (lv_at hl 0 rfl) ?_
            refine va_get (D := D) (ci := 2) (v := .int (nI rm)) (C := RT) (T := TT) (N := 13) hx hb hts iT_add_T hown hK hP 11 rfl rfl 0 (by decide) (hts (.fieldLink RT 9 "TreeDesk" "room" "I") (by decide +kernel)) (fun _ h9 => h9) rfl dT_add_62 ?_
            refine lv_icmp_lt (tgt := 71) hx hb dT_add_65 (by decide) (fun c_65 => ?_) (fun c_65 => ?_)
            · skip
              have c_65 : n < rm := n_lt c_65 (by omega) (by omega)
              refine lv_aload_n hx hb dT_add_71 rfl (lv_at hl 0 rfl) ?_
              refine lv_iload_n hx hb dT_add_72 rfl (lv_at hl 1 rfl) ?_
              refine lv_lload_n hx hb dT_add_73 rfl (lv_at hl 2 rfl) ?_
              refine lv_lload hx hb dT_add_74 (lv_at hl 3 rfl) ?_
              refine rw_k (wc := [(o, .inr (2, [.int (nI rm), .int (nI n), .int (nI bs), .ref aP, .ref aH, .ref aC, .ref aT, .ref aB, .ref aZ, .ref aW, .ref aR, .ref oR, .ref oW])), (aP, .inl (cI, rm, .inl (pF P))), (aH, .inl (cI, rm, .inl (nF Hh))), (aC, .inl (cI, rm, .inl (nF Ch))), (aT, .inl (cJ, rm, .inr (.inl Tm))), (aB, .inl (cJ, rm, .inr (.inl Bt))), (aW, .inl (cJ, rm * 8, .inr (.inl Wk))), (oW, .inr (1, [.ref dv, .ref rs, .ref qt, .long kn])), (dv, .inl (cJ, 8, .inr (.inl fd))), (rs, .inl (cJ, 8, .inr (.inl fr))), (qt, .inl (cJ, 8, .inr (.inl fq)))]) (wr := [(aZ, .inl (cZ, rm, .inl (nF Zb))), (oR, .inr (0, [.ref aQ])), (aQ, .inl (cJ, 9, .inr (.inl pr))), (aR, .inl (cJ, 11, .inr (.inl ((m_med P Tm 11 0 (j + 1) Rk).1))))]) (va_runV (As := [.int (nI j), .long t, .long b]) (rest := []) ⟨hx, hb, hml, hown, hts⟩ (c_append_new l D cI cJ cZ o rm n bs aP aH aC aT aB aZ aW aR oR oW P Hh Ch Tm Bt Wk dv rs qt kn fd fr fq j t b Ld (by omega) (by omega) (by omega) (by omega) (by omega) (by omega) (by omega) hk9 hLd hL2 hL6 H.size) (cwV 3 hts gT_add_T_append_87 rfl rfl rfl (by decide +kernel) ⟨Nat.le_of_ble_eq_true rfl, Nat.le_of_ble_eq_true rfl⟩) (rw_preV (hP.sub [11, 12, 0, 1, 13, 2, 4, 7, 8, 9, 10] rfl) hK (hD.sub [11, 12, 0, 1, 13, 2, 4, 7, 8, 9, 10] (by decide) rfl) (va_recv hK hP (ci := 2) (q0 := 11) rfl rfl)) rfl rfl hl.1 rfl (lv_room (Nat.le_of_ble_eq_true rfl)) dT_add_76 ⟨Nat.le_of_ble_eq_true rfl, Nat.le_of_ble_eq_true rfl⟩) hP hD hS hA [11, 12, 0, 1, 13, 2, 4, 7, 8, 9, 10] [3, 5, 6, 14] rfl rfl (by decide) (by decide) (fun v9 w9 H locs hp9 hP hD hS => ?_)
              obtain ⟨rfl, rfl⟩ := hp9
              have hP : va_P D vwCl [(aZ, .inl (cZ, rm, .inl (nF Zb))), (oR, .inr (0, [.ref aQ])), (aQ, .inl (cJ, 9, .inr (.inl pr))), (aR, .inl (cJ, 11, .inr (.inl ((m_med P Tm 11 0 (j + 1) Rk).1)))), (o, .inr (2, [.int (nI rm), .int (nI (n + 1)), .int (nI (if m_cmp (m_sum ((m_dv (m_set b fd) fr fq (Ld - 2)).2) n j Wk) n bs 8 0 ≤ 0 then bs else n)), .ref aP, .ref aH, .ref aC, .ref aT, .ref aB, .ref aZ, .ref aW, .ref aR, .ref oR, .ref oW])), (aP, .inl (cI, rm, .inl (pF (updN P n j)))), (aH, .inl (cI, rm, .inl (nF (updN Hh n (Hh j + 1))))), (aC, .inl (cI, rm, .inl (nF (updN Ch j (Ch j + 1))))), (aT, .inl (cJ, rm, .inr (.inl (vp_updL Tm n t)))), (aB, .inl (cJ, rm, .inr (.inl (vp_updL Bt n b)))), (aW, .inl (cJ, rm * 8, .inr (.inl (m_sum ((m_dv (m_set b fd) fr fq (Ld - 2)).2) n j Wk)))), (oW, .inr (1, [.ref dv, .ref rs, .ref qt, .long b])), (dv, .inl (cJ, 8, .inr (.inl (m_set b fd)))), (rs, .inl (cJ, 8, .inr (.inl ((m_dv (m_set b fd) fr fq (Ld - 2)).1)))), (qt, .inl (cJ, 8, .inr (.inl ((m_dv (m_set b fd) fr fq (Ld - 2)).2))))] H := hP
              have hD : va_D A [(aZ, .inl (cZ, rm, .inl (nF Zb))), (oR, .inr (0, [.ref aQ])), (aQ, .inl (cJ, 9, .inr (.inl pr))), (aR, .inl (cJ, 11, .inr (.inl ((m_med P Tm 11 0 (j + 1) Rk).1)))), (o, .inr (2, [.int (nI rm), .int (nI (n + 1)), .int (nI (if m_cmp (m_sum ((m_dv (m_set b fd) fr fq (Ld - 2)).2) n j Wk) n bs 8 0 ≤ 0 then bs else n)), .ref aP, .ref aH, .ref aC, .ref aT, .ref aB, .ref aZ, .ref aW, .ref aR, .ref oR, .ref oW])), (aP, .inl (cI, rm, .inl (pF (updN P n j)))), (aH, .inl (cI, rm, .inl (nF (updN Hh n (Hh j + 1))))), (aC, .inl (cI, rm, .inl (nF (updN Ch j (Ch j + 1))))), (aT, .inl (cJ, rm, .inr (.inl (vp_updL Tm n t)))), (aB, .inl (cJ, rm, .inr (.inl (vp_updL Bt n b)))), (aW, .inl (cJ, rm * 8, .inr (.inl (m_sum ((m_dv (m_set b fd) fr fq (Ld - 2)).2) n j Wk)))), (oW, .inr (1, [.ref dv, .ref rs, .ref qt, .long b])), (dv, .inl (cJ, 8, .inr (.inl (m_set b fd)))), (rs, .inl (cJ, 8, .inr (.inl ((m_dv (m_set b fd) fr fq (Ld - 2)).1)))), (qt, .inl (cJ, 8, .inr (.inl ((m_dv (m_set b fd) fr fq (Ld - 2)).2))))] := hD
              refine W.eq (g2 := F0 m 79 ls [.int (nI n)]) rfl ?_
              exact rw_iret (w := [(o, .inr (2, [.int (nI rm), .int (nI (n + 1)), .int (nI (if m_cmp (m_sum ((m_dv (m_set b fd) fr fq (Ld - 2)).2) n j Wk) n bs 8 0 ≤ 0 then bs else n)), .ref aP, .ref aH, .ref aC, .ref aT, .ref aB, .ref aZ, .ref aW, .ref aR, .ref oR, .ref oW])), (aP, .inl (cI, rm, .inl (pF (updN P n j)))), (aH, .inl (cI, rm, .inl (nF (updN Hh n (Hh j + 1))))), (aC, .inl (cI, rm, .inl (nF (updN Ch j (Ch j + 1))))), (aT, .inl (cJ, rm, .inr (.inl (vp_updL Tm n t)))), (aB, .inl (cJ, rm, .inr (.inl (vp_updL Bt n b)))), (aZ, .inl (cZ, rm, .inl (nF Zb))), (aW, .inl (cJ, rm * 8, .inr (.inl (m_sum ((m_dv (m_set b fd) fr fq (Ld - 2)).2) n j Wk)))), (aR, .inl (cJ, 11, .inr (.inl ((m_med P Tm 11 0 (j + 1) Rk).1)))), (oR, .inr (0, [.ref aQ])), (aQ, .inl (cJ, 9, .inr (.inl pr))), (oW, .inr (1, [.ref dv, .ref rs, .ref qt, .long b])), (dv, .inl (cJ, 8, .inr (.inl (m_set b fd)))), (rs, .inl (cJ, 8, .inr (.inl ((m_dv (m_set b fd) fr fq (Ld - 2)).1)))), (qt, .inl (cJ, 8, .inr (.inl ((m_dv (m_set b fd) fr fq (Ld - 2)).2))))]) hQ hx hb hr hlocks dT_add_79 (hP.sub [4, 5, 6, 7, 8, 9, 0, 10, 3, 1, 2, 11, 12, 13, 14] rfl) (hD.sub [4, 5, 6, 7, 8, 9, 0, 10, 3, 1, 2, 11, 12, 13, 14] (by decide) rfl) hS ⟨rfl, rfl⟩
            · skip
              have c_65 : rm ≤ n := n_nlt c_65 (by omega) (by omega)
              omega
          · skip
            exact absurd ht8 c_51
      · skip
        exact absurd hb9 c_30
    · skip
      rw [← nI_0] at c_16
      have c_16 : ¬ (Zb j) = 0 := n_ne c_16
      omega
  · skip
    rw [← nI_0] at c_5
    have c_5 : 1 = 0 := n_eq c_5 (by omega) (by omega)
    omega

abbrev rm_c_add_okSo : Room := { frames := 2, cells := 0, slots := 0, locals := 54 }
set_option maxRecDepth 100000 in
set_option maxHeartbeats 4000000 in
theorem c_add_okSo (l : Launch) (D : va_G) (cI cJ cZ : ClassId) (o : Nat) (rm : Nat) (n : Nat) (bs : Nat) (aP : Nat) (aH : Nat) (aC : Nat) (aT : Nat) (aB : Nat) (aZ : Nat) (aW : Nat) (aR : Nat) (oR : Nat) (oW : Nat) (P : Nat → Nat) (Hh : Nat → Nat) (Ch : Nat → Nat) (Tm : Nat → Int64) (Bt : Nat → Int64) (Zb : Nat → Nat) (Wk : Nat → Int64) (Rk : Nat → Int64) (aQ : Nat) (pr : Nat → Int64) (dv : Nat) (rs : Nat) (qt : Nat) (kn : Int64) (fd : Nat → Int64) (fr : Nat → Int64) (fq : Nat → Int64) (j : Nat) (t : Int64) (hn0 : 0 < n) (hn3 : n < rm) (hr3 : rm ≤ 300) (hj : j < n) (hbs : bs < n) (hHj : Hh j < 300) (hCj : Ch j < 300) (hz0 : Zb j = 0) (h8 : ¬ (Hh j + 1) % 8 = 0) (hb9 : kn = Bt j) (ht9 : (m_med P Tm 11 0 (j + 1) Rk).1 ((m_med P Tm 11 0 (j + 1) Rk).2 / 2) < t) (ht8 : t ≤ 4294967295) (hpar : ∀ x : Nat, 0 < x → x < n → P x < x) : rw_C l yT_add wT_add rm_c_add_okSo D vwCl (gT cI cJ cZ) [.ref o, .int (nI j), .long t, .long kn] [(o, .inr (2, [.int (nI rm), .int (nI n), .int (nI bs), .ref aP, .ref aH, .ref aC, .ref aT, .ref aB, .ref aZ, .ref aW, .ref aR, .ref oR, .ref oW])), (aP, .inl (cI, rm, .inl (pF P))), (aH, .inl (cI, rm, .inl (nF Hh))), (aC, .inl (cI, rm, .inl (nF Ch))), (aT, .inl (cJ, rm, .inr (.inl Tm))), (aB, .inl (cJ, rm, .inr (.inl Bt))), (aZ, .inl (cZ, rm, .inl (nF Zb))), (aW, .inl (cJ, rm * 8, .inr (.inl Wk))), (aR, .inl (cJ, 11, .inr (.inl Rk))), (oR, .inr (0, [.ref aQ])), (aQ, .inl (cJ, 9, .inr (.inl pr))), (oW, .inr (1, [.ref dv, .ref rs, .ref qt, .long kn])), (dv, .inl (cJ, 8, .inr (.inl fd))), (rs, .inl (cJ, 8, .inr (.inl fr))), (qt, .inl (cJ, 8, .inr (.inl fq)))] (fun v9 w9 => v9 = some (.int (nI n)) ∧ w9 = [(o, .inr (2, [.int (nI rm), .int (nI (n + 1)), .int (nI (if m_cmp (m_sum fq n j Wk) n bs 8 0 ≤ 0 then bs else n)), .ref aP, .ref aH, .ref aC, .ref aT, .ref aB, .ref aZ, .ref aW, .ref aR, .ref oR, .ref oW])), (aP, .inl (cI, rm, .inl (pF (updN P n j)))), (aH, .inl (cI, rm, .inl (nF (updN Hh n (Hh j + 1))))), (aC, .inl (cI, rm, .inl (nF (updN Ch j (Ch j + 1))))), (aT, .inl (cJ, rm, .inr (.inl (vp_updL Tm n t)))), (aB, .inl (cJ, rm, .inr (.inl (vp_updL Bt n kn)))), (aZ, .inl (cZ, rm, .inl (nF Zb))), (aW, .inl (cJ, rm * 8, .inr (.inl (m_sum fq n j Wk)))), (aR, .inl (cJ, 11, .inr (.inl ((m_med P Tm 11 0 (j + 1) Rk).1)))), (oR, .inr (0, [.ref aQ])), (aQ, .inl (cJ, 9, .inr (.inl pr))), (oW, .inr (1, [.ref dv, .ref rs, .ref qt, .long kn])), (dv, .inl (cJ, 8, .inr (.inl fd))), (rs, .inl (cJ, 8, .inr (.inl fr))), (qt, .inl (cJ, 8, .inr (.inl fq)))]) 0 0 := by
  refine rw_of (cc := cT_add) (maxL := 6) (ret := some .int) (by decide) rfl (Nat.le_of_ble_eq_true rfl) ?_
  intro p e s m args below meth c Q A ls hx hb hr hml hown hts hlocks hin hK hP hD hA hl hQ
  have hS : va_S A s.heap s.heap [] := va_S.rf
  have hl : lv_has ls 6 [(0, .ref o), (1, .int (nI j)), (2, .long t), (4, .long kn)] := hl
  have hown : s.vm.findClass RT = some m.cls := hown
  obtain ⟨H, hHe⟩ : ∃ H : Heap, H = s.heap := ⟨_, rfl⟩
  rw [← hHe] at hP
  have hS : va_S A s.heap H [] := by rw [hHe]; exact va_S.rf
  suffices h9 : W p l e rm_c_add_okSo s m args below meth c H [] 0 0 Q (F0 m 0 ls []) by rw [hHe] at h9; exact h9
  clear hHe
  refine lv_aload_n hx hb dT_add_0 rfl (lv_at hl 0 rfl) ?_
  refine lv_iload_n hx hb dT_add_1 rfl (lv_at hl 1 rfl) ?_
  refine ro_ki (va_runV (As := [.int (nI j)]) (rest := []) ⟨hx, hb, hml, hown, hts⟩ (c_isBlock_ok l D cI cJ cZ o rm n bs aP aH aC aT aB aZ aW aR oR oW j (by omega) (by omega)) (cwV 1 hts gT_add_T_isBlock_76 rfl rfl rfl (by decide +kernel) ⟨Nat.le_of_ble_eq_true rfl, Nat.le_of_ble_eq_true rfl⟩) (ro_preV (hP.sub [0] rfl) hK (va_recv hK hP (ci := 2) (q0 := 0) rfl rfl)) rfl rfl hl.1 rfl (lv_room (Nat.le_of_ble_eq_true rfl)) dT_add_2 ⟨Nat.le_of_ble_eq_true rfl, Nat.le_of_ble_eq_true rfl⟩) ?_
  refine lv_if_ne (tgt := 10) hx hb dT_add_5 (by decide) (fun c_5 => ?_) (fun c_5 => ?_)
  · skip
    rw [← nI_0] at c_5
    have c_5 : ¬ 1 = 0 := n_ne c_5
    refine lv_aload_n hx hb dT_add_10 rfl (lv_at hl 0 rfl) ?_
    refine va_get (D := D) (ci := 2) (v := .ref aZ) (C := RT) (T := TT) (N := 13) hx hb hts iT_add_T hown hK hP 0 rfl rfl 8 (by decide) (hts (.fieldLink RT 30 "TreeDesk" "bad" "[Z") (by decide +kernel)) (fun _ h9 => h9) rfl dT_add_11 ?_
    refine lv_iload_n hx hb dT_add_14 rfl (lv_at hl 1 rfl) ?_
    refine ar_zld (j := j) hx hb hK hP 6 2 rfl rfl dT_add_15 (by omega) (by omega) ?_
    refine tp_i (y := nI (Zb j)) rfl ?_
    refine lv_if_eq (tgt := 22) hx hb dT_add_16 (by decide) (fun c_16 => ?_) (fun c_16 => ?_)
    · skip
      rw [← nI_0] at c_16
      have c_16 : (Zb j) = 0 := n_eq c_16 (by omega) (by omega)
      refine lv_lload hx hb dT_add_22 (lv_at hl 3 rfl) ?_
      refine lv_aload_n hx hb dT_add_24 rfl (lv_at hl 0 rfl) ?_
      refine lv_iload_n hx hb dT_add_25 rfl (lv_at hl 1 rfl) ?_
      refine ro_kl (va_runV (As := [.int (nI j)]) (rest := [.long kn]) ⟨hx, hb, hml, hown, hts⟩ (c_must_same l D cI cJ cZ o rm n bs aP aH aC aT aB aZ aW aR oR oW Hh Bt j (by omega) (by omega) (by omega) (by omega) h8) (cwV 1 hts gT_add_T_must_80 rfl rfl rfl (by decide +kernel) ⟨Nat.le_of_ble_eq_true rfl, Nat.le_of_ble_eq_true rfl⟩) (ro_preV (hP.sub [0, 2, 5] rfl) hK (va_recv hK hP (ci := 2) (q0 := 0) rfl rfl)) rfl rfl hl.1 rfl (lv_room (Nat.le_of_ble_eq_true rfl)) dT_add_26 ⟨Nat.le_of_ble_eq_true rfl, Nat.le_of_ble_eq_true rfl⟩) ?_
      refine lc_eq (tgt := 36) hx hb dT_add_29 dT_add_30 (by decide) (fun c_30 => ?_) (fun c_30 => ?_)
      · skip
        refine lv_lload_n hx hb dT_add_36 rfl (lv_at hl 2 rfl) ?_
        refine lv_aload_n hx hb dT_add_37 rfl (lv_at hl 0 rfl) ?_
        refine lv_iload_n hx hb dT_add_38 rfl (lv_at hl 1 rfl) ?_
        refine rw_k (wc := [(o, .inr (2, [.int (nI rm), .int (nI n), .int (nI bs), .ref aP, .ref aH, .ref aC, .ref aT, .ref aB, .ref aZ, .ref aW, .ref aR, .ref oR, .ref oW])), (aP, .inl (cI, rm, .inl (pF P))), (aT, .inl (cJ, rm, .inr (.inl Tm))), (aR, .inl (cJ, 11, .inr (.inl Rk)))]) (wr := [(aH, .inl (cI, rm, .inl (nF Hh))), (aC, .inl (cI, rm, .inl (nF Ch))), (aB, .inl (cJ, rm, .inr (.inl Bt))), (aZ, .inl (cZ, rm, .inl (nF Zb))), (aW, .inl (cJ, rm * 8, .inr (.inl Wk))), (oR, .inr (0, [.ref aQ])), (aQ, .inl (cJ, 9, .inr (.inl pr))), (oW, .inr (1, [.ref dv, .ref rs, .ref qt, .long kn])), (dv, .inl (cJ, 8, .inr (.inl fd))), (rs, .inl (cJ, 8, .inr (.inl fr))), (qt, .inl (cJ, 8, .inr (.inl fq)))]) (va_runV (As := [.int (nI j)]) (rest := [.long t]) ⟨hx, hb, hml, hown, hts⟩ (c_median_ok l D cI cJ cZ o rm n bs aP aH aC aT aB aZ aW aR oR oW P Tm Rk j (by omega) (by omega) (by omega) hpar H.size) (cwV 1 hts gT_add_T_median_84 rfl rfl rfl (by decide +kernel) ⟨Nat.le_of_ble_eq_true rfl, Nat.le_of_ble_eq_true rfl⟩) (rw_preV (hP.sub [0, 1, 4, 8] rfl) hK (hD.sub [0, 1, 4, 8] (by decide) rfl) (va_recv hK hP (ci := 2) (q0 := 0) rfl rfl)) rfl rfl hl.1 rfl (lv_room (Nat.le_of_ble_eq_true rfl)) dT_add_39 ⟨Nat.le_of_ble_eq_true rfl, Nat.le_of_ble_eq_true rfl⟩) hP hD hS hA [0, 1, 4, 8] [2, 3, 5, 6, 7, 9, 10, 11, 12, 13, 14] rfl rfl (by decide) (by decide) (fun v9 w9 H locs hp9 hP hD hS => ?_)
        obtain ⟨rfl, rfl⟩ := hp9
        have hP : va_P D vwCl [(aH, .inl (cI, rm, .inl (nF Hh))), (aC, .inl (cI, rm, .inl (nF Ch))), (aB, .inl (cJ, rm, .inr (.inl Bt))), (aZ, .inl (cZ, rm, .inl (nF Zb))), (aW, .inl (cJ, rm * 8, .inr (.inl Wk))), (oR, .inr (0, [.ref aQ])), (aQ, .inl (cJ, 9, .inr (.inl pr))), (oW, .inr (1, [.ref dv, .ref rs, .ref qt, .long kn])), (dv, .inl (cJ, 8, .inr (.inl fd))), (rs, .inl (cJ, 8, .inr (.inl fr))), (qt, .inl (cJ, 8, .inr (.inl fq))), (o, .inr (2, [.int (nI rm), .int (nI n), .int (nI bs), .ref aP, .ref aH, .ref aC, .ref aT, .ref aB, .ref aZ, .ref aW, .ref aR, .ref oR, .ref oW])), (aP, .inl (cI, rm, .inl (pF P))), (aT, .inl (cJ, rm, .inr (.inl Tm))), (aR, .inl (cJ, 11, .inr (.inl ((m_med P Tm 11 0 (j + 1) Rk).1))))] H := hP
        have hD : va_D A [(aH, .inl (cI, rm, .inl (nF Hh))), (aC, .inl (cI, rm, .inl (nF Ch))), (aB, .inl (cJ, rm, .inr (.inl Bt))), (aZ, .inl (cZ, rm, .inl (nF Zb))), (aW, .inl (cJ, rm * 8, .inr (.inl Wk))), (oR, .inr (0, [.ref aQ])), (aQ, .inl (cJ, 9, .inr (.inl pr))), (oW, .inr (1, [.ref dv, .ref rs, .ref qt, .long kn])), (dv, .inl (cJ, 8, .inr (.inl fd))), (rs, .inl (cJ, 8, .inr (.inl fr))), (qt, .inl (cJ, 8, .inr (.inl fq))), (o, .inr (2, [.int (nI rm), .int (nI n), .int (nI bs), .ref aP, .ref aH, .ref aC, .ref aT, .ref aB, .ref aZ, .ref aW, .ref aR, .ref oR, .ref oW])), (aP, .inl (cI, rm, .inl (pF P))), (aT, .inl (cJ, rm, .inr (.inl Tm))), (aR, .inl (cJ, 11, .inr (.inl ((m_med P Tm 11 0 (j + 1) Rk).1))))] := hD
        refine W.eq (g2 := F0 m 42 ls [.long ((m_med P Tm 11 0 (j + 1) Rk).1 ((m_med P Tm 11 0 (j + 1) Rk).2 / 2)), .long t]) rfl ?_
        refine lc_le (tgt := 54) hx hb dT_add_42 dT_add_43 (by decide) (fun c_43 => ?_) (fun c_43 => ?_)
        · skip
          exact absurd ht9 (Int64.not_lt.mpr c_43)
        · skip
          refine lv_lload_n hx hb dT_add_46 rfl (lv_at hl 2 rfl) ?_
          refine lv_ldc2 (v := 4294967295) hx hb hown (hts (.constantLong RT 56 4294967295) (by decide +kernel)) dT_add_47 ?_
          refine lc_le (tgt := 57) hx hb dT_add_50 dT_add_51 (by decide) (fun c_51 => ?_) (fun c_51 => ?_)
          · skip
            refine lv_aload_n hx hb dT_add_57 rfl (lv_at hl 0 rfl) ?_
            refine va_get (D := D) (ci := 2) (v := .int (nI n)) (C := RT) (T := TT) (N := 13) hx hb hts iT_add_T hown hK hP 11 rfl rfl 1 (by decide) (hts (.fieldLink RT 70 "TreeDesk" "count" "I") (by decide +kernel)) (fun _ h9 => h9) rfl dT_add_58 ?_
            refine lv_aload_n hx hb dT_add_61 rfl (lv_at hl 0 rfl) ?_
            refine va_get (D := D) (ci := 2) (v := .int (nI rm)) (C := RT) (T := TT) (N := 13) hx hb hts iT_add_T hown hK hP 11 rfl rfl 0 (by decide) (hts (.fieldLink RT 9 "TreeDesk" "room" "I") (by decide +kernel)) (fun _ h9 => h9) rfl dT_add_62 ?_
            refine lv_icmp_lt (tgt := 71) hx hb dT_add_65 (by decide) (fun c_65 => ?_) (fun c_65 => ?_)
            · skip
              have c_65 : n < rm := n_lt c_65 (by omega) (by omega)
              refine lv_aload_n hx hb dT_add_71 rfl (lv_at hl 0 rfl) ?_
              refine lv_iload_n hx hb dT_add_72 rfl (lv_at hl 1 rfl) ?_
              refine lv_lload_n hx hb dT_add_73 rfl (lv_at hl 2 rfl) ?_
              refine lv_lload hx hb dT_add_74 (lv_at hl 3 rfl) ?_
              refine rw_k (wc := [(o, .inr (2, [.int (nI rm), .int (nI n), .int (nI bs), .ref aP, .ref aH, .ref aC, .ref aT, .ref aB, .ref aZ, .ref aW, .ref aR, .ref oR, .ref oW])), (aP, .inl (cI, rm, .inl (pF P))), (aH, .inl (cI, rm, .inl (nF Hh))), (aC, .inl (cI, rm, .inl (nF Ch))), (aT, .inl (cJ, rm, .inr (.inl Tm))), (aB, .inl (cJ, rm, .inr (.inl Bt))), (aW, .inl (cJ, rm * 8, .inr (.inl Wk))), (oW, .inr (1, [.ref dv, .ref rs, .ref qt, .long kn])), (dv, .inl (cJ, 8, .inr (.inl fd))), (rs, .inl (cJ, 8, .inr (.inl fr))), (qt, .inl (cJ, 8, .inr (.inl fq)))]) (wr := [(aZ, .inl (cZ, rm, .inl (nF Zb))), (oR, .inr (0, [.ref aQ])), (aQ, .inl (cJ, 9, .inr (.inl pr))), (aR, .inl (cJ, 11, .inr (.inl ((m_med P Tm 11 0 (j + 1) Rk).1))))]) (va_runV (As := [.int (nI j), .long t, .long kn]) (rest := []) ⟨hx, hb, hml, hown, hts⟩ (c_append_old l D cI cJ cZ o rm n bs aP aH aC aT aB aZ aW aR oR oW P Hh Ch Tm Bt Wk dv rs qt kn fd fr fq j t (by omega) (by omega) (by omega) (by omega) (by omega) (by omega) (by omega) H.size) (cwV 3 hts gT_add_T_append_87 rfl rfl rfl (by decide +kernel) ⟨Nat.le_of_ble_eq_true rfl, Nat.le_of_ble_eq_true rfl⟩) (rw_preV (hP.sub [11, 12, 0, 1, 13, 2, 4, 7, 8, 9, 10] rfl) hK (hD.sub [11, 12, 0, 1, 13, 2, 4, 7, 8, 9, 10] (by decide) rfl) (va_recv hK hP (ci := 2) (q0 := 11) rfl rfl)) rfl rfl hl.1 rfl (lv_room (Nat.le_of_ble_eq_true rfl)) dT_add_76 ⟨Nat.le_of_ble_eq_true rfl, Nat.le_of_ble_eq_true rfl⟩) hP hD hS hA [11, 12, 0, 1, 13, 2, 4, 7, 8, 9, 10] [3, 5, 6, 14] rfl rfl (by decide) (by decide) (fun v9 w9 H locs hp9 hP hD hS => ?_)
              obtain ⟨rfl, rfl⟩ := hp9
              have hP : va_P D vwCl [(aZ, .inl (cZ, rm, .inl (nF Zb))), (oR, .inr (0, [.ref aQ])), (aQ, .inl (cJ, 9, .inr (.inl pr))), (aR, .inl (cJ, 11, .inr (.inl ((m_med P Tm 11 0 (j + 1) Rk).1)))), (o, .inr (2, [.int (nI rm), .int (nI (n + 1)), .int (nI (if m_cmp (m_sum fq n j Wk) n bs 8 0 ≤ 0 then bs else n)), .ref aP, .ref aH, .ref aC, .ref aT, .ref aB, .ref aZ, .ref aW, .ref aR, .ref oR, .ref oW])), (aP, .inl (cI, rm, .inl (pF (updN P n j)))), (aH, .inl (cI, rm, .inl (nF (updN Hh n (Hh j + 1))))), (aC, .inl (cI, rm, .inl (nF (updN Ch j (Ch j + 1))))), (aT, .inl (cJ, rm, .inr (.inl (vp_updL Tm n t)))), (aB, .inl (cJ, rm, .inr (.inl (vp_updL Bt n kn)))), (aW, .inl (cJ, rm * 8, .inr (.inl (m_sum fq n j Wk)))), (oW, .inr (1, [.ref dv, .ref rs, .ref qt, .long kn])), (dv, .inl (cJ, 8, .inr (.inl fd))), (rs, .inl (cJ, 8, .inr (.inl fr))), (qt, .inl (cJ, 8, .inr (.inl fq)))] H := hP
              have hD : va_D A [(aZ, .inl (cZ, rm, .inl (nF Zb))), (oR, .inr (0, [.ref aQ])), (aQ, .inl (cJ, 9, .inr (.inl pr))), (aR, .inl (cJ, 11, .inr (.inl ((m_med P Tm 11 0 (j + 1) Rk).1)))), (o, .inr (2, [.int (nI rm), .int (nI (n + 1)), .int (nI (if m_cmp (m_sum fq n j Wk) n bs 8 0 ≤ 0 then bs else n)), .ref aP, .ref aH, .ref aC, .ref aT, .ref aB, .ref aZ, .ref aW, .ref aR, .ref oR, .ref oW])), (aP, .inl (cI, rm, .inl (pF (updN P n j)))), (aH, .inl (cI, rm, .inl (nF (updN Hh n (Hh j + 1))))), (aC, .inl (cI, rm, .inl (nF (updN Ch j (Ch j + 1))))), (aT, .inl (cJ, rm, .inr (.inl (vp_updL Tm n t)))), (aB, .inl (cJ, rm, .inr (.inl (vp_updL Bt n kn)))), (aW, .inl (cJ, rm * 8, .inr (.inl (m_sum fq n j Wk)))), (oW, .inr (1, [.ref dv, .ref rs, .ref qt, .long kn])), (dv, .inl (cJ, 8, .inr (.inl fd))), (rs, .inl (cJ, 8, .inr (.inl fr))), (qt, .inl (cJ, 8, .inr (.inl fq)))] := hD
              refine W.eq (g2 := F0 m 79 ls [.int (nI n)]) rfl ?_
              exact rw_iret (w := [(o, .inr (2, [.int (nI rm), .int (nI (n + 1)), .int (nI (if m_cmp (m_sum fq n j Wk) n bs 8 0 ≤ 0 then bs else n)), .ref aP, .ref aH, .ref aC, .ref aT, .ref aB, .ref aZ, .ref aW, .ref aR, .ref oR, .ref oW])), (aP, .inl (cI, rm, .inl (pF (updN P n j)))), (aH, .inl (cI, rm, .inl (nF (updN Hh n (Hh j + 1))))), (aC, .inl (cI, rm, .inl (nF (updN Ch j (Ch j + 1))))), (aT, .inl (cJ, rm, .inr (.inl (vp_updL Tm n t)))), (aB, .inl (cJ, rm, .inr (.inl (vp_updL Bt n kn)))), (aZ, .inl (cZ, rm, .inl (nF Zb))), (aW, .inl (cJ, rm * 8, .inr (.inl (m_sum fq n j Wk)))), (aR, .inl (cJ, 11, .inr (.inl ((m_med P Tm 11 0 (j + 1) Rk).1)))), (oR, .inr (0, [.ref aQ])), (aQ, .inl (cJ, 9, .inr (.inl pr))), (oW, .inr (1, [.ref dv, .ref rs, .ref qt, .long kn])), (dv, .inl (cJ, 8, .inr (.inl fd))), (rs, .inl (cJ, 8, .inr (.inl fr))), (qt, .inl (cJ, 8, .inr (.inl fq)))]) hQ hx hb hr hlocks dT_add_79 (hP.sub [4, 5, 6, 7, 8, 9, 0, 10, 3, 1, 2, 11, 12, 13, 14] rfl) (hD.sub [4, 5, 6, 7, 8, 9, 0, 10, 3, 1, 2, 11, 12, 13, 14] (by decide) rfl) hS ⟨rfl, rfl⟩
            · skip
              have c_65 : rm ≤ n := n_nlt c_65 (by omega) (by omega)
              omega
          · skip
            exact absurd ht8 c_51
      · skip
        exact absurd hb9 c_30
    · skip
      rw [← nI_0] at c_16
      have c_16 : ¬ (Zb j) = 0 := n_ne c_16
      omega
  · skip
    rw [← nI_0] at c_5
    have c_5 : 1 = 0 := n_eq c_5 (by omega) (by omega)
    omega

abbrev rm_c_add_okRn : Room := { frames := 7, cells := 0, slots := 0, locals := 156 }
set_option maxRecDepth 100000 in
set_option maxHeartbeats 4000000 in
theorem c_add_okRn (l : Launch) (D : va_G) (cI cJ cZ : ClassId) (o : Nat) (rm : Nat) (n : Nat) (bs : Nat) (aP : Nat) (aH : Nat) (aC : Nat) (aT : Nat) (aB : Nat) (aZ : Nat) (aW : Nat) (aR : Nat) (oR : Nat) (oW : Nat) (P : Nat → Nat) (Hh : Nat → Nat) (Ch : Nat → Nat) (Tm : Nat → Int64) (Bt : Nat → Int64) (Zb : Nat → Nat) (Wk : Nat → Int64) (Rk : Nat → Int64) (aQ : Nat) (pr : Nat → Int64) (dv : Nat) (rs : Nat) (qt : Nat) (kn : Int64) (fd : Nat → Int64) (fr : Nat → Int64) (fq : Nat → Int64) (j : Nat) (t : Int64) (b : Int64) (Ld : Nat) (hn0 : 0 < n) (hn3 : n < rm) (hr3 : rm ≤ 300) (hj : j < n) (hbs : bs < n) (hHj : Hh j < 300) (hCj : Ch j < 300) (hz0 : Zb j = 0) (h8 : (Hh j + 1) % 8 = 0) (hb9 : b = m_next (m_pr (Bt j) (Tm j - Tm (m_anc P (Hh j - (Hh j - 7)) j)) pr)) (ht9 : (m_med P Tm 11 0 (j + 1) Rk).1 ((m_med P Tm 11 0 (j + 1) Rk).2 / 2) < t) (ht8 : t ≤ 4294967295) (hk9 : ¬ b = kn) (hLd : m_dlen (m_set b fd) 8 0 = nI Ld) (hL2 : 2 ≤ Ld) (hL6 : Ld ≤ 256) (hpar : ∀ x : Nat, 0 < x → x < n → P x < x) : rw_C l yT_add wT_add rm_c_add_okRn D vwCl (gT cI cJ cZ) [.ref o, .int (nI j), .long t, .long b] [(o, .inr (2, [.int (nI rm), .int (nI n), .int (nI bs), .ref aP, .ref aH, .ref aC, .ref aT, .ref aB, .ref aZ, .ref aW, .ref aR, .ref oR, .ref oW])), (aP, .inl (cI, rm, .inl (pF P))), (aH, .inl (cI, rm, .inl (nF Hh))), (aC, .inl (cI, rm, .inl (nF Ch))), (aT, .inl (cJ, rm, .inr (.inl Tm))), (aB, .inl (cJ, rm, .inr (.inl Bt))), (aZ, .inl (cZ, rm, .inl (nF Zb))), (aW, .inl (cJ, rm * 8, .inr (.inl Wk))), (aR, .inl (cJ, 11, .inr (.inl Rk))), (oR, .inr (0, [.ref aQ])), (aQ, .inl (cJ, 9, .inr (.inl pr))), (oW, .inr (1, [.ref dv, .ref rs, .ref qt, .long kn])), (dv, .inl (cJ, 8, .inr (.inl fd))), (rs, .inl (cJ, 8, .inr (.inl fr))), (qt, .inl (cJ, 8, .inr (.inl fq)))] (fun v9 w9 => v9 = some (.int (nI n)) ∧ w9 = [(o, .inr (2, [.int (nI rm), .int (nI (n + 1)), .int (nI (if m_cmp (m_sum ((m_dv (m_set b fd) fr fq (Ld - 2)).2) n j Wk) n bs 8 0 ≤ 0 then bs else n)), .ref aP, .ref aH, .ref aC, .ref aT, .ref aB, .ref aZ, .ref aW, .ref aR, .ref oR, .ref oW])), (aP, .inl (cI, rm, .inl (pF (updN P n j)))), (aH, .inl (cI, rm, .inl (nF (updN Hh n (Hh j + 1))))), (aC, .inl (cI, rm, .inl (nF (updN Ch j (Ch j + 1))))), (aT, .inl (cJ, rm, .inr (.inl (vp_updL Tm n t)))), (aB, .inl (cJ, rm, .inr (.inl (vp_updL Bt n b)))), (aZ, .inl (cZ, rm, .inl (nF Zb))), (aW, .inl (cJ, rm * 8, .inr (.inl (m_sum ((m_dv (m_set b fd) fr fq (Ld - 2)).2) n j Wk)))), (aR, .inl (cJ, 11, .inr (.inl ((m_med P Tm 11 0 (j + 1) Rk).1)))), (oR, .inr (0, [.ref aQ])), (aQ, .inl (cJ, 9, .inr (.inl (m_pr (Bt j) (Tm j - Tm (m_anc P (Hh j - (Hh j - 7)) j)) pr)))), (oW, .inr (1, [.ref dv, .ref rs, .ref qt, .long b])), (dv, .inl (cJ, 8, .inr (.inl (m_set b fd)))), (rs, .inl (cJ, 8, .inr (.inl ((m_dv (m_set b fd) fr fq (Ld - 2)).1)))), (qt, .inl (cJ, 8, .inr (.inl ((m_dv (m_set b fd) fr fq (Ld - 2)).2))))]) 0 0 := by
  refine rw_of (cc := cT_add) (maxL := 6) (ret := some .int) (by decide) rfl (Nat.le_of_ble_eq_true rfl) ?_
  intro p e s m args below meth c Q A ls hx hb hr hml hown hts hlocks hin hK hP hD hA hl hQ
  have hS : va_S A s.heap s.heap [] := va_S.rf
  have hl : lv_has ls 6 [(0, .ref o), (1, .int (nI j)), (2, .long t), (4, .long b)] := hl
  have hown : s.vm.findClass RT = some m.cls := hown
  obtain ⟨H, hHe⟩ : ∃ H : Heap, H = s.heap := ⟨_, rfl⟩
  rw [← hHe] at hP
  have hS : va_S A s.heap H [] := by rw [hHe]; exact va_S.rf
  suffices h9 : W p l e rm_c_add_okRn s m args below meth c H [] 0 0 Q (F0 m 0 ls []) by rw [hHe] at h9; exact h9
  clear hHe
  refine lv_aload_n hx hb dT_add_0 rfl (lv_at hl 0 rfl) ?_
  refine lv_iload_n hx hb dT_add_1 rfl (lv_at hl 1 rfl) ?_
  refine ro_ki (va_runV (As := [.int (nI j)]) (rest := []) ⟨hx, hb, hml, hown, hts⟩ (c_isBlock_ok l D cI cJ cZ o rm n bs aP aH aC aT aB aZ aW aR oR oW j (by omega) (by omega)) (cwV 1 hts gT_add_T_isBlock_76 rfl rfl rfl (by decide +kernel) ⟨Nat.le_of_ble_eq_true rfl, Nat.le_of_ble_eq_true rfl⟩) (ro_preV (hP.sub [0] rfl) hK (va_recv hK hP (ci := 2) (q0 := 0) rfl rfl)) rfl rfl hl.1 rfl (lv_room (Nat.le_of_ble_eq_true rfl)) dT_add_2 ⟨Nat.le_of_ble_eq_true rfl, Nat.le_of_ble_eq_true rfl⟩) ?_
  refine lv_if_ne (tgt := 10) hx hb dT_add_5 (by decide) (fun c_5 => ?_) (fun c_5 => ?_)
  · skip
    rw [← nI_0] at c_5
    have c_5 : ¬ 1 = 0 := n_ne c_5
    refine lv_aload_n hx hb dT_add_10 rfl (lv_at hl 0 rfl) ?_
    refine va_get (D := D) (ci := 2) (v := .ref aZ) (C := RT) (T := TT) (N := 13) hx hb hts iT_add_T hown hK hP 0 rfl rfl 8 (by decide) (hts (.fieldLink RT 30 "TreeDesk" "bad" "[Z") (by decide +kernel)) (fun _ h9 => h9) rfl dT_add_11 ?_
    refine lv_iload_n hx hb dT_add_14 rfl (lv_at hl 1 rfl) ?_
    refine ar_zld (j := j) hx hb hK hP 6 2 rfl rfl dT_add_15 (by omega) (by omega) ?_
    refine tp_i (y := nI (Zb j)) rfl ?_
    refine lv_if_eq (tgt := 22) hx hb dT_add_16 (by decide) (fun c_16 => ?_) (fun c_16 => ?_)
    · skip
      rw [← nI_0] at c_16
      have c_16 : (Zb j) = 0 := n_eq c_16 (by omega) (by omega)
      refine lv_lload hx hb dT_add_22 (lv_at hl 3 rfl) ?_
      refine lv_aload_n hx hb dT_add_24 rfl (lv_at hl 0 rfl) ?_
      refine lv_iload_n hx hb dT_add_25 rfl (lv_at hl 1 rfl) ?_
      refine rw_k (wc := [(o, .inr (2, [.int (nI rm), .int (nI n), .int (nI bs), .ref aP, .ref aH, .ref aC, .ref aT, .ref aB, .ref aZ, .ref aW, .ref aR, .ref oR, .ref oW])), (aP, .inl (cI, rm, .inl (pF P))), (aH, .inl (cI, rm, .inl (nF Hh))), (aT, .inl (cJ, rm, .inr (.inl Tm))), (aB, .inl (cJ, rm, .inr (.inl Bt))), (oR, .inr (0, [.ref aQ])), (aQ, .inl (cJ, 9, .inr (.inl pr)))]) (wr := [(aC, .inl (cI, rm, .inl (nF Ch))), (aZ, .inl (cZ, rm, .inl (nF Zb))), (aW, .inl (cJ, rm * 8, .inr (.inl Wk))), (aR, .inl (cJ, 11, .inr (.inl Rk))), (oW, .inr (1, [.ref dv, .ref rs, .ref qt, .long kn])), (dv, .inl (cJ, 8, .inr (.inl fd))), (rs, .inl (cJ, 8, .inr (.inl fr))), (qt, .inl (cJ, 8, .inr (.inl fq)))]) (va_runV (As := [.int (nI j)]) (rest := [.long b]) ⟨hx, hb, hml, hown, hts⟩ (c_must_ret l D cI cJ cZ o rm n bs aP aH aC aT aB aZ aW aR oR oW P Hh Tm Bt aQ pr j (by omega) (by omega) (by omega) (by omega) h8 hpar H.size) (cwV 1 hts gT_add_T_must_80 rfl rfl rfl (by decide +kernel) ⟨Nat.le_of_ble_eq_true rfl, Nat.le_of_ble_eq_true rfl⟩) (rw_preV (hP.sub [0, 1, 2, 4, 5, 9, 10] rfl) hK (hD.sub [0, 1, 2, 4, 5, 9, 10] (by decide) rfl) (va_recv hK hP (ci := 2) (q0 := 0) rfl rfl)) rfl rfl hl.1 rfl (lv_room (Nat.le_of_ble_eq_true rfl)) dT_add_26 ⟨Nat.le_of_ble_eq_true rfl, Nat.le_of_ble_eq_true rfl⟩) hP hD hS hA [0, 1, 2, 4, 5, 9, 10] [3, 6, 7, 8, 11, 12, 13, 14] rfl rfl (by decide) (by decide) (fun v9 w9 H locs hp9 hP hD hS => ?_)
      obtain ⟨rfl, rfl⟩ := hp9
      have hP : va_P D vwCl [(aC, .inl (cI, rm, .inl (nF Ch))), (aZ, .inl (cZ, rm, .inl (nF Zb))), (aW, .inl (cJ, rm * 8, .inr (.inl Wk))), (aR, .inl (cJ, 11, .inr (.inl Rk))), (oW, .inr (1, [.ref dv, .ref rs, .ref qt, .long kn])), (dv, .inl (cJ, 8, .inr (.inl fd))), (rs, .inl (cJ, 8, .inr (.inl fr))), (qt, .inl (cJ, 8, .inr (.inl fq))), (o, .inr (2, [.int (nI rm), .int (nI n), .int (nI bs), .ref aP, .ref aH, .ref aC, .ref aT, .ref aB, .ref aZ, .ref aW, .ref aR, .ref oR, .ref oW])), (aP, .inl (cI, rm, .inl (pF P))), (aH, .inl (cI, rm, .inl (nF Hh))), (aT, .inl (cJ, rm, .inr (.inl Tm))), (aB, .inl (cJ, rm, .inr (.inl Bt))), (oR, .inr (0, [.ref aQ])), (aQ, .inl (cJ, 9, .inr (.inl (m_pr (Bt j) (Tm j - Tm (m_anc P (Hh j - (Hh j - 7)) j)) pr))))] H := hP
      have hD : va_D A [(aC, .inl (cI, rm, .inl (nF Ch))), (aZ, .inl (cZ, rm, .inl (nF Zb))), (aW, .inl (cJ, rm * 8, .inr (.inl Wk))), (aR, .inl (cJ, 11, .inr (.inl Rk))), (oW, .inr (1, [.ref dv, .ref rs, .ref qt, .long kn])), (dv, .inl (cJ, 8, .inr (.inl fd))), (rs, .inl (cJ, 8, .inr (.inl fr))), (qt, .inl (cJ, 8, .inr (.inl fq))), (o, .inr (2, [.int (nI rm), .int (nI n), .int (nI bs), .ref aP, .ref aH, .ref aC, .ref aT, .ref aB, .ref aZ, .ref aW, .ref aR, .ref oR, .ref oW])), (aP, .inl (cI, rm, .inl (pF P))), (aH, .inl (cI, rm, .inl (nF Hh))), (aT, .inl (cJ, rm, .inr (.inl Tm))), (aB, .inl (cJ, rm, .inr (.inl Bt))), (oR, .inr (0, [.ref aQ])), (aQ, .inl (cJ, 9, .inr (.inl (m_pr (Bt j) (Tm j - Tm (m_anc P (Hh j - (Hh j - 7)) j)) pr))))] := hD
      refine W.eq (g2 := F0 m 29 ls [.long (m_next (m_pr (Bt j) (Tm j - Tm (m_anc P (Hh j - (Hh j - 7)) j)) pr)), .long b]) rfl ?_
      refine lc_eq (tgt := 36) hx hb dT_add_29 dT_add_30 (by decide) (fun c_30 => ?_) (fun c_30 => ?_)
      · skip
        refine lv_lload_n hx hb dT_add_36 rfl (lv_at hl 2 rfl) ?_
        refine lv_aload_n hx hb dT_add_37 rfl (lv_at hl 0 rfl) ?_
        refine lv_iload_n hx hb dT_add_38 rfl (lv_at hl 1 rfl) ?_
        refine rw_k (wc := [(o, .inr (2, [.int (nI rm), .int (nI n), .int (nI bs), .ref aP, .ref aH, .ref aC, .ref aT, .ref aB, .ref aZ, .ref aW, .ref aR, .ref oR, .ref oW])), (aP, .inl (cI, rm, .inl (pF P))), (aT, .inl (cJ, rm, .inr (.inl Tm))), (aR, .inl (cJ, 11, .inr (.inl Rk)))]) (wr := [(aC, .inl (cI, rm, .inl (nF Ch))), (aZ, .inl (cZ, rm, .inl (nF Zb))), (aW, .inl (cJ, rm * 8, .inr (.inl Wk))), (oW, .inr (1, [.ref dv, .ref rs, .ref qt, .long kn])), (dv, .inl (cJ, 8, .inr (.inl fd))), (rs, .inl (cJ, 8, .inr (.inl fr))), (qt, .inl (cJ, 8, .inr (.inl fq))), (aH, .inl (cI, rm, .inl (nF Hh))), (aB, .inl (cJ, rm, .inr (.inl Bt))), (oR, .inr (0, [.ref aQ])), (aQ, .inl (cJ, 9, .inr (.inl (m_pr (Bt j) (Tm j - Tm (m_anc P (Hh j - (Hh j - 7)) j)) pr))))]) (va_runV (As := [.int (nI j)]) (rest := [.long t]) ⟨hx, hb, hml, hown, hts⟩ (c_median_ok l D cI cJ cZ o rm n bs aP aH aC aT aB aZ aW aR oR oW P Tm Rk j (by omega) (by omega) (by omega) hpar H.size) (cwV 1 hts gT_add_T_median_84 rfl rfl rfl (by decide +kernel) ⟨Nat.le_of_ble_eq_true rfl, Nat.le_of_ble_eq_true rfl⟩) (rw_preV (hP.sub [8, 9, 11, 3] rfl) hK (hD.sub [8, 9, 11, 3] (by decide) rfl) (va_recv hK hP (ci := 2) (q0 := 8) rfl rfl)) rfl rfl hl.1 rfl (lv_room (Nat.le_of_ble_eq_true rfl)) dT_add_39 ⟨Nat.le_of_ble_eq_true rfl, Nat.le_of_ble_eq_true rfl⟩) hP hD hS hA [8, 9, 11, 3] [0, 1, 2, 4, 5, 6, 7, 10, 12, 13, 14] rfl rfl (by decide) (by decide) (fun v9 w9 H locs hp9 hP hD hS => ?_)
        obtain ⟨rfl, rfl⟩ := hp9
        have hP : va_P D vwCl [(aC, .inl (cI, rm, .inl (nF Ch))), (aZ, .inl (cZ, rm, .inl (nF Zb))), (aW, .inl (cJ, rm * 8, .inr (.inl Wk))), (oW, .inr (1, [.ref dv, .ref rs, .ref qt, .long kn])), (dv, .inl (cJ, 8, .inr (.inl fd))), (rs, .inl (cJ, 8, .inr (.inl fr))), (qt, .inl (cJ, 8, .inr (.inl fq))), (aH, .inl (cI, rm, .inl (nF Hh))), (aB, .inl (cJ, rm, .inr (.inl Bt))), (oR, .inr (0, [.ref aQ])), (aQ, .inl (cJ, 9, .inr (.inl (m_pr (Bt j) (Tm j - Tm (m_anc P (Hh j - (Hh j - 7)) j)) pr)))), (o, .inr (2, [.int (nI rm), .int (nI n), .int (nI bs), .ref aP, .ref aH, .ref aC, .ref aT, .ref aB, .ref aZ, .ref aW, .ref aR, .ref oR, .ref oW])), (aP, .inl (cI, rm, .inl (pF P))), (aT, .inl (cJ, rm, .inr (.inl Tm))), (aR, .inl (cJ, 11, .inr (.inl ((m_med P Tm 11 0 (j + 1) Rk).1))))] H := hP
        have hD : va_D A [(aC, .inl (cI, rm, .inl (nF Ch))), (aZ, .inl (cZ, rm, .inl (nF Zb))), (aW, .inl (cJ, rm * 8, .inr (.inl Wk))), (oW, .inr (1, [.ref dv, .ref rs, .ref qt, .long kn])), (dv, .inl (cJ, 8, .inr (.inl fd))), (rs, .inl (cJ, 8, .inr (.inl fr))), (qt, .inl (cJ, 8, .inr (.inl fq))), (aH, .inl (cI, rm, .inl (nF Hh))), (aB, .inl (cJ, rm, .inr (.inl Bt))), (oR, .inr (0, [.ref aQ])), (aQ, .inl (cJ, 9, .inr (.inl (m_pr (Bt j) (Tm j - Tm (m_anc P (Hh j - (Hh j - 7)) j)) pr)))), (o, .inr (2, [.int (nI rm), .int (nI n), .int (nI bs), .ref aP, .ref aH, .ref aC, .ref aT, .ref aB, .ref aZ, .ref aW, .ref aR, .ref oR, .ref oW])), (aP, .inl (cI, rm, .inl (pF P))), (aT, .inl (cJ, rm, .inr (.inl Tm))), (aR, .inl (cJ, 11, .inr (.inl ((m_med P Tm 11 0 (j + 1) Rk).1))))] := hD
        refine W.eq (g2 := F0 m 42 ls [.long ((m_med P Tm 11 0 (j + 1) Rk).1 ((m_med P Tm 11 0 (j + 1) Rk).2 / 2)), .long t]) rfl ?_
        refine lc_le (tgt := 54) hx hb dT_add_42 dT_add_43 (by decide) (fun c_43 => ?_) (fun c_43 => ?_)
        · skip
          exact absurd ht9 (Int64.not_lt.mpr c_43)
        · skip
          refine lv_lload_n hx hb dT_add_46 rfl (lv_at hl 2 rfl) ?_
          refine lv_ldc2 (v := 4294967295) hx hb hown (hts (.constantLong RT 56 4294967295) (by decide +kernel)) dT_add_47 ?_
          refine lc_le (tgt := 57) hx hb dT_add_50 dT_add_51 (by decide) (fun c_51 => ?_) (fun c_51 => ?_)
          · skip
            refine lv_aload_n hx hb dT_add_57 rfl (lv_at hl 0 rfl) ?_
            refine va_get (D := D) (ci := 2) (v := .int (nI n)) (C := RT) (T := TT) (N := 13) hx hb hts iT_add_T hown hK hP 11 rfl rfl 1 (by decide) (hts (.fieldLink RT 70 "TreeDesk" "count" "I") (by decide +kernel)) (fun _ h9 => h9) rfl dT_add_58 ?_
            refine lv_aload_n hx hb dT_add_61 rfl (lv_at hl 0 rfl) ?_
            refine va_get (D := D) (ci := 2) (v := .int (nI rm)) (C := RT) (T := TT) (N := 13) hx hb hts iT_add_T hown hK hP 11 rfl rfl 0 (by decide) (hts (.fieldLink RT 9 "TreeDesk" "room" "I") (by decide +kernel)) (fun _ h9 => h9) rfl dT_add_62 ?_
            refine lv_icmp_lt (tgt := 71) hx hb dT_add_65 (by decide) (fun c_65 => ?_) (fun c_65 => ?_)
            · skip
              have c_65 : n < rm := n_lt c_65 (by omega) (by omega)
              refine lv_aload_n hx hb dT_add_71 rfl (lv_at hl 0 rfl) ?_
              refine lv_iload_n hx hb dT_add_72 rfl (lv_at hl 1 rfl) ?_
              refine lv_lload_n hx hb dT_add_73 rfl (lv_at hl 2 rfl) ?_
              refine lv_lload hx hb dT_add_74 (lv_at hl 3 rfl) ?_
              refine rw_k (wc := [(o, .inr (2, [.int (nI rm), .int (nI n), .int (nI bs), .ref aP, .ref aH, .ref aC, .ref aT, .ref aB, .ref aZ, .ref aW, .ref aR, .ref oR, .ref oW])), (aP, .inl (cI, rm, .inl (pF P))), (aH, .inl (cI, rm, .inl (nF Hh))), (aC, .inl (cI, rm, .inl (nF Ch))), (aT, .inl (cJ, rm, .inr (.inl Tm))), (aB, .inl (cJ, rm, .inr (.inl Bt))), (aW, .inl (cJ, rm * 8, .inr (.inl Wk))), (oW, .inr (1, [.ref dv, .ref rs, .ref qt, .long kn])), (dv, .inl (cJ, 8, .inr (.inl fd))), (rs, .inl (cJ, 8, .inr (.inl fr))), (qt, .inl (cJ, 8, .inr (.inl fq)))]) (wr := [(aZ, .inl (cZ, rm, .inl (nF Zb))), (oR, .inr (0, [.ref aQ])), (aQ, .inl (cJ, 9, .inr (.inl (m_pr (Bt j) (Tm j - Tm (m_anc P (Hh j - (Hh j - 7)) j)) pr)))), (aR, .inl (cJ, 11, .inr (.inl ((m_med P Tm 11 0 (j + 1) Rk).1))))]) (va_runV (As := [.int (nI j), .long t, .long b]) (rest := []) ⟨hx, hb, hml, hown, hts⟩ (c_append_new l D cI cJ cZ o rm n bs aP aH aC aT aB aZ aW aR oR oW P Hh Ch Tm Bt Wk dv rs qt kn fd fr fq j t b Ld (by omega) (by omega) (by omega) (by omega) (by omega) (by omega) (by omega) hk9 hLd hL2 hL6 H.size) (cwV 3 hts gT_add_T_append_87 rfl rfl rfl (by decide +kernel) ⟨Nat.le_of_ble_eq_true rfl, Nat.le_of_ble_eq_true rfl⟩) (rw_preV (hP.sub [11, 12, 7, 0, 13, 8, 2, 3, 4, 5, 6] rfl) hK (hD.sub [11, 12, 7, 0, 13, 8, 2, 3, 4, 5, 6] (by decide) rfl) (va_recv hK hP (ci := 2) (q0 := 11) rfl rfl)) rfl rfl hl.1 rfl (lv_room (Nat.le_of_ble_eq_true rfl)) dT_add_76 ⟨Nat.le_of_ble_eq_true rfl, Nat.le_of_ble_eq_true rfl⟩) hP hD hS hA [11, 12, 7, 0, 13, 8, 2, 3, 4, 5, 6] [1, 9, 10, 14] rfl rfl (by decide) (by decide) (fun v9 w9 H locs hp9 hP hD hS => ?_)
              obtain ⟨rfl, rfl⟩ := hp9
              have hP : va_P D vwCl [(aZ, .inl (cZ, rm, .inl (nF Zb))), (oR, .inr (0, [.ref aQ])), (aQ, .inl (cJ, 9, .inr (.inl (m_pr (Bt j) (Tm j - Tm (m_anc P (Hh j - (Hh j - 7)) j)) pr)))), (aR, .inl (cJ, 11, .inr (.inl ((m_med P Tm 11 0 (j + 1) Rk).1)))), (o, .inr (2, [.int (nI rm), .int (nI (n + 1)), .int (nI (if m_cmp (m_sum ((m_dv (m_set b fd) fr fq (Ld - 2)).2) n j Wk) n bs 8 0 ≤ 0 then bs else n)), .ref aP, .ref aH, .ref aC, .ref aT, .ref aB, .ref aZ, .ref aW, .ref aR, .ref oR, .ref oW])), (aP, .inl (cI, rm, .inl (pF (updN P n j)))), (aH, .inl (cI, rm, .inl (nF (updN Hh n (Hh j + 1))))), (aC, .inl (cI, rm, .inl (nF (updN Ch j (Ch j + 1))))), (aT, .inl (cJ, rm, .inr (.inl (vp_updL Tm n t)))), (aB, .inl (cJ, rm, .inr (.inl (vp_updL Bt n b)))), (aW, .inl (cJ, rm * 8, .inr (.inl (m_sum ((m_dv (m_set b fd) fr fq (Ld - 2)).2) n j Wk)))), (oW, .inr (1, [.ref dv, .ref rs, .ref qt, .long b])), (dv, .inl (cJ, 8, .inr (.inl (m_set b fd)))), (rs, .inl (cJ, 8, .inr (.inl ((m_dv (m_set b fd) fr fq (Ld - 2)).1)))), (qt, .inl (cJ, 8, .inr (.inl ((m_dv (m_set b fd) fr fq (Ld - 2)).2))))] H := hP
              have hD : va_D A [(aZ, .inl (cZ, rm, .inl (nF Zb))), (oR, .inr (0, [.ref aQ])), (aQ, .inl (cJ, 9, .inr (.inl (m_pr (Bt j) (Tm j - Tm (m_anc P (Hh j - (Hh j - 7)) j)) pr)))), (aR, .inl (cJ, 11, .inr (.inl ((m_med P Tm 11 0 (j + 1) Rk).1)))), (o, .inr (2, [.int (nI rm), .int (nI (n + 1)), .int (nI (if m_cmp (m_sum ((m_dv (m_set b fd) fr fq (Ld - 2)).2) n j Wk) n bs 8 0 ≤ 0 then bs else n)), .ref aP, .ref aH, .ref aC, .ref aT, .ref aB, .ref aZ, .ref aW, .ref aR, .ref oR, .ref oW])), (aP, .inl (cI, rm, .inl (pF (updN P n j)))), (aH, .inl (cI, rm, .inl (nF (updN Hh n (Hh j + 1))))), (aC, .inl (cI, rm, .inl (nF (updN Ch j (Ch j + 1))))), (aT, .inl (cJ, rm, .inr (.inl (vp_updL Tm n t)))), (aB, .inl (cJ, rm, .inr (.inl (vp_updL Bt n b)))), (aW, .inl (cJ, rm * 8, .inr (.inl (m_sum ((m_dv (m_set b fd) fr fq (Ld - 2)).2) n j Wk)))), (oW, .inr (1, [.ref dv, .ref rs, .ref qt, .long b])), (dv, .inl (cJ, 8, .inr (.inl (m_set b fd)))), (rs, .inl (cJ, 8, .inr (.inl ((m_dv (m_set b fd) fr fq (Ld - 2)).1)))), (qt, .inl (cJ, 8, .inr (.inl ((m_dv (m_set b fd) fr fq (Ld - 2)).2))))] := hD
              refine W.eq (g2 := F0 m 79 ls [.int (nI n)]) rfl ?_
              exact rw_iret (w := [(o, .inr (2, [.int (nI rm), .int (nI (n + 1)), .int (nI (if m_cmp (m_sum ((m_dv (m_set b fd) fr fq (Ld - 2)).2) n j Wk) n bs 8 0 ≤ 0 then bs else n)), .ref aP, .ref aH, .ref aC, .ref aT, .ref aB, .ref aZ, .ref aW, .ref aR, .ref oR, .ref oW])), (aP, .inl (cI, rm, .inl (pF (updN P n j)))), (aH, .inl (cI, rm, .inl (nF (updN Hh n (Hh j + 1))))), (aC, .inl (cI, rm, .inl (nF (updN Ch j (Ch j + 1))))), (aT, .inl (cJ, rm, .inr (.inl (vp_updL Tm n t)))), (aB, .inl (cJ, rm, .inr (.inl (vp_updL Bt n b)))), (aZ, .inl (cZ, rm, .inl (nF Zb))), (aW, .inl (cJ, rm * 8, .inr (.inl (m_sum ((m_dv (m_set b fd) fr fq (Ld - 2)).2) n j Wk)))), (aR, .inl (cJ, 11, .inr (.inl ((m_med P Tm 11 0 (j + 1) Rk).1)))), (oR, .inr (0, [.ref aQ])), (aQ, .inl (cJ, 9, .inr (.inl (m_pr (Bt j) (Tm j - Tm (m_anc P (Hh j - (Hh j - 7)) j)) pr)))), (oW, .inr (1, [.ref dv, .ref rs, .ref qt, .long b])), (dv, .inl (cJ, 8, .inr (.inl (m_set b fd)))), (rs, .inl (cJ, 8, .inr (.inl ((m_dv (m_set b fd) fr fq (Ld - 2)).1)))), (qt, .inl (cJ, 8, .inr (.inl ((m_dv (m_set b fd) fr fq (Ld - 2)).2))))]) hQ hx hb hr hlocks dT_add_79 (hP.sub [4, 5, 6, 7, 8, 9, 0, 10, 3, 1, 2, 11, 12, 13, 14] rfl) (hD.sub [4, 5, 6, 7, 8, 9, 0, 10, 3, 1, 2, 11, 12, 13, 14] (by decide) rfl) hS ⟨rfl, rfl⟩
            · skip
              have c_65 : rm ≤ n := n_nlt c_65 (by omega) (by omega)
              omega
          · skip
            exact absurd ht8 c_51
      · skip
        exact absurd hb9 c_30
    · skip
      rw [← nI_0] at c_16
      have c_16 : ¬ (Zb j) = 0 := n_ne c_16
      omega
  · skip
    rw [← nI_0] at c_5
    have c_5 : 1 = 0 := n_eq c_5 (by omega) (by omega)
    omega

abbrev rm_c_add_okRo : Room := { frames := 6, cells := 0, slots := 0, locals := 154 }
set_option maxRecDepth 100000 in
set_option maxHeartbeats 4000000 in
theorem c_add_okRo (l : Launch) (D : va_G) (cI cJ cZ : ClassId) (o : Nat) (rm : Nat) (n : Nat) (bs : Nat) (aP : Nat) (aH : Nat) (aC : Nat) (aT : Nat) (aB : Nat) (aZ : Nat) (aW : Nat) (aR : Nat) (oR : Nat) (oW : Nat) (P : Nat → Nat) (Hh : Nat → Nat) (Ch : Nat → Nat) (Tm : Nat → Int64) (Bt : Nat → Int64) (Zb : Nat → Nat) (Wk : Nat → Int64) (Rk : Nat → Int64) (aQ : Nat) (pr : Nat → Int64) (dv : Nat) (rs : Nat) (qt : Nat) (kn : Int64) (fd : Nat → Int64) (fr : Nat → Int64) (fq : Nat → Int64) (j : Nat) (t : Int64) (hn0 : 0 < n) (hn3 : n < rm) (hr3 : rm ≤ 300) (hj : j < n) (hbs : bs < n) (hHj : Hh j < 300) (hCj : Ch j < 300) (hz0 : Zb j = 0) (h8 : (Hh j + 1) % 8 = 0) (hb9 : kn = m_next (m_pr (Bt j) (Tm j - Tm (m_anc P (Hh j - (Hh j - 7)) j)) pr)) (ht9 : (m_med P Tm 11 0 (j + 1) Rk).1 ((m_med P Tm 11 0 (j + 1) Rk).2 / 2) < t) (ht8 : t ≤ 4294967295) (hpar : ∀ x : Nat, 0 < x → x < n → P x < x) : rw_C l yT_add wT_add rm_c_add_okRo D vwCl (gT cI cJ cZ) [.ref o, .int (nI j), .long t, .long kn] [(o, .inr (2, [.int (nI rm), .int (nI n), .int (nI bs), .ref aP, .ref aH, .ref aC, .ref aT, .ref aB, .ref aZ, .ref aW, .ref aR, .ref oR, .ref oW])), (aP, .inl (cI, rm, .inl (pF P))), (aH, .inl (cI, rm, .inl (nF Hh))), (aC, .inl (cI, rm, .inl (nF Ch))), (aT, .inl (cJ, rm, .inr (.inl Tm))), (aB, .inl (cJ, rm, .inr (.inl Bt))), (aZ, .inl (cZ, rm, .inl (nF Zb))), (aW, .inl (cJ, rm * 8, .inr (.inl Wk))), (aR, .inl (cJ, 11, .inr (.inl Rk))), (oR, .inr (0, [.ref aQ])), (aQ, .inl (cJ, 9, .inr (.inl pr))), (oW, .inr (1, [.ref dv, .ref rs, .ref qt, .long kn])), (dv, .inl (cJ, 8, .inr (.inl fd))), (rs, .inl (cJ, 8, .inr (.inl fr))), (qt, .inl (cJ, 8, .inr (.inl fq)))] (fun v9 w9 => v9 = some (.int (nI n)) ∧ w9 = [(o, .inr (2, [.int (nI rm), .int (nI (n + 1)), .int (nI (if m_cmp (m_sum fq n j Wk) n bs 8 0 ≤ 0 then bs else n)), .ref aP, .ref aH, .ref aC, .ref aT, .ref aB, .ref aZ, .ref aW, .ref aR, .ref oR, .ref oW])), (aP, .inl (cI, rm, .inl (pF (updN P n j)))), (aH, .inl (cI, rm, .inl (nF (updN Hh n (Hh j + 1))))), (aC, .inl (cI, rm, .inl (nF (updN Ch j (Ch j + 1))))), (aT, .inl (cJ, rm, .inr (.inl (vp_updL Tm n t)))), (aB, .inl (cJ, rm, .inr (.inl (vp_updL Bt n kn)))), (aZ, .inl (cZ, rm, .inl (nF Zb))), (aW, .inl (cJ, rm * 8, .inr (.inl (m_sum fq n j Wk)))), (aR, .inl (cJ, 11, .inr (.inl ((m_med P Tm 11 0 (j + 1) Rk).1)))), (oR, .inr (0, [.ref aQ])), (aQ, .inl (cJ, 9, .inr (.inl (m_pr (Bt j) (Tm j - Tm (m_anc P (Hh j - (Hh j - 7)) j)) pr)))), (oW, .inr (1, [.ref dv, .ref rs, .ref qt, .long kn])), (dv, .inl (cJ, 8, .inr (.inl fd))), (rs, .inl (cJ, 8, .inr (.inl fr))), (qt, .inl (cJ, 8, .inr (.inl fq)))]) 0 0 := by
  refine rw_of (cc := cT_add) (maxL := 6) (ret := some .int) (by decide) rfl (Nat.le_of_ble_eq_true rfl) ?_
  intro p e s m args below meth c Q A ls hx hb hr hml hown hts hlocks hin hK hP hD hA hl hQ
  have hS : va_S A s.heap s.heap [] := va_S.rf
  have hl : lv_has ls 6 [(0, .ref o), (1, .int (nI j)), (2, .long t), (4, .long kn)] := hl
  have hown : s.vm.findClass RT = some m.cls := hown
  obtain ⟨H, hHe⟩ : ∃ H : Heap, H = s.heap := ⟨_, rfl⟩
  rw [← hHe] at hP
  have hS : va_S A s.heap H [] := by rw [hHe]; exact va_S.rf
  suffices h9 : W p l e rm_c_add_okRo s m args below meth c H [] 0 0 Q (F0 m 0 ls []) by rw [hHe] at h9; exact h9
  clear hHe
  refine lv_aload_n hx hb dT_add_0 rfl (lv_at hl 0 rfl) ?_
  refine lv_iload_n hx hb dT_add_1 rfl (lv_at hl 1 rfl) ?_
  refine ro_ki (va_runV (As := [.int (nI j)]) (rest := []) ⟨hx, hb, hml, hown, hts⟩ (c_isBlock_ok l D cI cJ cZ o rm n bs aP aH aC aT aB aZ aW aR oR oW j (by omega) (by omega)) (cwV 1 hts gT_add_T_isBlock_76 rfl rfl rfl (by decide +kernel) ⟨Nat.le_of_ble_eq_true rfl, Nat.le_of_ble_eq_true rfl⟩) (ro_preV (hP.sub [0] rfl) hK (va_recv hK hP (ci := 2) (q0 := 0) rfl rfl)) rfl rfl hl.1 rfl (lv_room (Nat.le_of_ble_eq_true rfl)) dT_add_2 ⟨Nat.le_of_ble_eq_true rfl, Nat.le_of_ble_eq_true rfl⟩) ?_
  refine lv_if_ne (tgt := 10) hx hb dT_add_5 (by decide) (fun c_5 => ?_) (fun c_5 => ?_)
  · skip
    rw [← nI_0] at c_5
    have c_5 : ¬ 1 = 0 := n_ne c_5
    refine lv_aload_n hx hb dT_add_10 rfl (lv_at hl 0 rfl) ?_
    refine va_get (D := D) (ci := 2) (v := .ref aZ) (C := RT) (T := TT) (N := 13) hx hb hts iT_add_T hown hK hP 0 rfl rfl 8 (by decide) (hts (.fieldLink RT 30 "TreeDesk" "bad" "[Z") (by decide +kernel)) (fun _ h9 => h9) rfl dT_add_11 ?_
    refine lv_iload_n hx hb dT_add_14 rfl (lv_at hl 1 rfl) ?_
    refine ar_zld (j := j) hx hb hK hP 6 2 rfl rfl dT_add_15 (by omega) (by omega) ?_
    refine tp_i (y := nI (Zb j)) rfl ?_
    refine lv_if_eq (tgt := 22) hx hb dT_add_16 (by decide) (fun c_16 => ?_) (fun c_16 => ?_)
    · skip
      rw [← nI_0] at c_16
      have c_16 : (Zb j) = 0 := n_eq c_16 (by omega) (by omega)
      refine lv_lload hx hb dT_add_22 (lv_at hl 3 rfl) ?_
      refine lv_aload_n hx hb dT_add_24 rfl (lv_at hl 0 rfl) ?_
      refine lv_iload_n hx hb dT_add_25 rfl (lv_at hl 1 rfl) ?_
      refine rw_k (wc := [(o, .inr (2, [.int (nI rm), .int (nI n), .int (nI bs), .ref aP, .ref aH, .ref aC, .ref aT, .ref aB, .ref aZ, .ref aW, .ref aR, .ref oR, .ref oW])), (aP, .inl (cI, rm, .inl (pF P))), (aH, .inl (cI, rm, .inl (nF Hh))), (aT, .inl (cJ, rm, .inr (.inl Tm))), (aB, .inl (cJ, rm, .inr (.inl Bt))), (oR, .inr (0, [.ref aQ])), (aQ, .inl (cJ, 9, .inr (.inl pr)))]) (wr := [(aC, .inl (cI, rm, .inl (nF Ch))), (aZ, .inl (cZ, rm, .inl (nF Zb))), (aW, .inl (cJ, rm * 8, .inr (.inl Wk))), (aR, .inl (cJ, 11, .inr (.inl Rk))), (oW, .inr (1, [.ref dv, .ref rs, .ref qt, .long kn])), (dv, .inl (cJ, 8, .inr (.inl fd))), (rs, .inl (cJ, 8, .inr (.inl fr))), (qt, .inl (cJ, 8, .inr (.inl fq)))]) (va_runV (As := [.int (nI j)]) (rest := [.long kn]) ⟨hx, hb, hml, hown, hts⟩ (c_must_ret l D cI cJ cZ o rm n bs aP aH aC aT aB aZ aW aR oR oW P Hh Tm Bt aQ pr j (by omega) (by omega) (by omega) (by omega) h8 hpar H.size) (cwV 1 hts gT_add_T_must_80 rfl rfl rfl (by decide +kernel) ⟨Nat.le_of_ble_eq_true rfl, Nat.le_of_ble_eq_true rfl⟩) (rw_preV (hP.sub [0, 1, 2, 4, 5, 9, 10] rfl) hK (hD.sub [0, 1, 2, 4, 5, 9, 10] (by decide) rfl) (va_recv hK hP (ci := 2) (q0 := 0) rfl rfl)) rfl rfl hl.1 rfl (lv_room (Nat.le_of_ble_eq_true rfl)) dT_add_26 ⟨Nat.le_of_ble_eq_true rfl, Nat.le_of_ble_eq_true rfl⟩) hP hD hS hA [0, 1, 2, 4, 5, 9, 10] [3, 6, 7, 8, 11, 12, 13, 14] rfl rfl (by decide) (by decide) (fun v9 w9 H locs hp9 hP hD hS => ?_)
      obtain ⟨rfl, rfl⟩ := hp9
      have hP : va_P D vwCl [(aC, .inl (cI, rm, .inl (nF Ch))), (aZ, .inl (cZ, rm, .inl (nF Zb))), (aW, .inl (cJ, rm * 8, .inr (.inl Wk))), (aR, .inl (cJ, 11, .inr (.inl Rk))), (oW, .inr (1, [.ref dv, .ref rs, .ref qt, .long kn])), (dv, .inl (cJ, 8, .inr (.inl fd))), (rs, .inl (cJ, 8, .inr (.inl fr))), (qt, .inl (cJ, 8, .inr (.inl fq))), (o, .inr (2, [.int (nI rm), .int (nI n), .int (nI bs), .ref aP, .ref aH, .ref aC, .ref aT, .ref aB, .ref aZ, .ref aW, .ref aR, .ref oR, .ref oW])), (aP, .inl (cI, rm, .inl (pF P))), (aH, .inl (cI, rm, .inl (nF Hh))), (aT, .inl (cJ, rm, .inr (.inl Tm))), (aB, .inl (cJ, rm, .inr (.inl Bt))), (oR, .inr (0, [.ref aQ])), (aQ, .inl (cJ, 9, .inr (.inl (m_pr (Bt j) (Tm j - Tm (m_anc P (Hh j - (Hh j - 7)) j)) pr))))] H := hP
      have hD : va_D A [(aC, .inl (cI, rm, .inl (nF Ch))), (aZ, .inl (cZ, rm, .inl (nF Zb))), (aW, .inl (cJ, rm * 8, .inr (.inl Wk))), (aR, .inl (cJ, 11, .inr (.inl Rk))), (oW, .inr (1, [.ref dv, .ref rs, .ref qt, .long kn])), (dv, .inl (cJ, 8, .inr (.inl fd))), (rs, .inl (cJ, 8, .inr (.inl fr))), (qt, .inl (cJ, 8, .inr (.inl fq))), (o, .inr (2, [.int (nI rm), .int (nI n), .int (nI bs), .ref aP, .ref aH, .ref aC, .ref aT, .ref aB, .ref aZ, .ref aW, .ref aR, .ref oR, .ref oW])), (aP, .inl (cI, rm, .inl (pF P))), (aH, .inl (cI, rm, .inl (nF Hh))), (aT, .inl (cJ, rm, .inr (.inl Tm))), (aB, .inl (cJ, rm, .inr (.inl Bt))), (oR, .inr (0, [.ref aQ])), (aQ, .inl (cJ, 9, .inr (.inl (m_pr (Bt j) (Tm j - Tm (m_anc P (Hh j - (Hh j - 7)) j)) pr))))] := hD
      refine W.eq (g2 := F0 m 29 ls [.long (m_next (m_pr (Bt j) (Tm j - Tm (m_anc P (Hh j - (Hh j - 7)) j)) pr)), .long kn]) rfl ?_
      refine lc_eq (tgt := 36) hx hb dT_add_29 dT_add_30 (by decide) (fun c_30 => ?_) (fun c_30 => ?_)
      · skip
        refine lv_lload_n hx hb dT_add_36 rfl (lv_at hl 2 rfl) ?_
        refine lv_aload_n hx hb dT_add_37 rfl (lv_at hl 0 rfl) ?_
        refine lv_iload_n hx hb dT_add_38 rfl (lv_at hl 1 rfl) ?_
        refine rw_k (wc := [(o, .inr (2, [.int (nI rm), .int (nI n), .int (nI bs), .ref aP, .ref aH, .ref aC, .ref aT, .ref aB, .ref aZ, .ref aW, .ref aR, .ref oR, .ref oW])), (aP, .inl (cI, rm, .inl (pF P))), (aT, .inl (cJ, rm, .inr (.inl Tm))), (aR, .inl (cJ, 11, .inr (.inl Rk)))]) (wr := [(aC, .inl (cI, rm, .inl (nF Ch))), (aZ, .inl (cZ, rm, .inl (nF Zb))), (aW, .inl (cJ, rm * 8, .inr (.inl Wk))), (oW, .inr (1, [.ref dv, .ref rs, .ref qt, .long kn])), (dv, .inl (cJ, 8, .inr (.inl fd))), (rs, .inl (cJ, 8, .inr (.inl fr))), (qt, .inl (cJ, 8, .inr (.inl fq))), (aH, .inl (cI, rm, .inl (nF Hh))), (aB, .inl (cJ, rm, .inr (.inl Bt))), (oR, .inr (0, [.ref aQ])), (aQ, .inl (cJ, 9, .inr (.inl (m_pr (Bt j) (Tm j - Tm (m_anc P (Hh j - (Hh j - 7)) j)) pr))))]) (va_runV (As := [.int (nI j)]) (rest := [.long t]) ⟨hx, hb, hml, hown, hts⟩ (c_median_ok l D cI cJ cZ o rm n bs aP aH aC aT aB aZ aW aR oR oW P Tm Rk j (by omega) (by omega) (by omega) hpar H.size) (cwV 1 hts gT_add_T_median_84 rfl rfl rfl (by decide +kernel) ⟨Nat.le_of_ble_eq_true rfl, Nat.le_of_ble_eq_true rfl⟩) (rw_preV (hP.sub [8, 9, 11, 3] rfl) hK (hD.sub [8, 9, 11, 3] (by decide) rfl) (va_recv hK hP (ci := 2) (q0 := 8) rfl rfl)) rfl rfl hl.1 rfl (lv_room (Nat.le_of_ble_eq_true rfl)) dT_add_39 ⟨Nat.le_of_ble_eq_true rfl, Nat.le_of_ble_eq_true rfl⟩) hP hD hS hA [8, 9, 11, 3] [0, 1, 2, 4, 5, 6, 7, 10, 12, 13, 14] rfl rfl (by decide) (by decide) (fun v9 w9 H locs hp9 hP hD hS => ?_)
        obtain ⟨rfl, rfl⟩ := hp9
        have hP : va_P D vwCl [(aC, .inl (cI, rm, .inl (nF Ch))), (aZ, .inl (cZ, rm, .inl (nF Zb))), (aW, .inl (cJ, rm * 8, .inr (.inl Wk))), (oW, .inr (1, [.ref dv, .ref rs, .ref qt, .long kn])), (dv, .inl (cJ, 8, .inr (.inl fd))), (rs, .inl (cJ, 8, .inr (.inl fr))), (qt, .inl (cJ, 8, .inr (.inl fq))), (aH, .inl (cI, rm, .inl (nF Hh))), (aB, .inl (cJ, rm, .inr (.inl Bt))), (oR, .inr (0, [.ref aQ])), (aQ, .inl (cJ, 9, .inr (.inl (m_pr (Bt j) (Tm j - Tm (m_anc P (Hh j - (Hh j - 7)) j)) pr)))), (o, .inr (2, [.int (nI rm), .int (nI n), .int (nI bs), .ref aP, .ref aH, .ref aC, .ref aT, .ref aB, .ref aZ, .ref aW, .ref aR, .ref oR, .ref oW])), (aP, .inl (cI, rm, .inl (pF P))), (aT, .inl (cJ, rm, .inr (.inl Tm))), (aR, .inl (cJ, 11, .inr (.inl ((m_med P Tm 11 0 (j + 1) Rk).1))))] H := hP
        have hD : va_D A [(aC, .inl (cI, rm, .inl (nF Ch))), (aZ, .inl (cZ, rm, .inl (nF Zb))), (aW, .inl (cJ, rm * 8, .inr (.inl Wk))), (oW, .inr (1, [.ref dv, .ref rs, .ref qt, .long kn])), (dv, .inl (cJ, 8, .inr (.inl fd))), (rs, .inl (cJ, 8, .inr (.inl fr))), (qt, .inl (cJ, 8, .inr (.inl fq))), (aH, .inl (cI, rm, .inl (nF Hh))), (aB, .inl (cJ, rm, .inr (.inl Bt))), (oR, .inr (0, [.ref aQ])), (aQ, .inl (cJ, 9, .inr (.inl (m_pr (Bt j) (Tm j - Tm (m_anc P (Hh j - (Hh j - 7)) j)) pr)))), (o, .inr (2, [.int (nI rm), .int (nI n), .int (nI bs), .ref aP, .ref aH, .ref aC, .ref aT, .ref aB, .ref aZ, .ref aW, .ref aR, .ref oR, .ref oW])), (aP, .inl (cI, rm, .inl (pF P))), (aT, .inl (cJ, rm, .inr (.inl Tm))), (aR, .inl (cJ, 11, .inr (.inl ((m_med P Tm 11 0 (j + 1) Rk).1))))] := hD
        refine W.eq (g2 := F0 m 42 ls [.long ((m_med P Tm 11 0 (j + 1) Rk).1 ((m_med P Tm 11 0 (j + 1) Rk).2 / 2)), .long t]) rfl ?_
        refine lc_le (tgt := 54) hx hb dT_add_42 dT_add_43 (by decide) (fun c_43 => ?_) (fun c_43 => ?_)
        · skip
          exact absurd ht9 (Int64.not_lt.mpr c_43)
        · skip
          refine lv_lload_n hx hb dT_add_46 rfl (lv_at hl 2 rfl) ?_
          refine lv_ldc2 (v := 4294967295) hx hb hown (hts (.constantLong RT 56 4294967295) (by decide +kernel)) dT_add_47 ?_
          refine lc_le (tgt := 57) hx hb dT_add_50 dT_add_51 (by decide) (fun c_51 => ?_) (fun c_51 => ?_)
          · skip
            refine lv_aload_n hx hb dT_add_57 rfl (lv_at hl 0 rfl) ?_
            refine va_get (D := D) (ci := 2) (v := .int (nI n)) (C := RT) (T := TT) (N := 13) hx hb hts iT_add_T hown hK hP 11 rfl rfl 1 (by decide) (hts (.fieldLink RT 70 "TreeDesk" "count" "I") (by decide +kernel)) (fun _ h9 => h9) rfl dT_add_58 ?_
            refine lv_aload_n hx hb dT_add_61 rfl (lv_at hl 0 rfl) ?_
            refine va_get (D := D) (ci := 2) (v := .int (nI rm)) (C := RT) (T := TT) (N := 13) hx hb hts iT_add_T hown hK hP 11 rfl rfl 0 (by decide) (hts (.fieldLink RT 9 "TreeDesk" "room" "I") (by decide +kernel)) (fun _ h9 => h9) rfl dT_add_62 ?_
            refine lv_icmp_lt (tgt := 71) hx hb dT_add_65 (by decide) (fun c_65 => ?_) (fun c_65 => ?_)
            · skip
              have c_65 : n < rm := n_lt c_65 (by omega) (by omega)
              refine lv_aload_n hx hb dT_add_71 rfl (lv_at hl 0 rfl) ?_
              refine lv_iload_n hx hb dT_add_72 rfl (lv_at hl 1 rfl) ?_
              refine lv_lload_n hx hb dT_add_73 rfl (lv_at hl 2 rfl) ?_
              refine lv_lload hx hb dT_add_74 (lv_at hl 3 rfl) ?_
              refine rw_k (wc := [(o, .inr (2, [.int (nI rm), .int (nI n), .int (nI bs), .ref aP, .ref aH, .ref aC, .ref aT, .ref aB, .ref aZ, .ref aW, .ref aR, .ref oR, .ref oW])), (aP, .inl (cI, rm, .inl (pF P))), (aH, .inl (cI, rm, .inl (nF Hh))), (aC, .inl (cI, rm, .inl (nF Ch))), (aT, .inl (cJ, rm, .inr (.inl Tm))), (aB, .inl (cJ, rm, .inr (.inl Bt))), (aW, .inl (cJ, rm * 8, .inr (.inl Wk))), (oW, .inr (1, [.ref dv, .ref rs, .ref qt, .long kn])), (dv, .inl (cJ, 8, .inr (.inl fd))), (rs, .inl (cJ, 8, .inr (.inl fr))), (qt, .inl (cJ, 8, .inr (.inl fq)))]) (wr := [(aZ, .inl (cZ, rm, .inl (nF Zb))), (oR, .inr (0, [.ref aQ])), (aQ, .inl (cJ, 9, .inr (.inl (m_pr (Bt j) (Tm j - Tm (m_anc P (Hh j - (Hh j - 7)) j)) pr)))), (aR, .inl (cJ, 11, .inr (.inl ((m_med P Tm 11 0 (j + 1) Rk).1))))]) (va_runV (As := [.int (nI j), .long t, .long kn]) (rest := []) ⟨hx, hb, hml, hown, hts⟩ (c_append_old l D cI cJ cZ o rm n bs aP aH aC aT aB aZ aW aR oR oW P Hh Ch Tm Bt Wk dv rs qt kn fd fr fq j t (by omega) (by omega) (by omega) (by omega) (by omega) (by omega) (by omega) H.size) (cwV 3 hts gT_add_T_append_87 rfl rfl rfl (by decide +kernel) ⟨Nat.le_of_ble_eq_true rfl, Nat.le_of_ble_eq_true rfl⟩) (rw_preV (hP.sub [11, 12, 7, 0, 13, 8, 2, 3, 4, 5, 6] rfl) hK (hD.sub [11, 12, 7, 0, 13, 8, 2, 3, 4, 5, 6] (by decide) rfl) (va_recv hK hP (ci := 2) (q0 := 11) rfl rfl)) rfl rfl hl.1 rfl (lv_room (Nat.le_of_ble_eq_true rfl)) dT_add_76 ⟨Nat.le_of_ble_eq_true rfl, Nat.le_of_ble_eq_true rfl⟩) hP hD hS hA [11, 12, 7, 0, 13, 8, 2, 3, 4, 5, 6] [1, 9, 10, 14] rfl rfl (by decide) (by decide) (fun v9 w9 H locs hp9 hP hD hS => ?_)
              obtain ⟨rfl, rfl⟩ := hp9
              have hP : va_P D vwCl [(aZ, .inl (cZ, rm, .inl (nF Zb))), (oR, .inr (0, [.ref aQ])), (aQ, .inl (cJ, 9, .inr (.inl (m_pr (Bt j) (Tm j - Tm (m_anc P (Hh j - (Hh j - 7)) j)) pr)))), (aR, .inl (cJ, 11, .inr (.inl ((m_med P Tm 11 0 (j + 1) Rk).1)))), (o, .inr (2, [.int (nI rm), .int (nI (n + 1)), .int (nI (if m_cmp (m_sum fq n j Wk) n bs 8 0 ≤ 0 then bs else n)), .ref aP, .ref aH, .ref aC, .ref aT, .ref aB, .ref aZ, .ref aW, .ref aR, .ref oR, .ref oW])), (aP, .inl (cI, rm, .inl (pF (updN P n j)))), (aH, .inl (cI, rm, .inl (nF (updN Hh n (Hh j + 1))))), (aC, .inl (cI, rm, .inl (nF (updN Ch j (Ch j + 1))))), (aT, .inl (cJ, rm, .inr (.inl (vp_updL Tm n t)))), (aB, .inl (cJ, rm, .inr (.inl (vp_updL Bt n kn)))), (aW, .inl (cJ, rm * 8, .inr (.inl (m_sum fq n j Wk)))), (oW, .inr (1, [.ref dv, .ref rs, .ref qt, .long kn])), (dv, .inl (cJ, 8, .inr (.inl fd))), (rs, .inl (cJ, 8, .inr (.inl fr))), (qt, .inl (cJ, 8, .inr (.inl fq)))] H := hP
              have hD : va_D A [(aZ, .inl (cZ, rm, .inl (nF Zb))), (oR, .inr (0, [.ref aQ])), (aQ, .inl (cJ, 9, .inr (.inl (m_pr (Bt j) (Tm j - Tm (m_anc P (Hh j - (Hh j - 7)) j)) pr)))), (aR, .inl (cJ, 11, .inr (.inl ((m_med P Tm 11 0 (j + 1) Rk).1)))), (o, .inr (2, [.int (nI rm), .int (nI (n + 1)), .int (nI (if m_cmp (m_sum fq n j Wk) n bs 8 0 ≤ 0 then bs else n)), .ref aP, .ref aH, .ref aC, .ref aT, .ref aB, .ref aZ, .ref aW, .ref aR, .ref oR, .ref oW])), (aP, .inl (cI, rm, .inl (pF (updN P n j)))), (aH, .inl (cI, rm, .inl (nF (updN Hh n (Hh j + 1))))), (aC, .inl (cI, rm, .inl (nF (updN Ch j (Ch j + 1))))), (aT, .inl (cJ, rm, .inr (.inl (vp_updL Tm n t)))), (aB, .inl (cJ, rm, .inr (.inl (vp_updL Bt n kn)))), (aW, .inl (cJ, rm * 8, .inr (.inl (m_sum fq n j Wk)))), (oW, .inr (1, [.ref dv, .ref rs, .ref qt, .long kn])), (dv, .inl (cJ, 8, .inr (.inl fd))), (rs, .inl (cJ, 8, .inr (.inl fr))), (qt, .inl (cJ, 8, .inr (.inl fq)))] := hD
              refine W.eq (g2 := F0 m 79 ls [.int (nI n)]) rfl ?_
              exact rw_iret (w := [(o, .inr (2, [.int (nI rm), .int (nI (n + 1)), .int (nI (if m_cmp (m_sum fq n j Wk) n bs 8 0 ≤ 0 then bs else n)), .ref aP, .ref aH, .ref aC, .ref aT, .ref aB, .ref aZ, .ref aW, .ref aR, .ref oR, .ref oW])), (aP, .inl (cI, rm, .inl (pF (updN P n j)))), (aH, .inl (cI, rm, .inl (nF (updN Hh n (Hh j + 1))))), (aC, .inl (cI, rm, .inl (nF (updN Ch j (Ch j + 1))))), (aT, .inl (cJ, rm, .inr (.inl (vp_updL Tm n t)))), (aB, .inl (cJ, rm, .inr (.inl (vp_updL Bt n kn)))), (aZ, .inl (cZ, rm, .inl (nF Zb))), (aW, .inl (cJ, rm * 8, .inr (.inl (m_sum fq n j Wk)))), (aR, .inl (cJ, 11, .inr (.inl ((m_med P Tm 11 0 (j + 1) Rk).1)))), (oR, .inr (0, [.ref aQ])), (aQ, .inl (cJ, 9, .inr (.inl (m_pr (Bt j) (Tm j - Tm (m_anc P (Hh j - (Hh j - 7)) j)) pr)))), (oW, .inr (1, [.ref dv, .ref rs, .ref qt, .long kn])), (dv, .inl (cJ, 8, .inr (.inl fd))), (rs, .inl (cJ, 8, .inr (.inl fr))), (qt, .inl (cJ, 8, .inr (.inl fq)))]) hQ hx hb hr hlocks dT_add_79 (hP.sub [4, 5, 6, 7, 8, 9, 0, 10, 3, 1, 2, 11, 12, 13, 14] rfl) (hD.sub [4, 5, 6, 7, 8, 9, 0, 10, 3, 1, 2, 11, 12, 13, 14] (by decide) rfl) hS ⟨rfl, rfl⟩
            · skip
              have c_65 : rm ≤ n := n_nlt c_65 (by omega) (by omega)
              omega
          · skip
            exact absurd ht8 c_51
      · skip
        exact absurd hb9 c_30
    · skip
      rw [← nI_0] at c_16
      have c_16 : ¬ (Zb j) = 0 := n_ne c_16
      omega
  · skip
    rw [← nI_0] at c_5
    have c_5 : 1 = 0 := n_eq c_5 (by omega) (by omega)
    omega
end

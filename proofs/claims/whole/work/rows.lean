section
-- ===== PART A: goes FIRST, ahead of the names: the tables' words, and 'selects' of the private methods out of them =====
/-- a private method of a class that the tables say can be made, by its rows of tables_1 -/
def lw_okq (q : MethodName × Nat) : Prop := (q.1.cls ≠ "java/lang/invoke/MethodHandle" ∧ q.1.cls ≠ "java/lang/invoke/VarHandle") ∧ Cond.instantiable q.1.cls q.2 ∈ tables_1 ∧ Cond.privateMethod q.1 ∈ tables_1 ∧ Cond.instanceMethod q.1 ∈ tables_1
theorem lw_p0 : lw_okq (⟨"PageOwners", "startAnew", "(I)V"⟩, 4) := ⟨⟨by decide +kernel, by decide +kernel⟩, List.mem_of_getElem? (i := 11) (by decide +kernel), List.mem_of_getElem? (i := 174) (by decide +kernel), List.mem_of_getElem? (i := 175) (by decide +kernel)⟩
theorem lw_p1 : lw_okq (⟨"PageOwners", "mayStart", "(III)Z"⟩, 4) := ⟨⟨by decide +kernel, by decide +kernel⟩, List.mem_of_getElem? (i := 11) (by decide +kernel), List.mem_of_getElem? (i := 223) (by decide +kernel), List.mem_of_getElem? (i := 224) (by decide +kernel)⟩
theorem lw_p2 : lw_okq (⟨"PageOwners", "isNode", "(I)Z"⟩, 4) := ⟨⟨by decide +kernel, by decide +kernel⟩, List.mem_of_getElem? (i := 11) (by decide +kernel), List.mem_of_getElem? (i := 227) (by decide +kernel), List.mem_of_getElem? (i := 228) (by decide +kernel)⟩
theorem lw_p3 : lw_okq (⟨"PageOwners", "ask", "(LPageOwners$Node;II)V"⟩, 4) := ⟨⟨by decide +kernel, by decide +kernel⟩, List.mem_of_getElem? (i := 11) (by decide +kernel), List.mem_of_getElem? (i := 238) (by decide +kernel), List.mem_of_getElem? (i := 239) (by decide +kernel)⟩
theorem lw_p4 : lw_okq (⟨"PageOwners", "send", "(IIII)LPageOwners$Letter;"⟩, 4) := ⟨⟨by decide +kernel, by decide +kernel⟩, List.mem_of_getElem? (i := 11) (by decide +kernel), List.mem_of_getElem? (i := 242) (by decide +kernel), List.mem_of_getElem? (i := 243) (by decide +kernel)⟩
theorem lw_p5 : lw_okq (⟨"PageOwners", "finish", "(LPageOwners$Node;)V"⟩, 4) := ⟨⟨by decide +kernel, by decide +kernel⟩, List.mem_of_getElem? (i := 11) (by decide +kernel), List.mem_of_getElem? (i := 253) (by decide +kernel), List.mem_of_getElem? (i := 254) (by decide +kernel)⟩
theorem lw_p6 : lw_okq (⟨"PageOwners", "doneAtOnce", "(LPageOwners$Node;)I"⟩, 4) := ⟨⟨by decide +kernel, by decide +kernel⟩, List.mem_of_getElem? (i := 11) (by decide +kernel), List.mem_of_getElem? (i := 261) (by decide +kernel), List.mem_of_getElem? (i := 262) (by decide +kernel)⟩
theorem lw_p7 : lw_okq (⟨"PageOwners", "callBack", "(LPageOwners$Node;)V"⟩, 4) := ⟨⟨by decide +kernel, by decide +kernel⟩, List.mem_of_getElem? (i := 11) (by decide +kernel), List.mem_of_getElem? (i := 269) (by decide +kernel), List.mem_of_getElem? (i := 270) (by decide +kernel)⟩
theorem lw_p8 : lw_okq (⟨"PageOwners", "finishIfAllAnswered", "(LPageOwners$Node;)V"⟩, 4) := ⟨⟨by decide +kernel, by decide +kernel⟩, List.mem_of_getElem? (i := 11) (by decide +kernel), List.mem_of_getElem? (i := 273) (by decide +kernel), List.mem_of_getElem? (i := 274) (by decide +kernel)⟩
theorem lw_p9 : lw_okq (⟨"PageOwners", "goOverQueue", "(LPageOwners$Node;I)V"⟩, 4) := ⟨⟨by decide +kernel, by decide +kernel⟩, List.mem_of_getElem? (i := 11) (by decide +kernel), List.mem_of_getElem? (i := 277) (by decide +kernel), List.mem_of_getElem? (i := 278) (by decide +kernel)⟩
theorem lw_p10 : lw_okq (⟨"PageOwners", "askingComes", "(LPageOwners$Node;III)V"⟩, 4) := ⟨⟨by decide +kernel, by decide +kernel⟩, List.mem_of_getElem? (i := 11) (by decide +kernel), List.mem_of_getElem? (i := 281) (by decide +kernel), List.mem_of_getElem? (i := 282) (by decide +kernel)⟩
theorem lw_p11 : lw_okq (⟨"PageOwners", "sendOn", "(LPageOwners$Node;III)V"⟩, 4) := ⟨⟨by decide +kernel, by decide +kernel⟩, List.mem_of_getElem? (i := 11) (by decide +kernel), List.mem_of_getElem? (i := 293) (by decide +kernel), List.mem_of_getElem? (i := 294) (by decide +kernel)⟩
theorem lw_p12 : lw_okq (⟨"PageOwners", "giveToRead", "(LPageOwners$Node;II)V"⟩, 4) := ⟨⟨by decide +kernel, by decide +kernel⟩, List.mem_of_getElem? (i := 11) (by decide +kernel), List.mem_of_getElem? (i := 297) (by decide +kernel), List.mem_of_getElem? (i := 298) (by decide +kernel)⟩
theorem lw_p13 : lw_okq (⟨"PageOwners", "giveToWrite", "(LPageOwners$Node;II)V"⟩, 4) := ⟨⟨by decide +kernel, by decide +kernel⟩, List.mem_of_getElem? (i := 11) (by decide +kernel), List.mem_of_getElem? (i := 304) (by decide +kernel), List.mem_of_getElem? (i := 305) (by decide +kernel)⟩
theorem lw_p14 : lw_okq (⟨"PageOwners", "givenToRead", "(LPageOwners$Node;LPageOwners$Letter;)V"⟩, 4) := ⟨⟨by decide +kernel, by decide +kernel⟩, List.mem_of_getElem? (i := 11) (by decide +kernel), List.mem_of_getElem? (i := 320) (by decide +kernel), List.mem_of_getElem? (i := 321) (by decide +kernel)⟩
theorem lw_p15 : lw_okq (⟨"PageOwners", "givenToWrite", "(LPageOwners$Node;LPageOwners$Letter;)V"⟩, 4) := ⟨⟨by decide +kernel, by decide +kernel⟩, List.mem_of_getElem? (i := 11) (by decide +kernel), List.mem_of_getElem? (i := 324) (by decide +kernel), List.mem_of_getElem? (i := 325) (by decide +kernel)⟩
def lw_privs_1 : List (MethodName × Nat) := [(⟨"PageOwners", "startAnew", "(I)V"⟩, 4), (⟨"PageOwners", "mayStart", "(III)Z"⟩, 4), (⟨"PageOwners", "isNode", "(I)Z"⟩, 4), (⟨"PageOwners", "ask", "(LPageOwners$Node;II)V"⟩, 4), (⟨"PageOwners", "send", "(IIII)LPageOwners$Letter;"⟩, 4), (⟨"PageOwners", "finish", "(LPageOwners$Node;)V"⟩, 4), (⟨"PageOwners", "doneAtOnce", "(LPageOwners$Node;)I"⟩, 4), (⟨"PageOwners", "callBack", "(LPageOwners$Node;)V"⟩, 4), (⟨"PageOwners", "finishIfAllAnswered", "(LPageOwners$Node;)V"⟩, 4), (⟨"PageOwners", "goOverQueue", "(LPageOwners$Node;I)V"⟩, 4), (⟨"PageOwners", "askingComes", "(LPageOwners$Node;III)V"⟩, 4), (⟨"PageOwners", "sendOn", "(LPageOwners$Node;III)V"⟩, 4), (⟨"PageOwners", "giveToRead", "(LPageOwners$Node;II)V"⟩, 4), (⟨"PageOwners", "giveToWrite", "(LPageOwners$Node;II)V"⟩, 4), (⟨"PageOwners", "givenToRead", "(LPageOwners$Node;LPageOwners$Letter;)V"⟩, 4), (⟨"PageOwners", "givenToWrite", "(LPageOwners$Node;LPageOwners$Letter;)V"⟩, 4)]
theorem lw_r1 : ∀ q ∈ lw_privs_1, lw_okq q := List.forall_mem_cons.mpr ⟨lw_p0, List.forall_mem_cons.mpr ⟨lw_p1, List.forall_mem_cons.mpr ⟨lw_p2, List.forall_mem_cons.mpr ⟨lw_p3, List.forall_mem_cons.mpr ⟨lw_p4, List.forall_mem_cons.mpr ⟨lw_p5, List.forall_mem_cons.mpr ⟨lw_p6, List.forall_mem_cons.mpr ⟨lw_p7, List.forall_mem_cons.mpr ⟨lw_p8, List.forall_mem_cons.mpr ⟨lw_p9, List.forall_mem_cons.mpr ⟨lw_p10, List.forall_mem_cons.mpr ⟨lw_p11, List.forall_mem_cons.mpr ⟨lw_p12, List.forall_mem_cons.mpr ⟨lw_p13, List.forall_mem_cons.mpr ⟨lw_p14, List.forall_mem_cons.mpr ⟨lw_p15, fun _ h => absurd h List.not_mem_nil⟩⟩⟩⟩⟩⟩⟩⟩⟩⟩⟩⟩⟩⟩⟩⟩
theorem lw_p16 : lw_okq (⟨"PageOwners", "calledBack", "(LPageOwners$Node;II)V"⟩, 4) := ⟨⟨by decide +kernel, by decide +kernel⟩, List.mem_of_getElem? (i := 11) (by decide +kernel), List.mem_of_getElem? (i := 328) (by decide +kernel), List.mem_of_getElem? (i := 329) (by decide +kernel)⟩
theorem lw_p17 : lw_okq (⟨"PageOwnersModel", "ask", "(IIIZJ)I"⟩, 25) := ⟨⟨by decide +kernel, by decide +kernel⟩, List.mem_of_getElem? (i := 391) (by decide +kernel), List.mem_of_getElem? (i := 482) (by decide +kernel), List.mem_of_getElem? (i := 483) (by decide +kernel)⟩
theorem lw_p18 : lw_okq (⟨"PageOwnersModel", "isNode", "(I)Z"⟩, 25) := ⟨⟨by decide +kernel, by decide +kernel⟩, List.mem_of_getElem? (i := 391) (by decide +kernel), List.mem_of_getElem? (i := 486) (by decide +kernel), List.mem_of_getElem? (i := 487) (by decide +kernel)⟩
theorem lw_p19 : lw_okq (⟨"PageOwnersModel", "takeUp", "(IIIZ)V"⟩, 25) := ⟨⟨by decide +kernel, by decide +kernel⟩, List.mem_of_getElem? (i := 391) (by decide +kernel), List.mem_of_getElem? (i := 493) (by decide +kernel), List.mem_of_getElem? (i := 494) (by decide +kernel)⟩
theorem lw_p20 : lw_okq (⟨"PageOwnersModel", "finish", "(I)V"⟩, 25) := ⟨⟨by decide +kernel, by decide +kernel⟩, List.mem_of_getElem? (i := 391) (by decide +kernel), List.mem_of_getElem? (i := 500) (by decide +kernel), List.mem_of_getElem? (i := 501) (by decide +kernel)⟩
theorem lw_p21 : lw_okq (⟨"PageOwnersModel", "callBack", "(I)Z"⟩, 25) := ⟨⟨by decide +kernel, by decide +kernel⟩, List.mem_of_getElem? (i := 391) (by decide +kernel), List.mem_of_getElem? (i := 504) (by decide +kernel), List.mem_of_getElem? (i := 505) (by decide +kernel)⟩
theorem lw_p22 : lw_okq (⟨"PageOwnersModel", "send", "(IIIIII)V"⟩, 25) := ⟨⟨by decide +kernel, by decide +kernel⟩, List.mem_of_getElem? (i := 391) (by decide +kernel), List.mem_of_getElem? (i := 508) (by decide +kernel), List.mem_of_getElem? (i := 509) (by decide +kernel)⟩
theorem lw_p23 : lw_okq (⟨"PageOwnersModel", "drop", "(I)V"⟩, 25) := ⟨⟨by decide +kernel, by decide +kernel⟩, List.mem_of_getElem? (i := 391) (by decide +kernel), List.mem_of_getElem? (i := 520) (by decide +kernel), List.mem_of_getElem? (i := 521) (by decide +kernel)⟩
theorem lw_p24 : lw_okq (⟨"PageOwnersModel", "asked", "(IIII)V"⟩, 25) := ⟨⟨by decide +kernel, by decide +kernel⟩, List.mem_of_getElem? (i := 391) (by decide +kernel), List.mem_of_getElem? (i := 524) (by decide +kernel), List.mem_of_getElem? (i := 525) (by decide +kernel)⟩
theorem lw_p25 : lw_okq (⟨"PageOwnersModel", "takeWords", "(I)V"⟩, 25) := ⟨⟨by decide +kernel, by decide +kernel⟩, List.mem_of_getElem? (i := 391) (by decide +kernel), List.mem_of_getElem? (i := 528) (by decide +kernel), List.mem_of_getElem? (i := 529) (by decide +kernel)⟩
theorem lw_p26 : lw_okq (⟨"PageOwnersModel", "goOver", "(II)V"⟩, 25) := ⟨⟨by decide +kernel, by decide +kernel⟩, List.mem_of_getElem? (i := 391) (by decide +kernel), List.mem_of_getElem? (i := 532) (by decide +kernel), List.mem_of_getElem? (i := 533) (by decide +kernel)⟩
theorem lw_p27 : lw_okq (⟨"PageOwnersModel", "isPlace", "(II)Z"⟩, 25) := ⟨⟨by decide +kernel, by decide +kernel⟩, List.mem_of_getElem? (i := 391) (by decide +kernel), List.mem_of_getElem? (i := 552) (by decide +kernel), List.mem_of_getElem? (i := 553) (by decide +kernel)⟩
def lw_privs_2 : List (MethodName × Nat) := [(⟨"PageOwners", "calledBack", "(LPageOwners$Node;II)V"⟩, 4), (⟨"PageOwnersModel", "ask", "(IIIZJ)I"⟩, 25), (⟨"PageOwnersModel", "isNode", "(I)Z"⟩, 25), (⟨"PageOwnersModel", "takeUp", "(IIIZ)V"⟩, 25), (⟨"PageOwnersModel", "finish", "(I)V"⟩, 25), (⟨"PageOwnersModel", "callBack", "(I)Z"⟩, 25), (⟨"PageOwnersModel", "send", "(IIIIII)V"⟩, 25), (⟨"PageOwnersModel", "drop", "(I)V"⟩, 25), (⟨"PageOwnersModel", "asked", "(IIII)V"⟩, 25), (⟨"PageOwnersModel", "takeWords", "(I)V"⟩, 25), (⟨"PageOwnersModel", "goOver", "(II)V"⟩, 25), (⟨"PageOwnersModel", "isPlace", "(II)Z"⟩, 25)]
theorem lw_r2 : ∀ q ∈ lw_privs_2, lw_okq q := List.forall_mem_cons.mpr ⟨lw_p16, List.forall_mem_cons.mpr ⟨lw_p17, List.forall_mem_cons.mpr ⟨lw_p18, List.forall_mem_cons.mpr ⟨lw_p19, List.forall_mem_cons.mpr ⟨lw_p20, List.forall_mem_cons.mpr ⟨lw_p21, List.forall_mem_cons.mpr ⟨lw_p22, List.forall_mem_cons.mpr ⟨lw_p23, List.forall_mem_cons.mpr ⟨lw_p24, List.forall_mem_cons.mpr ⟨lw_p25, List.forall_mem_cons.mpr ⟨lw_p26, List.forall_mem_cons.mpr ⟨lw_p27, fun _ h => absurd h List.not_mem_nil⟩⟩⟩⟩⟩⟩⟩⟩⟩⟩⟩⟩
def lw_privs : List (MethodName × Nat) := lw_privs_1 ++ (lw_privs_2)
def lw_tbl : List Cond := k2_sels lw_privs ++ tables_1
theorem lw_privs_ok : ∀ q ∈ lw_privs, lw_okq q := by
  show ∀ q ∈ lw_privs_1 ++ (lw_privs_2), lw_okq q
  exact List.forall_mem_append.mpr ⟨lw_r1, lw_r2⟩
-- ===== end of PART A; then your names; then what follows =====
/-! THE CLAIM OUT OF ONE WALK OF THE LAW'S BODY. Your part is whole_start (and what it stands on); all else here is the same for every law, but numbers. -/
def R_law : String := "PageOwnersLaw"
def lw_P (b : Addr) (xs : List Int32) (args : Array Value) (s : State) : Prop := args = #[.ref b] ∧ s.IntsAt b xs ∧ xs.length ≤ 3072 ∧ (Jvm.Cond.and given_1 narrow_1).before args s = true
def lw_Q (_ : Array Value) (s : State) (o : Outcome) (t : State) : Prop := o = .returned (some (.int 1)) ∧ Framed s o t [] 600000 7302250
def lw_Z (below : List Frame) (a : Array Value) (s : State) : State → Prop := fun t => ∃ o, t.status = .running ∧ Ended t below o ∧ lw_Q a s o t
/-- the law's own end, with 1 on the stack, nothing written that was there before, its room as the claim has it -/
theorem lw_ret {p : Program} {l : Launch} {e : Env} {s : State} {m : MethodId} {below : List Frame} {meth : Method} {c : Code} {b : Nat} (hx : p.tables.exec = Jvm.exec) (hb : c.code = code) (hr : meth.sig.returnType = ret) (hlocks : meth.locks = false) {pc : Nat} {H : Heap} {ls : Array Slot} (hdg : decode code pc = .ok (.ireturn, 1)) : W p l e room_1 s m #[Value.ref b] below meth c H [] 600000 7302250 (lw_Z below #[Value.ref b] s) (F0 m pc ls [.int 1]) := by
  intro T hT X
  obtain ⟨fs, hret, hrun, hended, hW, hframe⟩ := X.leave (v := some (.int 1)) (hlocks := hlocks) (fun h => by rw [hr] at h; cases h)
  have hmeth' : T.vm.method? m = some meth := X.method'
  refine ⟨T.setFrames fs, ?_, .returned (some (.int 1)), hrun, hended, rfl, ⟨_, rfl⟩, hW, hframe⟩
  jvm_step X.here [X.here.top, hx, hb, hdg, hmeth', hr, ret, narrow_b1]
  (try refine ⟨rfl, ?_⟩); (try refine ⟨rfl, ?_⟩)
  first | (intro acts; rw [hret _ acts rfl rfl rfl]) | rw [hret _ _ rfl rfl rfl]
  exact Steps.refl _
/-- what holds at the law's entry: the machine, the code, the tables' words (any of lw_tbl by 'hts w (by decide +kernel)'), the script of L ints xs at the cell b, what the Statement gives of the start (any of its parts by flat_of_before) -/
def lw_At (p : Program) (s : State) (m : MethodId) (meth : Method) (c : Code) (b L : Nat) (xs : Nat → Int32) : Prop :=
  p.tables.exec = Jvm.exec ∧ c.code = code ∧ meth.sig.returnType = ret ∧ c.maxLocals = 4 ∧ s.vm.findClass R_law = some m.cls ∧ (∀ w ∈ lw_tbl, w.before #[Value.ref b] s = true) ∧ va_X b L xs s s.heap ∧ b < s.heap.size ∧ meth.locks = false ∧ (Jvm.Cond.and given_1 narrow_1).before #[Value.ref b] s = true
end
section
/-! ===== BEGIN words of one list among another's, by their places ===== -/
theorem goodIn_r {big : List Cond} (ws : List Cond) (ps : List Nat) (hp : ws = ps.filterMap (fun i => big[i]?)) (h : ws.all goodWord = true) : GoodIn big ws := by
  intro w hw
  have h1 := List.all_eq_true.mp h w hw
  rw [hp] at hw
  obtain ⟨i, -, hi⟩ := List.mem_filterMap.mp hw
  have hm : w ∈ big := by first | exact List.mem_of_getElem? hi | exact List.getElem?_mem hi
  exact ⟨hm, good_of_word h1⟩
theorem goodIn_app {big a b : List Cond} (ha : GoodIn big a) (hb : GoodIn big b) : GoodIn big (a ++ b) := fun w h => (List.mem_append.mp h).elim (ha w) (hb w)
theorem goodIn_ca {big a b : List Cond} {c : Cond} (ha : GoodIn big (c :: a)) (hb : GoodIn big b) : GoodIn big (c :: (a ++ b)) := fun w h => (List.mem_cons.mp h).elim (fun e => ha w (List.mem_cons.mpr (Or.inl e))) (fun h => (List.mem_append.mp h).elim (fun h => ha w (List.mem_cons.mpr (Or.inr h))) (hb w))
theorem goodIn_sub {big ws : List Cond} (hm : ∀ w ∈ ws, w ∈ big) (h : ws.all goodWord = true) : GoodIn big ws := fun w hw => ⟨hm w hw, good_of_word (List.all_eq_true.mp h w hw)⟩
/-! ===== END ===== -/

/-! ===== BEGIN printed: names, fields, word lists, decode rows ===== -/
def RX0 : String := "PageOwners$Hand"
def TX0 : u_T := fun k => match k with
  | 0 => ("PageOwners$Hand", "everHadOne", "Z", false)
  | 1 => ("PageOwners$Hand", "waitsFor", "I", false)
  | 2 => ("PageOwners$Hand", "page", "I", false)
  | 3 => ("PageOwners$Hand", "word", "I", false)
  | 4 => ("PageOwners$Hand", "isWrite", "Z", false)
  | 5 => ("PageOwners$Hand", "value", "J", false)
  | 6 => ("PageOwners$Hand", "answersDue", "I", false)
  | 7 => ("PageOwners$Hand", "wasCalled", "Z", false)
  | 8 => ("PageOwners$Hand", "done", "I", false)
  | _ => ("PageOwners$Hand", "result", "J", false)
def tyX0 : Nat → FieldType := fun k => match k with
  | 0 => .boolean
  | 1 => .int
  | 2 => .int
  | 3 => .int
  | 4 => .boolean
  | 5 => .long
  | 6 => .int
  | 7 => .boolean
  | 8 => .int
  | _ => .long
abbrev wsX00 : List Cond := u_ws RX0 TX0 10
theorem nmX0 : ∀ a, a < 10 → ∀ b, b < 10 → a ≠ b → (TX0 a).2.1 ≠ (TX0 b).2.1 := by decide +kernel
theorem tyX0_ok : ∀ k, k < 10 → parseFieldDescriptor (TX0 k).2.2.1 = some (tyX0 k) := by decide +kernel
abbrev cX0_init : ByteArray := prog_2_method_1_code
def yX0_init : MethodName := ⟨RX0, "<init>", "()V"⟩
abbrev cX0_startAnew : ByteArray := prog_2_method_2_code
def yX0_startAnew : MethodName := ⟨RX0, "startAnew", "()V"⟩
abbrev cX0_take : ByteArray := prog_2_method_3_code
def yX0_take : MethodName := ⟨RX0, "take", "(IIZJ)V"⟩
abbrev cX0_awaits : ByteArray := prog_2_method_4_code
def yX0_awaits : MethodName := ⟨RX0, "awaits", "(II)Z"⟩
def RX1 : String := "PageOwners$Letter"
def TX1 : u_T := fun k => match k with
  | 0 => ("PageOwners$Letter", "kind", "I", false)
  | 1 => ("PageOwners$Letter", "from", "I", false)
  | 2 => ("PageOwners$Letter", "to", "I", false)
  | 3 => ("PageOwners$Letter", "page", "I", false)
  | 4 => ("PageOwners$Letter", "asker", "I", false)
  | 5 => ("PageOwners$Letter", "copySet", "I", false)
  | _ => ("PageOwners$Letter", "words", "[J", true)
def tyX1 : Nat → FieldType := fun k => match k with
  | 0 => .int
  | 1 => .int
  | 2 => .int
  | 3 => .int
  | 4 => .int
  | 5 => .int
  | _ => .array .long
abbrev wsX10 : List Cond := u_ws RX1 TX1 7
theorem nmX1 : ∀ a, a < 7 → ∀ b, b < 7 → a ≠ b → (TX1 a).2.1 ≠ (TX1 b).2.1 := by decide +kernel
theorem tyX1_ok : ∀ k, k < 7 → parseFieldDescriptor (TX1 k).2.2.1 = some (tyX1 k) := by decide +kernel
abbrev cX1_init : ByteArray := prog_3_method_1_code
def yX1_init : MethodName := ⟨RX1, "<init>", "()V"⟩
def RX2 : String := "PageOwners$Mail"
def TX2 : u_T := fun k => match k with
  | 0 => ("PageOwners$Mail", "row", "[LPageOwners$Letter;", true)
  | _ => ("PageOwners$Mail", "flying", "I", false)
def tyX2 : Nat → FieldType := fun k => match k with
  | 0 => .array (.object "PageOwners$Letter")
  | _ => .int
abbrev wsX20 : List Cond := u_ws RX2 TX2 2
theorem nmX2 : ∀ a, a < 2 → ∀ b, b < 2 → a ≠ b → (TX2 a).2.1 ≠ (TX2 b).2.1 := by decide +kernel
theorem tyX2_ok : ∀ k, k < 2 → parseFieldDescriptor (TX2 k).2.2.1 = some (tyX2 k) := by decide +kernel
abbrev cX2_init : ByteArray := prog_4_method_1_code
def yX2_init : MethodName := ⟨RX2, "<init>", "()V"⟩
abbrev cX2_has : ByteArray := prog_4_method_2_code
def yX2_has : MethodName := ⟨RX2, "has", "(I)Z"⟩
abbrev cX2_putIn : ByteArray := prog_4_method_3_code
def yX2_putIn : MethodName := ⟨RX2, "putIn", "(IIII)LPageOwners$Letter;"⟩
abbrev cX2_takeOut : ByteArray := prog_4_method_4_code
def yX2_takeOut : MethodName := ⟨RX2, "takeOut", "(I)LPageOwners$Letter;"⟩
def RX3 : String := "PageOwners$Node"
def TX3 : u_T := fun k => match k with
  | 0 => ("PageOwners$Node", "number", "I", true)
  | 1 => ("PageOwners$Node", "hand", "LPageOwners$Hand;", true)
  | 2 => ("PageOwners$Node", "accessTo", "[I", true)
  | 3 => ("PageOwners$Node", "owns", "[Z", true)
  | 4 => ("PageOwners$Node", "guessOf", "[I", true)
  | 5 => ("PageOwners$Node", "copySet", "[I", true)
  | 6 => ("PageOwners$Node", "words", "[J", true)
  | 7 => ("PageOwners$Node", "queued", "[I", true)
  | 8 => ("PageOwners$Node", "queuedKinds", "[I", true)
  | _ => ("PageOwners$Node", "queuedAskers", "[I", true)
def tyX3 : Nat → FieldType := fun k => match k with
  | 0 => .int
  | 1 => .object "PageOwners$Hand"
  | 2 => .array .int
  | 3 => .array .boolean
  | 4 => .array .int
  | 5 => .array .int
  | 6 => .array .long
  | 7 => .array .int
  | 8 => .array .int
  | _ => .array .int
abbrev wsX30 : List Cond := u_ws RX3 TX3 10
theorem nmX3 : ∀ a, a < 10 → ∀ b, b < 10 → a ≠ b → (TX3 a).2.1 ≠ (TX3 b).2.1 := by decide +kernel
theorem tyX3_ok : ∀ k, k < 10 → parseFieldDescriptor (TX3 k).2.2.1 = some (tyX3 k) := by decide +kernel
abbrev cX3_init : ByteArray := prog_5_method_1_code
def yX3_init : MethodName := ⟨RX3, "<init>", "(I)V"⟩
abbrev cX3_startAnew : ByteArray := prog_5_method_2_code
def yX3_startAnew : MethodName := ⟨RX3, "startAnew", "(I)V"⟩
abbrev cX3_putInQueue : ByteArray := prog_5_method_3_code
def yX3_putInQueue : MethodName := ⟨RX3, "putInQueue", "(III)V"⟩
abbrev cX3_doWhatIsAtHand : ByteArray := prog_5_method_4_code
def yX3_doWhatIsAtHand : MethodName := ⟨RX3, "doWhatIsAtHand", "()V"⟩
def RX4 : String := "PageOwners"
def TX4 : u_T := fun k => match k with
  | 0 => ("PageOwners", "all", "[LPageOwners$Node;", true)
  | 1 => ("PageOwners", "mail", "LPageOwners$Mail;", true)
  | 2 => ("PageOwners", "counts", "[I", true)
  | _ => ("PageOwners", "nodes", "I", false)
def tyX4 : Nat → FieldType := fun k => match k with
  | 0 => .array (.object "PageOwners$Node")
  | 1 => .object "PageOwners$Mail"
  | 2 => .array .int
  | _ => .int
abbrev wsX40 : List Cond := u_ws RX4 TX4 4
theorem nmX4 : ∀ a, a < 4 → ∀ b, b < 4 → a ≠ b → (TX4 a).2.1 ≠ (TX4 b).2.1 := by decide +kernel
theorem tyX4_ok : ∀ k, k < 4 → parseFieldDescriptor (TX4 k).2.2.1 = some (tyX4 k) := by decide +kernel
abbrev cX4_init : ByteArray := prog_1_method_1_code
def yX4_init : MethodName := ⟨RX4, "<init>", "()V"⟩
abbrev cX4_begin : ByteArray := prog_1_method_2_code
def yX4_begin : MethodName := ⟨RX4, "begin", "(I)Z"⟩
abbrev cX4_read : ByteArray := prog_1_method_3_code
def yX4_read : MethodName := ⟨RX4, "read", "(III)I"⟩
abbrev cX4_write : ByteArray := prog_1_method_4_code
def yX4_write : MethodName := ⟨RX4, "write", "(IIIJ)I"⟩
abbrev cX4_deliver : ByteArray := prog_1_method_5_code
def yX4_deliver : MethodName := ⟨RX4, "deliver", "(I)I"⟩
abbrev cX4_waits : ByteArray := prog_1_method_6_code
def yX4_waits : MethodName := ⟨RX4, "waits", "(I)I"⟩
abbrev cX4_at : ByteArray := prog_1_method_7_code
def yX4_at : MethodName := ⟨RX4, "at", "(II)I"⟩
abbrev cX4_result : ByteArray := prog_1_method_8_code
def yX4_result : MethodName := ⟨RX4, "result", "(I)J"⟩
abbrev cX4_access : ByteArray := prog_1_method_9_code
def yX4_access : MethodName := ⟨RX4, "access", "(II)I"⟩
abbrev cX4_owner : ByteArray := prog_1_method_10_code
def yX4_owner : MethodName := ⟨RX4, "owner", "(I)I"⟩
abbrev cX4_guess : ByteArray := prog_1_method_11_code
def yX4_guess : MethodName := ⟨RX4, "guess", "(II)I"⟩
abbrev cX4_copies : ByteArray := prog_1_method_12_code
def yX4_copies : MethodName := ⟨RX4, "copies", "(II)I"⟩
abbrev cX4_word : ByteArray := prog_1_method_13_code
def yX4_word : MethodName := ⟨RX4, "word", "(III)J"⟩
abbrev cX4_queue : ByteArray := prog_1_method_14_code
def yX4_queue : MethodName := ⟨RX4, "queue", "(II)I"⟩
abbrev cX4_chain : ByteArray := prog_1_method_15_code
def yX4_chain : MethodName := ⟨RX4, "chain", "(II)I"⟩
abbrev cX4_flying : ByteArray := prog_1_method_16_code
def yX4_flying : MethodName := ⟨RX4, "flying", "()I"⟩
abbrev cX4_letter : ByteArray := prog_1_method_17_code
def yX4_letter : MethodName := ⟨RX4, "letter", "(II)I"⟩
abbrev cX4_letterWord : ByteArray := prog_1_method_18_code
def yX4_letterWord : MethodName := ⟨RX4, "letterWord", "(II)J"⟩
abbrev cX4_count : ByteArray := prog_1_method_19_code
def yX4_count : MethodName := ⟨RX4, "count", "(I)I"⟩
abbrev cX4_startAnew : ByteArray := prog_1_method_20_code
def yX4_startAnew : MethodName := ⟨RX4, "startAnew", "(I)V"⟩
abbrev cX4_isNode : ByteArray := prog_1_method_21_code
def yX4_isNode : MethodName := ⟨RX4, "isNode", "(I)Z"⟩
abbrev cX4_isPage : ByteArray := prog_1_method_22_code
def yX4_isPage : MethodName := ⟨RX4, "isPage", "(I)Z"⟩
abbrev cX4_isWord : ByteArray := prog_1_method_23_code
def yX4_isWord : MethodName := ⟨RX4, "isWord", "(I)Z"⟩
abbrev cX4_mayStart : ByteArray := prog_1_method_24_code
def yX4_mayStart : MethodName := ⟨RX4, "mayStart", "(III)Z"⟩
abbrev cX4_doneAtOnce : ByteArray := prog_1_method_25_code
def yX4_doneAtOnce : MethodName := ⟨RX4, "doneAtOnce", "(LPageOwners$Node;)I"⟩
abbrev cX4_ask : ByteArray := prog_1_method_26_code
def yX4_ask : MethodName := ⟨RX4, "ask", "(LPageOwners$Node;II)V"⟩
abbrev cX4_send : ByteArray := prog_1_method_27_code
def yX4_send : MethodName := ⟨RX4, "send", "(IIII)LPageOwners$Letter;"⟩
abbrev cX4_finish : ByteArray := prog_1_method_28_code
def yX4_finish : MethodName := ⟨RX4, "finish", "(LPageOwners$Node;)V"⟩
abbrev cX4_callBack : ByteArray := prog_1_method_29_code
def yX4_callBack : MethodName := ⟨RX4, "callBack", "(LPageOwners$Node;)V"⟩
abbrev cX4_finishIfAllAnswered : ByteArray := prog_1_method_30_code
def yX4_finishIfAllAnswered : MethodName := ⟨RX4, "finishIfAllAnswered", "(LPageOwners$Node;)V"⟩
abbrev cX4_goOverQueue : ByteArray := prog_1_method_31_code
def yX4_goOverQueue : MethodName := ⟨RX4, "goOverQueue", "(LPageOwners$Node;I)V"⟩
abbrev cX4_askingComes : ByteArray := prog_1_method_32_code
def yX4_askingComes : MethodName := ⟨RX4, "askingComes", "(LPageOwners$Node;III)V"⟩
abbrev cX4_sendOn : ByteArray := prog_1_method_33_code
def yX4_sendOn : MethodName := ⟨RX4, "sendOn", "(LPageOwners$Node;III)V"⟩
abbrev cX4_giveToRead : ByteArray := prog_1_method_34_code
def yX4_giveToRead : MethodName := ⟨RX4, "giveToRead", "(LPageOwners$Node;II)V"⟩
abbrev cX4_giveToWrite : ByteArray := prog_1_method_35_code
def yX4_giveToWrite : MethodName := ⟨RX4, "giveToWrite", "(LPageOwners$Node;II)V"⟩
abbrev cX4_givenToRead : ByteArray := prog_1_method_36_code
def yX4_givenToRead : MethodName := ⟨RX4, "givenToRead", "(LPageOwners$Node;LPageOwners$Letter;)V"⟩
abbrev cX4_givenToWrite : ByteArray := prog_1_method_37_code
def yX4_givenToWrite : MethodName := ⟨RX4, "givenToWrite", "(LPageOwners$Node;LPageOwners$Letter;)V"⟩
abbrev cX4_calledBack : ByteArray := prog_1_method_38_code
def yX4_calledBack : MethodName := ⟨RX4, "calledBack", "(LPageOwners$Node;II)V"⟩
abbrev cX4_endsChain : ByteArray := prog_1_method_39_code
def yX4_endsChain : MethodName := ⟨RX4, "endsChain", "(LPageOwners$Node;I)Z"⟩
def RX5 : String := "PageOwnersModel"
def TX5 : u_T := fun k => match k with
  | 0 => ("PageOwnersModel", "nodes", "I", false)
  | 1 => ("PageOwnersModel", "access", "[I", true)
  | 2 => ("PageOwnersModel", "isOwner", "[Z", true)
  | 3 => ("PageOwnersModel", "guess", "[I", true)
  | 4 => ("PageOwnersModel", "copies", "[I", true)
  | 5 => ("PageOwnersModel", "words", "[J", true)
  | 6 => ("PageOwnersModel", "queue", "[I", true)
  | 7 => ("PageOwnersModel", "queued", "[I", true)
  | 8 => ("PageOwnersModel", "waits", "[I", true)
  | 9 => ("PageOwnersModel", "page", "[I", true)
  | 10 => ("PageOwnersModel", "word", "[I", true)
  | 11 => ("PageOwnersModel", "isWrite", "[Z", true)
  | 12 => ("PageOwnersModel", "value", "[J", true)
  | 13 => ("PageOwnersModel", "answers", "[I", true)
  | 14 => ("PageOwnersModel", "wasCalled", "[Z", true)
  | 15 => ("PageOwnersModel", "hadOne", "[Z", true)
  | 16 => ("PageOwnersModel", "done", "[I", true)
  | 17 => ("PageOwnersModel", "result", "[J", true)
  | 18 => ("PageOwnersModel", "letters", "[I", true)
  | 19 => ("PageOwnersModel", "letterWords", "[J", true)
  | 20 => ("PageOwnersModel", "flying", "I", false)
  | 21 => ("PageOwnersModel", "counts", "[I", true)
  | 22 => ("PageOwnersModel", "own", "[I", true)
  | 23 => ("PageOwnersModel", "ownWords", "[J", true)
  | _ => ("PageOwnersModel", "aside", "[I", true)
def tyX5 : Nat → FieldType := fun k => match k with
  | 0 => .int
  | 1 => .array .int
  | 2 => .array .boolean
  | 3 => .array .int
  | 4 => .array .int
  | 5 => .array .long
  | 6 => .array .int
  | 7 => .array .int
  | 8 => .array .int
  | 9 => .array .int
  | 10 => .array .int
  | 11 => .array .boolean
  | 12 => .array .long
  | 13 => .array .int
  | 14 => .array .boolean
  | 15 => .array .boolean
  | 16 => .array .int
  | 17 => .array .long
  | 18 => .array .int
  | 19 => .array .long
  | 20 => .int
  | 21 => .array .int
  | 22 => .array .int
  | 23 => .array .long
  | _ => .array .int
abbrev wsX50 : List Cond := u_ws RX5 TX5 25
theorem nmX5 : ∀ a, a < 25 → ∀ b, b < 25 → a ≠ b → (TX5 a).2.1 ≠ (TX5 b).2.1 := by decide +kernel
theorem tyX5_ok : ∀ k, k < 25 → parseFieldDescriptor (TX5 k).2.2.1 = some (tyX5 k) := by decide +kernel
abbrev cX5_init : ByteArray := prog_7_method_1_code
def yX5_init : MethodName := ⟨RX5, "<init>", "()V"⟩
abbrev cX5_begin : ByteArray := prog_7_method_3_code
def yX5_begin : MethodName := ⟨RX5, "begin", "(I)Z"⟩
abbrev cX5_isNode : ByteArray := prog_7_method_4_code
def yX5_isNode : MethodName := ⟨RX5, "isNode", "(I)Z"⟩
abbrev cX5_isPage : ByteArray := prog_7_method_5_code
def yX5_isPage : MethodName := ⟨RX5, "isPage", "(I)Z"⟩
abbrev cX5_place : ByteArray := prog_7_method_6_code
def yX5_place : MethodName := ⟨RX5, "place", "(II)I"⟩
abbrev cX5_send : ByteArray := prog_7_method_7_code
def yX5_send : MethodName := ⟨RX5, "send", "(IIIIII)V"⟩
abbrev cX5_drop : ByteArray := prog_7_method_8_code
def yX5_drop : MethodName := ⟨RX5, "drop", "(I)V"⟩
abbrev cX5_finish : ByteArray := prog_7_method_9_code
def yX5_finish : MethodName := ⟨RX5, "finish", "(I)V"⟩
abbrev cX5_takeUp : ByteArray := prog_7_method_10_code
def yX5_takeUp : MethodName := ⟨RX5, "takeUp", "(IIIZ)V"⟩
abbrev cX5_ask : ByteArray := prog_7_method_11_code
def yX5_ask : MethodName := ⟨RX5, "ask", "(IIIZJ)I"⟩
abbrev cX5_read : ByteArray := prog_7_method_12_code
def yX5_read : MethodName := ⟨RX5, "read", "(III)I"⟩
abbrev cX5_write : ByteArray := prog_7_method_13_code
def yX5_write : MethodName := ⟨RX5, "write", "(IIIJ)I"⟩
abbrev cX5_callBack : ByteArray := prog_7_method_14_code
def yX5_callBack : MethodName := ⟨RX5, "callBack", "(I)Z"⟩
abbrev cX5_goOver : ByteArray := prog_7_method_15_code
def yX5_goOver : MethodName := ⟨RX5, "goOver", "(II)V"⟩
abbrev cX5_asked : ByteArray := prog_7_method_16_code
def yX5_asked : MethodName := ⟨RX5, "asked", "(IIII)V"⟩
abbrev cX5_deliver : ByteArray := prog_7_method_17_code
def yX5_deliver : MethodName := ⟨RX5, "deliver", "(I)I"⟩
abbrev cX5_takeWords : ByteArray := prog_7_method_18_code
def yX5_takeWords : MethodName := ⟨RX5, "takeWords", "(I)V"⟩
abbrev cX5_waits : ByteArray := prog_7_method_19_code
def yX5_waits : MethodName := ⟨RX5, "waits", "(I)I"⟩
abbrev cX5_at : ByteArray := prog_7_method_20_code
def yX5_at : MethodName := ⟨RX5, "at", "(II)I"⟩
abbrev cX5_result : ByteArray := prog_7_method_21_code
def yX5_result : MethodName := ⟨RX5, "result", "(I)J"⟩
abbrev cX5_isPlace : ByteArray := prog_7_method_22_code
def yX5_isPlace : MethodName := ⟨RX5, "isPlace", "(II)Z"⟩
abbrev cX5_access : ByteArray := prog_7_method_23_code
def yX5_access : MethodName := ⟨RX5, "access", "(II)I"⟩
abbrev cX5_owner : ByteArray := prog_7_method_24_code
def yX5_owner : MethodName := ⟨RX5, "owner", "(I)I"⟩
abbrev cX5_guess : ByteArray := prog_7_method_25_code
def yX5_guess : MethodName := ⟨RX5, "guess", "(II)I"⟩
abbrev cX5_copies : ByteArray := prog_7_method_26_code
def yX5_copies : MethodName := ⟨RX5, "copies", "(II)I"⟩
abbrev cX5_word : ByteArray := prog_7_method_27_code
def yX5_word : MethodName := ⟨RX5, "word", "(III)J"⟩
abbrev cX5_queue : ByteArray := prog_7_method_28_code
def yX5_queue : MethodName := ⟨RX5, "queue", "(II)I"⟩
abbrev cX5_chain : ByteArray := prog_7_method_29_code
def yX5_chain : MethodName := ⟨RX5, "chain", "(II)I"⟩
abbrev cX5_flying : ByteArray := prog_7_method_30_code
def yX5_flying : MethodName := ⟨RX5, "flying", "()I"⟩
abbrev cX5_letter : ByteArray := prog_7_method_31_code
def yX5_letter : MethodName := ⟨RX5, "letter", "(II)I"⟩
abbrev cX5_letterWord : ByteArray := prog_7_method_32_code
def yX5_letterWord : MethodName := ⟨RX5, "letterWord", "(II)J"⟩
abbrev cX5_count : ByteArray := prog_7_method_33_code
def yX5_count : MethodName := ⟨RX5, "count", "(I)I"⟩
def RJ9 : String := "java/lang/Math"
def TJ9 : u_T := fun k => match k with
  | _ => ("", "", "", false)
def tyJ9 : Nat → FieldType := fun k => match k with
  | _ => .int
abbrev wsJ90 : List Cond := u_ws RJ9 TJ9 0
theorem nmJ9 : ∀ a, a < 0 → ∀ b, b < 0 → a ≠ b → (TJ9 a).2.1 ≠ (TJ9 b).2.1 := by decide +kernel
theorem tyJ9_ok : ∀ k, k < 0 → parseFieldDescriptor (TJ9 k).2.2.1 = some (tyJ9 k) := by decide +kernel
abbrev cJ9_floorMod_7cf53 : ByteArray := prog_8_method_50_code
def yJ9_floorMod_7cf53 : MethodName := ⟨RJ9, "floorMod", "(II)I"⟩
abbrev cJ9_max_7cf53 : ByteArray := prog_8_method_65_code
def yJ9_max_7cf53 : MethodName := ⟨RJ9, "max", "(II)I"⟩
abbrev cJ9_min_7cf53 : ByteArray := prog_8_method_69_code
def yJ9_min_7cf53 : MethodName := ⟨RJ9, "min", "(II)I"⟩
def RJ10 : String := "java/lang/System"
def TJ10 : u_T := fun k => match k with
  | _ => ("", "", "", false)
def tyJ10 : Nat → FieldType := fun k => match k with
  | _ => .int
abbrev wsJ100 : List Cond := u_ws RJ10 TJ10 0
theorem nmJ10 : ∀ a, a < 0 → ∀ b, b < 0 → a ≠ b → (TJ10 a).2.1 ≠ (TJ10 b).2.1 := by decide +kernel
theorem tyJ10_ok : ∀ k, k < 0 → parseFieldDescriptor (TJ10 k).2.2.1 = some (tyJ10 k) := by decide +kernel
def RJ7 : String := "java/util/Arrays"
def TJ7 : u_T := fun k => match k with
  | _ => ("", "", "", false)
def tyJ7 : Nat → FieldType := fun k => match k with
  | _ => .int
abbrev wsJ70 : List Cond := u_ws RJ7 TJ7 0
theorem nmJ7 : ∀ a, a < 0 → ∀ b, b < 0 → a ≠ b → (TJ7 a).2.1 ≠ (TJ7 b).2.1 := by decide +kernel
theorem tyJ7_ok : ∀ k, k < 0 → parseFieldDescriptor (TJ7 k).2.2.1 = some (tyJ7 k) := by decide +kernel
abbrev cJ7_fill_d0a16 : ByteArray := prog_10_method_101_code
def yJ7_fill_d0a16 : MethodName := ⟨RJ7, "fill", "([JJ)V"⟩
abbrev cJ7_fill_53178 : ByteArray := prog_10_method_103_code
def yJ7_fill_53178 : MethodName := ⟨RJ7, "fill", "([II)V"⟩
def RL : String := "PageOwnersLaw"
abbrev cL_law : ByteArray := code
def yL_law : MethodName := ⟨RL, "law", "([I)Z"⟩
def wsX0_init : List Cond := .code yX0_init cX0_init 1 none :: ([.methodLink RX0 3 objectInit, .instanceMethod objectInit, .code objectInit ⟨#[0xb1]⟩ 1 none])
def wsX0_take : List Cond := .code yX0_take cX0_take 6 none :: ([.fieldLink RX0 15 "PageOwners$Hand" "everHadOne" "Z", .fieldLink RX0 30 "PageOwners$Hand" "page" "I", .fieldLink RX0 33 "PageOwners$Hand" "word" "I", .fieldLink RX0 36 "PageOwners$Hand" "isWrite" "Z", .fieldLink RX0 39 "PageOwners$Hand" "value" "J", .fieldLink RX0 42 "PageOwners$Hand" "answersDue" "I", .fieldLink RX0 45 "PageOwners$Hand" "wasCalled" "Z"] ++ wsX00)
def wsX0_startAnew : List Cond := .code yX0_startAnew cX0_startAnew 1 none :: ([.fieldLink RX0 15 "PageOwners$Hand" "everHadOne" "Z", .fieldLink RX0 19 "PageOwners$Hand" "waitsFor" "I", .fieldLink RX0 23 "PageOwners$Hand" "done" "I", .fieldLink RX0 26 "PageOwners$Hand" "result" "J", .methodLink RX0 9 yX0_take, .instanceMethod yX0_take, .selects RX0 yX0_take yX0_take, .initialized RX0, .code yX0_take cX0_take 6 none, .fieldLink RX0 30 "PageOwners$Hand" "page" "I", .fieldLink RX0 33 "PageOwners$Hand" "word" "I", .fieldLink RX0 36 "PageOwners$Hand" "isWrite" "Z", .fieldLink RX0 39 "PageOwners$Hand" "value" "J", .fieldLink RX0 42 "PageOwners$Hand" "answersDue" "I", .fieldLink RX0 45 "PageOwners$Hand" "wasCalled" "Z"] ++ wsX00)
def wsX0_awaits : List Cond := .code yX0_awaits cX0_awaits 3 (some .boolean) :: ([.fieldLink RX0 19 "PageOwners$Hand" "waitsFor" "I", .fieldLink RX0 30 "PageOwners$Hand" "page" "I"] ++ wsX00)
def wsX1_init : List Cond := .code yX1_init cX1_init 1 none :: ([.methodLink RX1 3 objectInit, .instanceMethod objectInit, .code objectInit ⟨#[0xb1]⟩ 1 none, .arrayClass .long, .fieldLink RX1 9 "PageOwners$Letter" "words" "[J"] ++ wsX10)
def wsX2_init : List Cond := .code yX2_init cX2_init 2 none :: ([.methodLink RX2 3 objectInit, .instanceMethod objectInit, .code objectInit ⟨#[0xb1]⟩ 1 none, .classLink RX2 11 RX1, .fieldLink RX2 13 "PageOwners$Mail" "row" "[LPageOwners$Letter;", .instantiable RX1 7, .initialized RX1, .instanceMethod yX1_init, .code yX1_init cX1_init 1 none, .methodLink RX1 3 objectInit, .arrayClass .long, .fieldLink RX1 9 "PageOwners$Letter" "words" "[J"] ++ wsX20 ++ wsX10)
def wsX2_has : List Cond := .code yX2_has cX2_has 2 (some .boolean) :: ([.fieldLink RX2 18 "PageOwners$Mail" "flying" "I"] ++ wsX20)
def wsX2_putIn : List Cond := .code yX2_putIn cX2_putIn 7 (some (.object "PageOwners$Letter")) :: ([.fieldLink RX2 18 "PageOwners$Mail" "flying" "I", .methodLink RX2 22 Lib.Math.min.name, .static Lib.Math.min.name, .initialized "java/lang/Math", .code Lib.Math.min.name Lib.Math.min.code 2 (some .int), .fieldLink RX2 13 "PageOwners$Mail" "row" "[LPageOwners$Letter;", .fieldLink RX2 28 "PageOwners$Letter" "kind" "I", .fieldLink RX2 31 "PageOwners$Letter" "from" "I", .fieldLink RX2 34 "PageOwners$Letter" "to" "I", .fieldLink RX2 37 "PageOwners$Letter" "page" "I", .fieldLink RX2 40 "PageOwners$Letter" "asker" "I", .fieldLink RX2 43 "PageOwners$Letter" "copySet" "I"] ++ wsX20 ++ wsX10)
def wsX2_takeOut : List Cond := .code yX2_takeOut cX2_takeOut 4 (some (.object "PageOwners$Letter")) :: ([.fieldLink RX2 13 "PageOwners$Mail" "row" "[LPageOwners$Letter;", .fieldLink RX2 18 "PageOwners$Mail" "flying" "I"] ++ wsX20)
def wsX3_init : List Cond := .code yX3_init cX3_init 2 none :: ([.methodLink RX3 3 objectInit, .instanceMethod objectInit, .code objectInit ⟨#[0xb1]⟩ 1 none, .classLink RX3 9 RX0, .instantiable RX0 10, .initialized RX0, .fieldLink RX3 12 "PageOwners$Node" "hand" "LPageOwners$Hand;", .arrayClass .int, .fieldLink RX3 18 "PageOwners$Node" "accessTo" "[I", .arrayClass .boolean, .fieldLink RX3 22 "PageOwners$Node" "owns" "[Z", .fieldLink RX3 26 "PageOwners$Node" "guessOf" "[I", .fieldLink RX3 29 "PageOwners$Node" "copySet" "[I", .arrayClass .long, .fieldLink RX3 32 "PageOwners$Node" "words" "[J", .fieldLink RX3 36 "PageOwners$Node" "queued" "[I", .fieldLink RX3 39 "PageOwners$Node" "queuedKinds" "[I", .fieldLink RX3 42 "PageOwners$Node" "queuedAskers" "[I", .fieldLink RX3 45 "PageOwners$Node" "number" "I", .instanceMethod yX0_init, .code yX0_init cX0_init 1 none, .methodLink RX0 3 objectInit] ++ wsX00 ++ wsX30)
def wsJ7_fill_d0a16 : List Cond := .code yJ7_fill_d0a16 cJ7_fill_d0a16 5 none :: ([])
def wsJ9_floorMod_7cf53 : List Cond := .code yJ9_floorMod_7cf53 cJ9_floorMod_7cf53 3 (some .int) :: ([])
def wsX3_startAnew_r1 : List Cond := [Cond.fieldLink RX3 12 "PageOwners$Node" "hand" "LPageOwners$Hand;", Cond.fieldLink RX3 32 "PageOwners$Node" "words" "[J", Cond.methodLink RX3 58 Lib.Math.max.name, Cond.static Lib.Math.max.name, Cond.initialized "java/lang/Math", Cond.code Lib.Math.max.name Lib.Math.max.code 2 (some .int), Cond.fieldLink RX3 22 "PageOwners$Node" "owns" "[Z", Cond.fieldLink RX3 45 "PageOwners$Node" "number" "I", Cond.fieldLink RX3 18 "PageOwners$Node" "accessTo" "[I", Cond.fieldLink RX3 26 "PageOwners$Node" "guessOf" "[I", Cond.fieldLink RX3 29 "PageOwners$Node" "copySet" "[I", Cond.fieldLink RX3 36 "PageOwners$Node" "queued" "[I", Cond.methodLink RX3 49 yX0_startAnew, Cond.instanceMethod yX0_startAnew, Cond.selects RX0 yX0_startAnew yX0_startAnew, Cond.initialized RX0, Cond.code yX0_startAnew cX0_startAnew 1 none, Cond.fieldLink RX0 15 "PageOwners$Hand" "everHadOne" "Z", Cond.fieldLink RX0 19 "PageOwners$Hand" "waitsFor" "I", Cond.fieldLink RX0 23 "PageOwners$Hand" "done" "I", Cond.fieldLink RX0 26 "PageOwners$Hand" "result" "J", Cond.methodLink RX0 9 yX0_take, Cond.instanceMethod yX0_take, Cond.selects RX0 yX0_take yX0_take]
def wsX3_startAnew_r2 : List Cond := [Cond.code yX0_take cX0_take 6 none, Cond.fieldLink RX0 30 "PageOwners$Hand" "page" "I", Cond.fieldLink RX0 33 "PageOwners$Hand" "word" "I", Cond.fieldLink RX0 36 "PageOwners$Hand" "isWrite" "Z", Cond.fieldLink RX0 39 "PageOwners$Hand" "value" "J", Cond.fieldLink RX0 42 "PageOwners$Hand" "answersDue" "I", Cond.fieldLink RX0 45 "PageOwners$Hand" "wasCalled" "Z", Cond.methodLink RX3 52 yJ7_fill_d0a16, Cond.static yJ7_fill_d0a16, Cond.initialized RJ7, Cond.code yJ7_fill_d0a16 cJ7_fill_d0a16 5 none, Cond.methodLink RX3 64 yJ9_floorMod_7cf53, Cond.static yJ9_floorMod_7cf53, Cond.initialized RJ9, Cond.code yJ9_floorMod_7cf53 cJ9_floorMod_7cf53 3 (some .int)]
def wsX3_startAnew : List Cond := .code yX3_startAnew cX3_startAnew 4 none :: ((wsX3_startAnew_r1 ++ wsX3_startAnew_r2) ++ wsX30 ++ wsX00)
def wsX3_putInQueue : List Cond := .code yX3_putInQueue cX3_putInQueue 5 none :: ([.fieldLink RX3 36 "PageOwners$Node" "queued" "[I", .fieldLink RX3 39 "PageOwners$Node" "queuedKinds" "[I", .fieldLink RX3 42 "PageOwners$Node" "queuedAskers" "[I"] ++ wsX30)
def wsX3_doWhatIsAtHand : List Cond := .code yX3_doWhatIsAtHand cX3_doWhatIsAtHand 2 none :: ([.fieldLink RX3 12 "PageOwners$Node" "hand" "LPageOwners$Hand;", .fieldLink RX3 67 "PageOwners$Hand" "page" "I", .fieldLink RX3 70 "PageOwners$Hand" "word" "I", .fieldLink RX3 73 "PageOwners$Hand" "isWrite" "Z", .fieldLink RX3 32 "PageOwners$Node" "words" "[J", .fieldLink RX3 77 "PageOwners$Hand" "value" "J", .fieldLink RX3 81 "PageOwners$Hand" "result" "J", .fieldLink RX3 84 "PageOwners$Hand" "waitsFor" "I", .fieldLink RX3 87 "PageOwners$Hand" "done" "I"] ++ wsX30 ++ wsX00)
def wsJ7_fill_53178 : List Cond := .code yJ7_fill_53178 cJ7_fill_53178 4 none :: ([])
def wsX4_startAnew_r1 : List Cond := [Cond.fieldLink RX4 141 "PageOwners" "nodes" "I", Cond.fieldLink RX4 11 "PageOwners" "all" "[LPageOwners$Node;", Cond.fieldLink RX4 18 "PageOwners" "mail" "LPageOwners$Mail;", Cond.fieldLink RX4 164 "PageOwners$Mail" "flying" "I", Cond.fieldLink RX4 22 "PageOwners" "counts" "[I", Cond.methodLink RX4 174 yX3_startAnew, Cond.instanceMethod yX3_startAnew, Cond.selects RX3 yX3_startAnew yX3_startAnew, Cond.initialized RX3, Cond.code yX3_startAnew cX3_startAnew 4 none, Cond.fieldLink RX3 12 "PageOwners$Node" "hand" "LPageOwners$Hand;", Cond.fieldLink RX3 32 "PageOwners$Node" "words" "[J", Cond.methodLink RX3 58 Lib.Math.max.name, Cond.static Lib.Math.max.name, Cond.initialized "java/lang/Math", Cond.code Lib.Math.max.name Lib.Math.max.code 2 (some .int), Cond.fieldLink RX3 22 "PageOwners$Node" "owns" "[Z", Cond.fieldLink RX3 45 "PageOwners$Node" "number" "I", Cond.fieldLink RX3 18 "PageOwners$Node" "accessTo" "[I", Cond.fieldLink RX3 26 "PageOwners$Node" "guessOf" "[I", Cond.fieldLink RX3 29 "PageOwners$Node" "copySet" "[I", Cond.fieldLink RX3 36 "PageOwners$Node" "queued" "[I", Cond.methodLink RX3 49 yX0_startAnew, Cond.instanceMethod yX0_startAnew]
def wsX4_startAnew_r2 : List Cond := [Cond.selects RX0 yX0_startAnew yX0_startAnew, Cond.initialized RX0, Cond.code yX0_startAnew cX0_startAnew 1 none, Cond.fieldLink RX0 15 "PageOwners$Hand" "everHadOne" "Z", Cond.fieldLink RX0 19 "PageOwners$Hand" "waitsFor" "I", Cond.fieldLink RX0 23 "PageOwners$Hand" "done" "I", Cond.fieldLink RX0 26 "PageOwners$Hand" "result" "J", Cond.methodLink RX0 9 yX0_take, Cond.instanceMethod yX0_take, Cond.selects RX0 yX0_take yX0_take, Cond.code yX0_take cX0_take 6 none, Cond.fieldLink RX0 30 "PageOwners$Hand" "page" "I", Cond.fieldLink RX0 33 "PageOwners$Hand" "word" "I", Cond.fieldLink RX0 36 "PageOwners$Hand" "isWrite" "Z", Cond.fieldLink RX0 39 "PageOwners$Hand" "value" "J", Cond.fieldLink RX0 42 "PageOwners$Hand" "answersDue" "I", Cond.fieldLink RX0 45 "PageOwners$Hand" "wasCalled" "Z", Cond.methodLink RX3 52 yJ7_fill_d0a16, Cond.static yJ7_fill_d0a16, Cond.initialized RJ7, Cond.code yJ7_fill_d0a16 cJ7_fill_d0a16 5 none, Cond.methodLink RX3 64 yJ9_floorMod_7cf53, Cond.static yJ9_floorMod_7cf53, Cond.initialized RJ9]
def wsX4_startAnew_r3 : List Cond := [Cond.code yJ9_floorMod_7cf53 cJ9_floorMod_7cf53 3 (some .int), Cond.methodLink RX4 175 yJ7_fill_53178, Cond.static yJ7_fill_53178, Cond.code yJ7_fill_53178 cJ7_fill_53178 4 none]
def wsX4_startAnew : List Cond := .code yX4_startAnew cX4_startAnew 3 none :: ((wsX4_startAnew_r1 ++ (wsX4_startAnew_r2 ++ wsX4_startAnew_r3)) ++ wsX40 ++ wsX20 ++ wsX30 ++ wsX00)
def wsX4_init_r1 : List Cond := [Cond.methodLink RX4 1 objectInit, Cond.instanceMethod objectInit, Cond.code objectInit ⟨#[0xb1]⟩ 1 none, Cond.classLink RX4 9 RX3, Cond.fieldLink RX4 11 "PageOwners" "all" "[LPageOwners$Node;", Cond.classLink RX4 15 RX2, Cond.instantiable RX2 2, Cond.initialized RX2, Cond.fieldLink RX4 18 "PageOwners" "mail" "LPageOwners$Mail;", Cond.arrayClass .int, Cond.fieldLink RX4 22 "PageOwners" "counts" "[I", Cond.instantiable RX3 10, Cond.initialized RX3, Cond.methodLink RX4 17 yX2_init, Cond.instanceMethod yX2_init, Cond.code yX2_init cX2_init 2 none, Cond.methodLink RX2 3 objectInit, Cond.classLink RX2 11 RX1, Cond.fieldLink RX2 13 "PageOwners$Mail" "row" "[LPageOwners$Letter;", Cond.instantiable RX1 7, Cond.initialized RX1, Cond.instanceMethod yX1_init, Cond.code yX1_init cX1_init 1 none, Cond.methodLink RX1 3 objectInit]
def wsX4_init_r2 : List Cond := [Cond.arrayClass .long, Cond.fieldLink RX1 9 "PageOwners$Letter" "words" "[J", Cond.methodLink RX4 26 yX3_init, Cond.instanceMethod yX3_init, Cond.code yX3_init cX3_init 2 none, Cond.methodLink RX3 3 objectInit, Cond.classLink RX3 9 RX0, Cond.instantiable RX0 10, Cond.initialized RX0, Cond.fieldLink RX3 12 "PageOwners$Node" "hand" "LPageOwners$Hand;", Cond.fieldLink RX3 18 "PageOwners$Node" "accessTo" "[I", Cond.arrayClass .boolean, Cond.fieldLink RX3 22 "PageOwners$Node" "owns" "[Z", Cond.fieldLink RX3 26 "PageOwners$Node" "guessOf" "[I", Cond.fieldLink RX3 29 "PageOwners$Node" "copySet" "[I", Cond.fieldLink RX3 32 "PageOwners$Node" "words" "[J", Cond.fieldLink RX3 36 "PageOwners$Node" "queued" "[I", Cond.fieldLink RX3 39 "PageOwners$Node" "queuedKinds" "[I", Cond.fieldLink RX3 42 "PageOwners$Node" "queuedAskers" "[I", Cond.fieldLink RX3 45 "PageOwners$Node" "number" "I", Cond.instanceMethod yX0_init, Cond.code yX0_init cX0_init 1 none, Cond.methodLink RX0 3 objectInit, Cond.methodLink RX4 29 yX4_startAnew]
def wsX4_init_r3 : List Cond := [Cond.instanceMethod yX4_startAnew, Cond.selects RX4 yX4_startAnew yX4_startAnew, Cond.initialized RX4, Cond.code yX4_startAnew cX4_startAnew 3 none, Cond.fieldLink RX4 141 "PageOwners" "nodes" "I", Cond.fieldLink RX4 164 "PageOwners$Mail" "flying" "I", Cond.methodLink RX4 174 yX3_startAnew, Cond.instanceMethod yX3_startAnew, Cond.selects RX3 yX3_startAnew yX3_startAnew, Cond.code yX3_startAnew cX3_startAnew 4 none, Cond.methodLink RX3 58 Lib.Math.max.name, Cond.static Lib.Math.max.name, Cond.initialized "java/lang/Math", Cond.code Lib.Math.max.name Lib.Math.max.code 2 (some .int), Cond.methodLink RX3 49 yX0_startAnew, Cond.instanceMethod yX0_startAnew, Cond.selects RX0 yX0_startAnew yX0_startAnew, Cond.code yX0_startAnew cX0_startAnew 1 none, Cond.fieldLink RX0 15 "PageOwners$Hand" "everHadOne" "Z", Cond.fieldLink RX0 19 "PageOwners$Hand" "waitsFor" "I", Cond.fieldLink RX0 23 "PageOwners$Hand" "done" "I", Cond.fieldLink RX0 26 "PageOwners$Hand" "result" "J", Cond.methodLink RX0 9 yX0_take, Cond.instanceMethod yX0_take]
def wsX4_init_r4 : List Cond := [Cond.selects RX0 yX0_take yX0_take, Cond.code yX0_take cX0_take 6 none, Cond.fieldLink RX0 30 "PageOwners$Hand" "page" "I", Cond.fieldLink RX0 33 "PageOwners$Hand" "word" "I", Cond.fieldLink RX0 36 "PageOwners$Hand" "isWrite" "Z", Cond.fieldLink RX0 39 "PageOwners$Hand" "value" "J", Cond.fieldLink RX0 42 "PageOwners$Hand" "answersDue" "I", Cond.fieldLink RX0 45 "PageOwners$Hand" "wasCalled" "Z", Cond.methodLink RX3 52 yJ7_fill_d0a16, Cond.static yJ7_fill_d0a16, Cond.initialized RJ7, Cond.code yJ7_fill_d0a16 cJ7_fill_d0a16 5 none, Cond.methodLink RX3 64 yJ9_floorMod_7cf53, Cond.static yJ9_floorMod_7cf53, Cond.initialized RJ9, Cond.code yJ9_floorMod_7cf53 cJ9_floorMod_7cf53 3 (some .int), Cond.methodLink RX4 175 yJ7_fill_53178, Cond.static yJ7_fill_53178, Cond.code yJ7_fill_53178 cJ7_fill_53178 4 none]
def wsX4_init : List Cond := .code yX4_init cX4_init 2 none :: ((wsX4_init_r1 ++ (wsX4_init_r2 ++ (wsX4_init_r3 ++ wsX4_init_r4))) ++ wsX40 ++ wsX20 ++ wsX30 ++ wsX10 ++ wsX00)
def wsX4_begin_r1 : List Cond := [Cond.methodLink RX4 29 yX4_startAnew, Cond.instanceMethod yX4_startAnew, Cond.selects RX4 yX4_startAnew yX4_startAnew, Cond.initialized RX4, Cond.code yX4_startAnew cX4_startAnew 3 none, Cond.fieldLink RX4 141 "PageOwners" "nodes" "I", Cond.fieldLink RX4 11 "PageOwners" "all" "[LPageOwners$Node;", Cond.fieldLink RX4 18 "PageOwners" "mail" "LPageOwners$Mail;", Cond.fieldLink RX4 164 "PageOwners$Mail" "flying" "I", Cond.fieldLink RX4 22 "PageOwners" "counts" "[I", Cond.methodLink RX4 174 yX3_startAnew, Cond.instanceMethod yX3_startAnew, Cond.selects RX3 yX3_startAnew yX3_startAnew, Cond.initialized RX3, Cond.code yX3_startAnew cX3_startAnew 4 none, Cond.fieldLink RX3 12 "PageOwners$Node" "hand" "LPageOwners$Hand;", Cond.fieldLink RX3 32 "PageOwners$Node" "words" "[J", Cond.methodLink RX3 58 Lib.Math.max.name, Cond.static Lib.Math.max.name, Cond.initialized "java/lang/Math", Cond.code Lib.Math.max.name Lib.Math.max.code 2 (some .int), Cond.fieldLink RX3 22 "PageOwners$Node" "owns" "[Z", Cond.fieldLink RX3 45 "PageOwners$Node" "number" "I", Cond.fieldLink RX3 18 "PageOwners$Node" "accessTo" "[I"]
def wsX4_begin_r2 : List Cond := [Cond.fieldLink RX3 26 "PageOwners$Node" "guessOf" "[I", Cond.fieldLink RX3 29 "PageOwners$Node" "copySet" "[I", Cond.fieldLink RX3 36 "PageOwners$Node" "queued" "[I", Cond.methodLink RX3 49 yX0_startAnew, Cond.instanceMethod yX0_startAnew, Cond.selects RX0 yX0_startAnew yX0_startAnew, Cond.initialized RX0, Cond.code yX0_startAnew cX0_startAnew 1 none, Cond.fieldLink RX0 15 "PageOwners$Hand" "everHadOne" "Z", Cond.fieldLink RX0 19 "PageOwners$Hand" "waitsFor" "I", Cond.fieldLink RX0 23 "PageOwners$Hand" "done" "I", Cond.fieldLink RX0 26 "PageOwners$Hand" "result" "J", Cond.methodLink RX0 9 yX0_take, Cond.instanceMethod yX0_take, Cond.selects RX0 yX0_take yX0_take, Cond.code yX0_take cX0_take 6 none, Cond.fieldLink RX0 30 "PageOwners$Hand" "page" "I", Cond.fieldLink RX0 33 "PageOwners$Hand" "word" "I", Cond.fieldLink RX0 36 "PageOwners$Hand" "isWrite" "Z", Cond.fieldLink RX0 39 "PageOwners$Hand" "value" "J", Cond.fieldLink RX0 42 "PageOwners$Hand" "answersDue" "I", Cond.fieldLink RX0 45 "PageOwners$Hand" "wasCalled" "Z", Cond.methodLink RX3 52 yJ7_fill_d0a16, Cond.static yJ7_fill_d0a16]
def wsX4_begin_r3 : List Cond := [Cond.initialized RJ7, Cond.code yJ7_fill_d0a16 cJ7_fill_d0a16 5 none, Cond.methodLink RX3 64 yJ9_floorMod_7cf53, Cond.static yJ9_floorMod_7cf53, Cond.initialized RJ9, Cond.code yJ9_floorMod_7cf53 cJ9_floorMod_7cf53 3 (some .int), Cond.methodLink RX4 175 yJ7_fill_53178, Cond.static yJ7_fill_53178, Cond.code yJ7_fill_53178 cJ7_fill_53178 4 none]
def wsX4_begin : List Cond := .code yX4_begin cX4_begin 2 (some .boolean) :: ((wsX4_begin_r1 ++ (wsX4_begin_r2 ++ wsX4_begin_r3)) ++ wsX40 ++ wsX20 ++ wsX30 ++ wsX00)
def wsX4_isNode : List Cond := .code yX4_isNode cX4_isNode 2 (some .boolean) :: ([.fieldLink RX4 141 "PageOwners" "nodes" "I"] ++ wsX40)
def wsX4_isPage : List Cond := .code yX4_isPage cX4_isPage 1 (some .boolean) :: ([])
def wsX4_isWord : List Cond := .code yX4_isWord cX4_isWord 1 (some .boolean) :: ([])
def wsX4_mayStart : List Cond := .code yX4_mayStart cX4_mayStart 4 (some .boolean) :: ([.fieldLink RX4 11 "PageOwners" "all" "[LPageOwners$Node;", .fieldLink RX4 36 "PageOwners$Node" "hand" "LPageOwners$Hand;", .fieldLink RX4 117 "PageOwners$Hand" "waitsFor" "I", .methodLink RX4 114 yX4_isNode, .instanceMethod yX4_isNode, .selects RX4 yX4_isNode yX4_isNode, .initialized RX4, .code yX4_isNode cX4_isNode 2 (some .boolean), .fieldLink RX4 141 "PageOwners" "nodes" "I", .methodLink RX4 138 yX4_isPage, .static yX4_isPage, .code yX4_isPage cX4_isPage 1 (some .boolean), .methodLink RX4 150 yX4_isWord, .static yX4_isWord, .code yX4_isWord cX4_isWord 1 (some .boolean)] ++ wsX40 ++ wsX30 ++ wsX00)
def wsX4_send : List Cond := .code yX4_send cX4_send 5 (some (.object "PageOwners$Letter")) :: ([.fieldLink RX4 22 "PageOwners" "counts" "[I", .fieldLink RX4 18 "PageOwners" "mail" "LPageOwners$Mail;", .methodLink RX4 188 yX2_putIn, .instanceMethod yX2_putIn, .selects RX2 yX2_putIn yX2_putIn, .initialized RX2, .code yX2_putIn cX2_putIn 7 (some (.object "PageOwners$Letter")), .fieldLink RX2 18 "PageOwners$Mail" "flying" "I", .methodLink RX2 22 Lib.Math.min.name, .static Lib.Math.min.name, .initialized "java/lang/Math", .code Lib.Math.min.name Lib.Math.min.code 2 (some .int), .fieldLink RX2 13 "PageOwners$Mail" "row" "[LPageOwners$Letter;", .fieldLink RX2 28 "PageOwners$Letter" "kind" "I", .fieldLink RX2 31 "PageOwners$Letter" "from" "I", .fieldLink RX2 34 "PageOwners$Letter" "to" "I", .fieldLink RX2 37 "PageOwners$Letter" "page" "I", .fieldLink RX2 40 "PageOwners$Letter" "asker" "I", .fieldLink RX2 43 "PageOwners$Letter" "copySet" "I"] ++ wsX40 ++ wsX20 ++ wsX10)
def wsX4_ask_r1 : List Cond := [Cond.fieldLink RX4 36 "PageOwners$Node" "hand" "LPageOwners$Hand;", Cond.fieldLink RX4 127 "PageOwners$Hand" "page" "I", Cond.fieldLink RX4 117 "PageOwners$Hand" "waitsFor" "I", Cond.fieldLink RX4 181 "PageOwners$Node" "number" "I", Cond.fieldLink RX4 144 "PageOwners$Node" "guessOf" "[I", Cond.fieldLink RX4 91 "PageOwners$Letter" "asker" "I", Cond.methodLink RX4 184 yX4_send, Cond.instanceMethod yX4_send, Cond.selects RX4 yX4_send yX4_send, Cond.initialized RX4, Cond.code yX4_send cX4_send 5 (some (.object "PageOwners$Letter")), Cond.fieldLink RX4 22 "PageOwners" "counts" "[I", Cond.fieldLink RX4 18 "PageOwners" "mail" "LPageOwners$Mail;", Cond.methodLink RX4 188 yX2_putIn, Cond.instanceMethod yX2_putIn, Cond.selects RX2 yX2_putIn yX2_putIn, Cond.initialized RX2, Cond.code yX2_putIn cX2_putIn 7 (some (.object "PageOwners$Letter")), Cond.fieldLink RX2 18 "PageOwners$Mail" "flying" "I", Cond.methodLink RX2 22 Lib.Math.min.name, Cond.static Lib.Math.min.name, Cond.initialized "java/lang/Math", Cond.code Lib.Math.min.name Lib.Math.min.code 2 (some .int), Cond.fieldLink RX2 13 "PageOwners$Mail" "row" "[LPageOwners$Letter;"]
def wsX4_ask_r2 : List Cond := [Cond.fieldLink RX2 28 "PageOwners$Letter" "kind" "I", Cond.fieldLink RX2 31 "PageOwners$Letter" "from" "I", Cond.fieldLink RX2 34 "PageOwners$Letter" "to" "I", Cond.fieldLink RX2 37 "PageOwners$Letter" "page" "I", Cond.fieldLink RX2 40 "PageOwners$Letter" "asker" "I", Cond.fieldLink RX2 43 "PageOwners$Letter" "copySet" "I"]
def wsX4_ask : List Cond := .code yX4_ask cX4_ask 5 none :: ((wsX4_ask_r1 ++ wsX4_ask_r2) ++ wsX30 ++ wsX00 ++ wsX10 ++ wsX40 ++ wsX20)
def wsX4_finish : List Cond := .code yX4_finish cX4_finish 2 none :: ([.fieldLink RX4 22 "PageOwners" "counts" "[I", .methodLink RX4 191 yX3_doWhatIsAtHand, .instanceMethod yX3_doWhatIsAtHand, .selects RX3 yX3_doWhatIsAtHand yX3_doWhatIsAtHand, .initialized RX3, .code yX3_doWhatIsAtHand cX3_doWhatIsAtHand 2 none, .fieldLink RX3 12 "PageOwners$Node" "hand" "LPageOwners$Hand;", .fieldLink RX3 67 "PageOwners$Hand" "page" "I", .fieldLink RX3 70 "PageOwners$Hand" "word" "I", .fieldLink RX3 73 "PageOwners$Hand" "isWrite" "Z", .fieldLink RX3 32 "PageOwners$Node" "words" "[J", .fieldLink RX3 77 "PageOwners$Hand" "value" "J", .fieldLink RX3 81 "PageOwners$Hand" "result" "J", .fieldLink RX3 84 "PageOwners$Hand" "waitsFor" "I", .fieldLink RX3 87 "PageOwners$Hand" "done" "I"] ++ wsX40 ++ wsX30 ++ wsX00)
def wsX4_doneAtOnce : List Cond := .code yX4_doneAtOnce cX4_doneAtOnce 2 (some .int) :: ([.fieldLink RX4 36 "PageOwners$Node" "hand" "LPageOwners$Hand;", .fieldLink RX4 117 "PageOwners$Hand" "waitsFor" "I", .fieldLink RX4 22 "PageOwners" "counts" "[I"] ++ wsX30 ++ wsX00 ++ wsX40)
def wsX4_read_r1 : List Cond := [Cond.fieldLink RX4 11 "PageOwners" "all" "[LPageOwners$Node;", Cond.fieldLink RX4 36 "PageOwners$Node" "hand" "LPageOwners$Hand;", Cond.fieldLink RX4 46 "PageOwners$Node" "accessTo" "[I", Cond.methodLink RX4 32 yX4_mayStart, Cond.instanceMethod yX4_mayStart, Cond.selects RX4 yX4_mayStart yX4_mayStart, Cond.initialized RX4, Cond.code yX4_mayStart cX4_mayStart 4 (some .boolean), Cond.fieldLink RX4 117 "PageOwners$Hand" "waitsFor" "I", Cond.methodLink RX4 114 yX4_isNode, Cond.instanceMethod yX4_isNode, Cond.selects RX4 yX4_isNode yX4_isNode, Cond.code yX4_isNode cX4_isNode 2 (some .boolean), Cond.fieldLink RX4 141 "PageOwners" "nodes" "I", Cond.methodLink RX4 138 yX4_isPage, Cond.static yX4_isPage, Cond.code yX4_isPage cX4_isPage 1 (some .boolean), Cond.methodLink RX4 150 yX4_isWord, Cond.static yX4_isWord, Cond.code yX4_isWord cX4_isWord 1 (some .boolean), Cond.methodLink RX4 40 yX0_take, Cond.instanceMethod yX0_take, Cond.selects RX0 yX0_take yX0_take, Cond.initialized RX0]
def wsX4_read_r2 : List Cond := [Cond.code yX0_take cX0_take 6 none, Cond.fieldLink RX0 15 "PageOwners$Hand" "everHadOne" "Z", Cond.fieldLink RX0 30 "PageOwners$Hand" "page" "I", Cond.fieldLink RX0 33 "PageOwners$Hand" "word" "I", Cond.fieldLink RX0 36 "PageOwners$Hand" "isWrite" "Z", Cond.fieldLink RX0 39 "PageOwners$Hand" "value" "J", Cond.fieldLink RX0 42 "PageOwners$Hand" "answersDue" "I", Cond.fieldLink RX0 45 "PageOwners$Hand" "wasCalled" "Z", Cond.methodLink RX4 49 yX4_ask, Cond.instanceMethod yX4_ask, Cond.selects RX4 yX4_ask yX4_ask, Cond.code yX4_ask cX4_ask 5 none, Cond.fieldLink RX4 127 "PageOwners$Hand" "page" "I", Cond.fieldLink RX4 181 "PageOwners$Node" "number" "I", Cond.fieldLink RX4 144 "PageOwners$Node" "guessOf" "[I", Cond.fieldLink RX4 91 "PageOwners$Letter" "asker" "I", Cond.methodLink RX4 184 yX4_send, Cond.instanceMethod yX4_send, Cond.selects RX4 yX4_send yX4_send, Cond.code yX4_send cX4_send 5 (some (.object "PageOwners$Letter")), Cond.fieldLink RX4 22 "PageOwners" "counts" "[I", Cond.fieldLink RX4 18 "PageOwners" "mail" "LPageOwners$Mail;", Cond.methodLink RX4 188 yX2_putIn, Cond.instanceMethod yX2_putIn]
def wsX4_read_r3 : List Cond := [Cond.selects RX2 yX2_putIn yX2_putIn, Cond.initialized RX2, Cond.code yX2_putIn cX2_putIn 7 (some (.object "PageOwners$Letter")), Cond.fieldLink RX2 18 "PageOwners$Mail" "flying" "I", Cond.methodLink RX2 22 Lib.Math.min.name, Cond.static Lib.Math.min.name, Cond.initialized "java/lang/Math", Cond.code Lib.Math.min.name Lib.Math.min.code 2 (some .int), Cond.fieldLink RX2 13 "PageOwners$Mail" "row" "[LPageOwners$Letter;", Cond.fieldLink RX2 28 "PageOwners$Letter" "kind" "I", Cond.fieldLink RX2 31 "PageOwners$Letter" "from" "I", Cond.fieldLink RX2 34 "PageOwners$Letter" "to" "I", Cond.fieldLink RX2 37 "PageOwners$Letter" "page" "I", Cond.fieldLink RX2 40 "PageOwners$Letter" "asker" "I", Cond.fieldLink RX2 43 "PageOwners$Letter" "copySet" "I", Cond.methodLink RX4 53 yX4_finish, Cond.instanceMethod yX4_finish, Cond.selects RX4 yX4_finish yX4_finish, Cond.code yX4_finish cX4_finish 2 none, Cond.methodLink RX4 191 yX3_doWhatIsAtHand, Cond.instanceMethod yX3_doWhatIsAtHand, Cond.selects RX3 yX3_doWhatIsAtHand yX3_doWhatIsAtHand, Cond.initialized RX3, Cond.code yX3_doWhatIsAtHand cX3_doWhatIsAtHand 2 none]
def wsX4_read_r4 : List Cond := [Cond.fieldLink RX3 12 "PageOwners$Node" "hand" "LPageOwners$Hand;", Cond.fieldLink RX3 67 "PageOwners$Hand" "page" "I", Cond.fieldLink RX3 70 "PageOwners$Hand" "word" "I", Cond.fieldLink RX3 73 "PageOwners$Hand" "isWrite" "Z", Cond.fieldLink RX3 32 "PageOwners$Node" "words" "[J", Cond.fieldLink RX3 77 "PageOwners$Hand" "value" "J", Cond.fieldLink RX3 81 "PageOwners$Hand" "result" "J", Cond.fieldLink RX3 84 "PageOwners$Hand" "waitsFor" "I", Cond.fieldLink RX3 87 "PageOwners$Hand" "done" "I", Cond.methodLink RX4 57 yX4_doneAtOnce, Cond.instanceMethod yX4_doneAtOnce, Cond.selects RX4 yX4_doneAtOnce yX4_doneAtOnce, Cond.code yX4_doneAtOnce cX4_doneAtOnce 2 (some .int)]
def wsX4_read : List Cond := .code yX4_read cX4_read 5 (some .int) :: ((wsX4_read_r1 ++ (wsX4_read_r2 ++ (wsX4_read_r3 ++ wsX4_read_r4))) ++ wsX40 ++ wsX30 ++ wsX00 ++ wsX10 ++ wsX20)
def wsX4_callBack_r1 : List Cond := [Cond.fieldLink RX4 36 "PageOwners$Node" "hand" "LPageOwners$Hand;", Cond.fieldLink RX4 127 "PageOwners$Hand" "page" "I", Cond.fieldLink RX4 147 "PageOwners$Node" "copySet" "[I", Cond.fieldLink RX4 117 "PageOwners$Hand" "waitsFor" "I", Cond.fieldLink RX4 141 "PageOwners" "nodes" "I", Cond.fieldLink RX4 181 "PageOwners$Node" "number" "I", Cond.fieldLink RX4 22 "PageOwners" "counts" "[I", Cond.fieldLink RX4 111 "PageOwners$Hand" "answersDue" "I", Cond.methodLink RX4 184 yX4_send, Cond.instanceMethod yX4_send, Cond.selects RX4 yX4_send yX4_send, Cond.initialized RX4, Cond.code yX4_send cX4_send 5 (some (.object "PageOwners$Letter")), Cond.fieldLink RX4 18 "PageOwners" "mail" "LPageOwners$Mail;", Cond.methodLink RX4 188 yX2_putIn, Cond.instanceMethod yX2_putIn, Cond.selects RX2 yX2_putIn yX2_putIn, Cond.initialized RX2, Cond.code yX2_putIn cX2_putIn 7 (some (.object "PageOwners$Letter")), Cond.fieldLink RX2 18 "PageOwners$Mail" "flying" "I", Cond.methodLink RX2 22 Lib.Math.min.name, Cond.static Lib.Math.min.name, Cond.initialized "java/lang/Math", Cond.code Lib.Math.min.name Lib.Math.min.code 2 (some .int)]
def wsX4_callBack_r2 : List Cond := [Cond.fieldLink RX2 13 "PageOwners$Mail" "row" "[LPageOwners$Letter;", Cond.fieldLink RX2 28 "PageOwners$Letter" "kind" "I", Cond.fieldLink RX2 31 "PageOwners$Letter" "from" "I", Cond.fieldLink RX2 34 "PageOwners$Letter" "to" "I", Cond.fieldLink RX2 37 "PageOwners$Letter" "page" "I", Cond.fieldLink RX2 40 "PageOwners$Letter" "asker" "I", Cond.fieldLink RX2 43 "PageOwners$Letter" "copySet" "I"]
def wsX4_callBack : List Cond := .code yX4_callBack cX4_callBack 5 none :: ((wsX4_callBack_r1 ++ wsX4_callBack_r2) ++ wsX30 ++ wsX00 ++ wsX40 ++ wsX20 ++ wsX10)
def wsX4_sendOn_r1 : List Cond := [Cond.fieldLink RX4 181 "PageOwners$Node" "number" "I", Cond.fieldLink RX4 144 "PageOwners$Node" "guessOf" "[I", Cond.fieldLink RX4 91 "PageOwners$Letter" "asker" "I", Cond.fieldLink RX4 22 "PageOwners" "counts" "[I", Cond.methodLink RX4 184 yX4_send, Cond.instanceMethod yX4_send, Cond.selects RX4 yX4_send yX4_send, Cond.initialized RX4, Cond.code yX4_send cX4_send 5 (some (.object "PageOwners$Letter")), Cond.fieldLink RX4 18 "PageOwners" "mail" "LPageOwners$Mail;", Cond.methodLink RX4 188 yX2_putIn, Cond.instanceMethod yX2_putIn, Cond.selects RX2 yX2_putIn yX2_putIn, Cond.initialized RX2, Cond.code yX2_putIn cX2_putIn 7 (some (.object "PageOwners$Letter")), Cond.fieldLink RX2 18 "PageOwners$Mail" "flying" "I", Cond.methodLink RX2 22 Lib.Math.min.name, Cond.static Lib.Math.min.name, Cond.initialized "java/lang/Math", Cond.code Lib.Math.min.name Lib.Math.min.code 2 (some .int), Cond.fieldLink RX2 13 "PageOwners$Mail" "row" "[LPageOwners$Letter;", Cond.fieldLink RX2 28 "PageOwners$Letter" "kind" "I", Cond.fieldLink RX2 31 "PageOwners$Letter" "from" "I", Cond.fieldLink RX2 34 "PageOwners$Letter" "to" "I"]
def wsX4_sendOn_r2 : List Cond := [Cond.fieldLink RX2 37 "PageOwners$Letter" "page" "I", Cond.fieldLink RX2 40 "PageOwners$Letter" "asker" "I", Cond.fieldLink RX2 43 "PageOwners$Letter" "copySet" "I"]
def wsX4_sendOn : List Cond := .code yX4_sendOn cX4_sendOn 5 none :: ((wsX4_sendOn_r1 ++ wsX4_sendOn_r2) ++ wsX30 ++ wsX10 ++ wsX40 ++ wsX20)
def wsX4_giveToRead_r1 : List Cond := [Cond.fieldLink RX4 147 "PageOwners$Node" "copySet" "[I", Cond.fieldLink RX4 46 "PageOwners$Node" "accessTo" "[I", Cond.fieldLink RX4 181 "PageOwners$Node" "number" "I", Cond.fieldLink RX4 153 "PageOwners$Node" "words" "[J", Cond.fieldLink RX4 173 "PageOwners$Letter" "words" "[J", Cond.methodLink RX4 221 arraycopyName, Cond.native arraycopyName, Cond.static arraycopyName, Cond.initialized "java/lang/System", Cond.fieldLink RX4 22 "PageOwners" "counts" "[I", Cond.methodLink RX4 184 yX4_send, Cond.instanceMethod yX4_send, Cond.selects RX4 yX4_send yX4_send, Cond.initialized RX4, Cond.code yX4_send cX4_send 5 (some (.object "PageOwners$Letter")), Cond.fieldLink RX4 18 "PageOwners" "mail" "LPageOwners$Mail;", Cond.methodLink RX4 188 yX2_putIn, Cond.instanceMethod yX2_putIn, Cond.selects RX2 yX2_putIn yX2_putIn, Cond.initialized RX2, Cond.code yX2_putIn cX2_putIn 7 (some (.object "PageOwners$Letter")), Cond.fieldLink RX2 18 "PageOwners$Mail" "flying" "I", Cond.methodLink RX2 22 Lib.Math.min.name, Cond.static Lib.Math.min.name]
def wsX4_giveToRead_r2 : List Cond := [Cond.initialized "java/lang/Math", Cond.code Lib.Math.min.name Lib.Math.min.code 2 (some .int), Cond.fieldLink RX2 13 "PageOwners$Mail" "row" "[LPageOwners$Letter;", Cond.fieldLink RX2 28 "PageOwners$Letter" "kind" "I", Cond.fieldLink RX2 31 "PageOwners$Letter" "from" "I", Cond.fieldLink RX2 34 "PageOwners$Letter" "to" "I", Cond.fieldLink RX2 37 "PageOwners$Letter" "page" "I", Cond.fieldLink RX2 40 "PageOwners$Letter" "asker" "I", Cond.fieldLink RX2 43 "PageOwners$Letter" "copySet" "I"]
def wsX4_giveToRead : List Cond := .code yX4_giveToRead cX4_giveToRead 5 none :: ((wsX4_giveToRead_r1 ++ wsX4_giveToRead_r2) ++ wsX30 ++ wsX10 ++ wsX40 ++ wsX20)
def wsX4_giveToWrite_r1 : List Cond := [Cond.fieldLink RX4 181 "PageOwners$Node" "number" "I", Cond.fieldLink RX4 153 "PageOwners$Node" "words" "[J", Cond.fieldLink RX4 173 "PageOwners$Letter" "words" "[J", Cond.methodLink RX4 221 arraycopyName, Cond.native arraycopyName, Cond.static arraycopyName, Cond.initialized "java/lang/System", Cond.fieldLink RX4 147 "PageOwners$Node" "copySet" "[I", Cond.fieldLink RX4 171 "PageOwners$Letter" "copySet" "I", Cond.fieldLink RX4 22 "PageOwners" "counts" "[I", Cond.fieldLink RX4 61 "PageOwners$Node" "owns" "[Z", Cond.fieldLink RX4 46 "PageOwners$Node" "accessTo" "[I", Cond.fieldLink RX4 144 "PageOwners$Node" "guessOf" "[I", Cond.methodLink RX4 184 yX4_send, Cond.instanceMethod yX4_send, Cond.selects RX4 yX4_send yX4_send, Cond.initialized RX4, Cond.code yX4_send cX4_send 5 (some (.object "PageOwners$Letter")), Cond.fieldLink RX4 18 "PageOwners" "mail" "LPageOwners$Mail;", Cond.methodLink RX4 188 yX2_putIn, Cond.instanceMethod yX2_putIn, Cond.selects RX2 yX2_putIn yX2_putIn, Cond.initialized RX2, Cond.code yX2_putIn cX2_putIn 7 (some (.object "PageOwners$Letter"))]
def wsX4_giveToWrite_r2 : List Cond := [Cond.fieldLink RX2 18 "PageOwners$Mail" "flying" "I", Cond.methodLink RX2 22 Lib.Math.min.name, Cond.static Lib.Math.min.name, Cond.initialized "java/lang/Math", Cond.code Lib.Math.min.name Lib.Math.min.code 2 (some .int), Cond.fieldLink RX2 13 "PageOwners$Mail" "row" "[LPageOwners$Letter;", Cond.fieldLink RX2 28 "PageOwners$Letter" "kind" "I", Cond.fieldLink RX2 31 "PageOwners$Letter" "from" "I", Cond.fieldLink RX2 34 "PageOwners$Letter" "to" "I", Cond.fieldLink RX2 37 "PageOwners$Letter" "page" "I", Cond.fieldLink RX2 40 "PageOwners$Letter" "asker" "I", Cond.fieldLink RX2 43 "PageOwners$Letter" "copySet" "I"]
def wsX4_giveToWrite : List Cond := .code yX4_giveToWrite cX4_giveToWrite 5 none :: ((wsX4_giveToWrite_r1 ++ wsX4_giveToWrite_r2) ++ wsX30 ++ wsX10 ++ wsX40 ++ wsX20)
def wsX4_askingComes_r1 : List Cond := [Cond.fieldLink RX4 36 "PageOwners$Node" "hand" "LPageOwners$Hand;", Cond.fieldLink RX4 61 "PageOwners$Node" "owns" "[Z", Cond.methodLink RX4 204 yX0_awaits, Cond.instanceMethod yX0_awaits, Cond.selects RX0 yX0_awaits yX0_awaits, Cond.initialized RX0, Cond.code yX0_awaits cX0_awaits 3 (some .boolean), Cond.fieldLink RX0 19 "PageOwners$Hand" "waitsFor" "I", Cond.fieldLink RX0 30 "PageOwners$Hand" "page" "I", Cond.methodLink RX4 208 yX3_putInQueue, Cond.instanceMethod yX3_putInQueue, Cond.selects RX3 yX3_putInQueue yX3_putInQueue, Cond.initialized RX3, Cond.code yX3_putInQueue cX3_putInQueue 5 none, Cond.fieldLink RX3 36 "PageOwners$Node" "queued" "[I", Cond.fieldLink RX3 39 "PageOwners$Node" "queuedKinds" "[I", Cond.fieldLink RX3 42 "PageOwners$Node" "queuedAskers" "[I", Cond.methodLink RX4 212 yX4_sendOn, Cond.instanceMethod yX4_sendOn, Cond.selects RX4 yX4_sendOn yX4_sendOn, Cond.initialized RX4, Cond.code yX4_sendOn cX4_sendOn 5 none, Cond.fieldLink RX4 181 "PageOwners$Node" "number" "I", Cond.fieldLink RX4 144 "PageOwners$Node" "guessOf" "[I"]
def wsX4_askingComes_r2 : List Cond := [Cond.fieldLink RX4 91 "PageOwners$Letter" "asker" "I", Cond.fieldLink RX4 22 "PageOwners" "counts" "[I", Cond.methodLink RX4 184 yX4_send, Cond.instanceMethod yX4_send, Cond.selects RX4 yX4_send yX4_send, Cond.code yX4_send cX4_send 5 (some (.object "PageOwners$Letter")), Cond.fieldLink RX4 18 "PageOwners" "mail" "LPageOwners$Mail;", Cond.methodLink RX4 188 yX2_putIn, Cond.instanceMethod yX2_putIn, Cond.selects RX2 yX2_putIn yX2_putIn, Cond.initialized RX2, Cond.code yX2_putIn cX2_putIn 7 (some (.object "PageOwners$Letter")), Cond.fieldLink RX2 18 "PageOwners$Mail" "flying" "I", Cond.methodLink RX2 22 Lib.Math.min.name, Cond.static Lib.Math.min.name, Cond.initialized "java/lang/Math", Cond.code Lib.Math.min.name Lib.Math.min.code 2 (some .int), Cond.fieldLink RX2 13 "PageOwners$Mail" "row" "[LPageOwners$Letter;", Cond.fieldLink RX2 28 "PageOwners$Letter" "kind" "I", Cond.fieldLink RX2 31 "PageOwners$Letter" "from" "I", Cond.fieldLink RX2 34 "PageOwners$Letter" "to" "I", Cond.fieldLink RX2 37 "PageOwners$Letter" "page" "I", Cond.fieldLink RX2 40 "PageOwners$Letter" "asker" "I", Cond.fieldLink RX2 43 "PageOwners$Letter" "copySet" "I"]
def wsX4_askingComes_r3 : List Cond := [Cond.methodLink RX4 215 yX4_giveToRead, Cond.instanceMethod yX4_giveToRead, Cond.selects RX4 yX4_giveToRead yX4_giveToRead, Cond.code yX4_giveToRead cX4_giveToRead 5 none, Cond.fieldLink RX4 147 "PageOwners$Node" "copySet" "[I", Cond.fieldLink RX4 46 "PageOwners$Node" "accessTo" "[I", Cond.fieldLink RX4 153 "PageOwners$Node" "words" "[J", Cond.fieldLink RX4 173 "PageOwners$Letter" "words" "[J", Cond.methodLink RX4 221 arraycopyName, Cond.native arraycopyName, Cond.static arraycopyName, Cond.initialized "java/lang/System", Cond.methodLink RX4 218 yX4_giveToWrite, Cond.instanceMethod yX4_giveToWrite, Cond.selects RX4 yX4_giveToWrite yX4_giveToWrite, Cond.code yX4_giveToWrite cX4_giveToWrite 5 none, Cond.fieldLink RX4 171 "PageOwners$Letter" "copySet" "I"]
def wsX4_askingComes : List Cond := .code yX4_askingComes cX4_askingComes 5 none :: ((wsX4_askingComes_r1 ++ (wsX4_askingComes_r2 ++ wsX4_askingComes_r3)) ++ wsX30 ++ wsX00 ++ wsX10 ++ wsX40 ++ wsX20)
def wsX4_goOverQueue_r1 : List Cond := [Cond.fieldLink RX4 157 "PageOwners$Node" "queued" "[I", Cond.fieldLink RX4 198 "PageOwners$Node" "queuedKinds" "[I", Cond.fieldLink RX4 201 "PageOwners$Node" "queuedAskers" "[I", Cond.methodLink RX4 94 yX4_askingComes, Cond.instanceMethod yX4_askingComes, Cond.selects RX4 yX4_askingComes yX4_askingComes, Cond.initialized RX4, Cond.code yX4_askingComes cX4_askingComes 5 none, Cond.fieldLink RX4 36 "PageOwners$Node" "hand" "LPageOwners$Hand;", Cond.fieldLink RX4 61 "PageOwners$Node" "owns" "[Z", Cond.methodLink RX4 204 yX0_awaits, Cond.instanceMethod yX0_awaits, Cond.selects RX0 yX0_awaits yX0_awaits, Cond.initialized RX0, Cond.code yX0_awaits cX0_awaits 3 (some .boolean), Cond.fieldLink RX0 19 "PageOwners$Hand" "waitsFor" "I", Cond.fieldLink RX0 30 "PageOwners$Hand" "page" "I", Cond.methodLink RX4 208 yX3_putInQueue, Cond.instanceMethod yX3_putInQueue, Cond.selects RX3 yX3_putInQueue yX3_putInQueue, Cond.initialized RX3, Cond.code yX3_putInQueue cX3_putInQueue 5 none, Cond.fieldLink RX3 36 "PageOwners$Node" "queued" "[I", Cond.fieldLink RX3 39 "PageOwners$Node" "queuedKinds" "[I"]
def wsX4_goOverQueue_r2 : List Cond := [Cond.fieldLink RX3 42 "PageOwners$Node" "queuedAskers" "[I", Cond.methodLink RX4 212 yX4_sendOn, Cond.instanceMethod yX4_sendOn, Cond.selects RX4 yX4_sendOn yX4_sendOn, Cond.code yX4_sendOn cX4_sendOn 5 none, Cond.fieldLink RX4 181 "PageOwners$Node" "number" "I", Cond.fieldLink RX4 144 "PageOwners$Node" "guessOf" "[I", Cond.fieldLink RX4 91 "PageOwners$Letter" "asker" "I", Cond.fieldLink RX4 22 "PageOwners" "counts" "[I", Cond.methodLink RX4 184 yX4_send, Cond.instanceMethod yX4_send, Cond.selects RX4 yX4_send yX4_send, Cond.code yX4_send cX4_send 5 (some (.object "PageOwners$Letter")), Cond.fieldLink RX4 18 "PageOwners" "mail" "LPageOwners$Mail;", Cond.methodLink RX4 188 yX2_putIn, Cond.instanceMethod yX2_putIn, Cond.selects RX2 yX2_putIn yX2_putIn, Cond.initialized RX2, Cond.code yX2_putIn cX2_putIn 7 (some (.object "PageOwners$Letter")), Cond.fieldLink RX2 18 "PageOwners$Mail" "flying" "I", Cond.methodLink RX2 22 Lib.Math.min.name, Cond.static Lib.Math.min.name, Cond.initialized "java/lang/Math", Cond.code Lib.Math.min.name Lib.Math.min.code 2 (some .int)]
def wsX4_goOverQueue_r3 : List Cond := [Cond.fieldLink RX2 13 "PageOwners$Mail" "row" "[LPageOwners$Letter;", Cond.fieldLink RX2 28 "PageOwners$Letter" "kind" "I", Cond.fieldLink RX2 31 "PageOwners$Letter" "from" "I", Cond.fieldLink RX2 34 "PageOwners$Letter" "to" "I", Cond.fieldLink RX2 37 "PageOwners$Letter" "page" "I", Cond.fieldLink RX2 40 "PageOwners$Letter" "asker" "I", Cond.fieldLink RX2 43 "PageOwners$Letter" "copySet" "I", Cond.methodLink RX4 215 yX4_giveToRead, Cond.instanceMethod yX4_giveToRead, Cond.selects RX4 yX4_giveToRead yX4_giveToRead, Cond.code yX4_giveToRead cX4_giveToRead 5 none, Cond.fieldLink RX4 147 "PageOwners$Node" "copySet" "[I", Cond.fieldLink RX4 46 "PageOwners$Node" "accessTo" "[I", Cond.fieldLink RX4 153 "PageOwners$Node" "words" "[J", Cond.fieldLink RX4 173 "PageOwners$Letter" "words" "[J", Cond.methodLink RX4 221 arraycopyName, Cond.native arraycopyName, Cond.static arraycopyName, Cond.initialized "java/lang/System", Cond.methodLink RX4 218 yX4_giveToWrite, Cond.instanceMethod yX4_giveToWrite, Cond.selects RX4 yX4_giveToWrite yX4_giveToWrite, Cond.code yX4_giveToWrite cX4_giveToWrite 5 none, Cond.fieldLink RX4 171 "PageOwners$Letter" "copySet" "I"]
def wsX4_goOverQueue : List Cond := .code yX4_goOverQueue cX4_goOverQueue 6 none :: ((wsX4_goOverQueue_r1 ++ (wsX4_goOverQueue_r2 ++ wsX4_goOverQueue_r3)) ++ wsX30 ++ wsX00 ++ wsX10 ++ wsX40 ++ wsX20)
def wsX4_finishIfAllAnswered_r1 : List Cond := [Cond.fieldLink RX4 36 "PageOwners$Node" "hand" "LPageOwners$Hand;", Cond.fieldLink RX4 117 "PageOwners$Hand" "waitsFor" "I", Cond.fieldLink RX4 111 "PageOwners$Hand" "answersDue" "I", Cond.fieldLink RX4 127 "PageOwners$Hand" "page" "I", Cond.fieldLink RX4 46 "PageOwners$Node" "accessTo" "[I", Cond.methodLink RX4 53 yX4_finish, Cond.instanceMethod yX4_finish, Cond.selects RX4 yX4_finish yX4_finish, Cond.initialized RX4, Cond.code yX4_finish cX4_finish 2 none, Cond.fieldLink RX4 22 "PageOwners" "counts" "[I", Cond.methodLink RX4 191 yX3_doWhatIsAtHand, Cond.instanceMethod yX3_doWhatIsAtHand, Cond.selects RX3 yX3_doWhatIsAtHand yX3_doWhatIsAtHand, Cond.initialized RX3, Cond.code yX3_doWhatIsAtHand cX3_doWhatIsAtHand 2 none, Cond.fieldLink RX3 12 "PageOwners$Node" "hand" "LPageOwners$Hand;", Cond.fieldLink RX3 67 "PageOwners$Hand" "page" "I", Cond.fieldLink RX3 70 "PageOwners$Hand" "word" "I", Cond.fieldLink RX3 73 "PageOwners$Hand" "isWrite" "Z", Cond.fieldLink RX3 32 "PageOwners$Node" "words" "[J", Cond.fieldLink RX3 77 "PageOwners$Hand" "value" "J", Cond.fieldLink RX3 81 "PageOwners$Hand" "result" "J", Cond.fieldLink RX3 84 "PageOwners$Hand" "waitsFor" "I"]
def wsX4_finishIfAllAnswered_r2 : List Cond := [Cond.fieldLink RX3 87 "PageOwners$Hand" "done" "I", Cond.methodLink RX4 194 yX4_goOverQueue, Cond.instanceMethod yX4_goOverQueue, Cond.selects RX4 yX4_goOverQueue yX4_goOverQueue, Cond.code yX4_goOverQueue cX4_goOverQueue 6 none, Cond.fieldLink RX4 157 "PageOwners$Node" "queued" "[I", Cond.fieldLink RX4 198 "PageOwners$Node" "queuedKinds" "[I", Cond.fieldLink RX4 201 "PageOwners$Node" "queuedAskers" "[I", Cond.methodLink RX4 94 yX4_askingComes, Cond.instanceMethod yX4_askingComes, Cond.selects RX4 yX4_askingComes yX4_askingComes, Cond.code yX4_askingComes cX4_askingComes 5 none, Cond.fieldLink RX4 61 "PageOwners$Node" "owns" "[Z", Cond.methodLink RX4 204 yX0_awaits, Cond.instanceMethod yX0_awaits, Cond.selects RX0 yX0_awaits yX0_awaits, Cond.initialized RX0, Cond.code yX0_awaits cX0_awaits 3 (some .boolean), Cond.fieldLink RX0 19 "PageOwners$Hand" "waitsFor" "I", Cond.fieldLink RX0 30 "PageOwners$Hand" "page" "I", Cond.methodLink RX4 208 yX3_putInQueue, Cond.instanceMethod yX3_putInQueue, Cond.selects RX3 yX3_putInQueue yX3_putInQueue, Cond.code yX3_putInQueue cX3_putInQueue 5 none]
def wsX4_finishIfAllAnswered_r3 : List Cond := [Cond.fieldLink RX3 36 "PageOwners$Node" "queued" "[I", Cond.fieldLink RX3 39 "PageOwners$Node" "queuedKinds" "[I", Cond.fieldLink RX3 42 "PageOwners$Node" "queuedAskers" "[I", Cond.methodLink RX4 212 yX4_sendOn, Cond.instanceMethod yX4_sendOn, Cond.selects RX4 yX4_sendOn yX4_sendOn, Cond.code yX4_sendOn cX4_sendOn 5 none, Cond.fieldLink RX4 181 "PageOwners$Node" "number" "I", Cond.fieldLink RX4 144 "PageOwners$Node" "guessOf" "[I", Cond.fieldLink RX4 91 "PageOwners$Letter" "asker" "I", Cond.methodLink RX4 184 yX4_send, Cond.instanceMethod yX4_send, Cond.selects RX4 yX4_send yX4_send, Cond.code yX4_send cX4_send 5 (some (.object "PageOwners$Letter")), Cond.fieldLink RX4 18 "PageOwners" "mail" "LPageOwners$Mail;", Cond.methodLink RX4 188 yX2_putIn, Cond.instanceMethod yX2_putIn, Cond.selects RX2 yX2_putIn yX2_putIn, Cond.initialized RX2, Cond.code yX2_putIn cX2_putIn 7 (some (.object "PageOwners$Letter")), Cond.fieldLink RX2 18 "PageOwners$Mail" "flying" "I", Cond.methodLink RX2 22 Lib.Math.min.name, Cond.static Lib.Math.min.name, Cond.initialized "java/lang/Math"]
def wsX4_finishIfAllAnswered_r4 : List Cond := [Cond.code Lib.Math.min.name Lib.Math.min.code 2 (some .int), Cond.fieldLink RX2 13 "PageOwners$Mail" "row" "[LPageOwners$Letter;", Cond.fieldLink RX2 28 "PageOwners$Letter" "kind" "I", Cond.fieldLink RX2 31 "PageOwners$Letter" "from" "I", Cond.fieldLink RX2 34 "PageOwners$Letter" "to" "I", Cond.fieldLink RX2 37 "PageOwners$Letter" "page" "I", Cond.fieldLink RX2 40 "PageOwners$Letter" "asker" "I", Cond.fieldLink RX2 43 "PageOwners$Letter" "copySet" "I", Cond.methodLink RX4 215 yX4_giveToRead, Cond.instanceMethod yX4_giveToRead, Cond.selects RX4 yX4_giveToRead yX4_giveToRead, Cond.code yX4_giveToRead cX4_giveToRead 5 none, Cond.fieldLink RX4 147 "PageOwners$Node" "copySet" "[I", Cond.fieldLink RX4 153 "PageOwners$Node" "words" "[J", Cond.fieldLink RX4 173 "PageOwners$Letter" "words" "[J", Cond.methodLink RX4 221 arraycopyName, Cond.native arraycopyName, Cond.static arraycopyName, Cond.initialized "java/lang/System", Cond.methodLink RX4 218 yX4_giveToWrite, Cond.instanceMethod yX4_giveToWrite, Cond.selects RX4 yX4_giveToWrite yX4_giveToWrite, Cond.code yX4_giveToWrite cX4_giveToWrite 5 none, Cond.fieldLink RX4 171 "PageOwners$Letter" "copySet" "I"]
def wsX4_finishIfAllAnswered : List Cond := .code yX4_finishIfAllAnswered cX4_finishIfAllAnswered 3 none :: ((wsX4_finishIfAllAnswered_r1 ++ (wsX4_finishIfAllAnswered_r2 ++ (wsX4_finishIfAllAnswered_r3 ++ wsX4_finishIfAllAnswered_r4))) ++ wsX30 ++ wsX00 ++ wsX40 ++ wsX10 ++ wsX20)
def wsX4_write_r1 : List Cond := [Cond.fieldLink RX4 11 "PageOwners" "all" "[LPageOwners$Node;", Cond.fieldLink RX4 36 "PageOwners$Node" "hand" "LPageOwners$Hand;", Cond.fieldLink RX4 46 "PageOwners$Node" "accessTo" "[I", Cond.fieldLink RX4 61 "PageOwners$Node" "owns" "[Z", Cond.methodLink RX4 32 yX4_mayStart, Cond.instanceMethod yX4_mayStart, Cond.selects RX4 yX4_mayStart yX4_mayStart, Cond.initialized RX4, Cond.code yX4_mayStart cX4_mayStart 4 (some .boolean), Cond.fieldLink RX4 117 "PageOwners$Hand" "waitsFor" "I", Cond.methodLink RX4 114 yX4_isNode, Cond.instanceMethod yX4_isNode, Cond.selects RX4 yX4_isNode yX4_isNode, Cond.code yX4_isNode cX4_isNode 2 (some .boolean), Cond.fieldLink RX4 141 "PageOwners" "nodes" "I", Cond.methodLink RX4 138 yX4_isPage, Cond.static yX4_isPage, Cond.code yX4_isPage cX4_isPage 1 (some .boolean), Cond.methodLink RX4 150 yX4_isWord, Cond.static yX4_isWord, Cond.code yX4_isWord cX4_isWord 1 (some .boolean), Cond.methodLink RX4 40 yX0_take, Cond.instanceMethod yX0_take, Cond.selects RX0 yX0_take yX0_take]
def wsX4_write_r2 : List Cond := [Cond.initialized RX0, Cond.code yX0_take cX0_take 6 none, Cond.fieldLink RX0 15 "PageOwners$Hand" "everHadOne" "Z", Cond.fieldLink RX0 30 "PageOwners$Hand" "page" "I", Cond.fieldLink RX0 33 "PageOwners$Hand" "word" "I", Cond.fieldLink RX0 36 "PageOwners$Hand" "isWrite" "Z", Cond.fieldLink RX0 39 "PageOwners$Hand" "value" "J", Cond.fieldLink RX0 42 "PageOwners$Hand" "answersDue" "I", Cond.fieldLink RX0 45 "PageOwners$Hand" "wasCalled" "Z", Cond.methodLink RX4 53 yX4_finish, Cond.instanceMethod yX4_finish, Cond.selects RX4 yX4_finish yX4_finish, Cond.code yX4_finish cX4_finish 2 none, Cond.fieldLink RX4 22 "PageOwners" "counts" "[I", Cond.methodLink RX4 191 yX3_doWhatIsAtHand, Cond.instanceMethod yX3_doWhatIsAtHand, Cond.selects RX3 yX3_doWhatIsAtHand yX3_doWhatIsAtHand, Cond.initialized RX3, Cond.code yX3_doWhatIsAtHand cX3_doWhatIsAtHand 2 none, Cond.fieldLink RX3 12 "PageOwners$Node" "hand" "LPageOwners$Hand;", Cond.fieldLink RX3 67 "PageOwners$Hand" "page" "I", Cond.fieldLink RX3 70 "PageOwners$Hand" "word" "I", Cond.fieldLink RX3 73 "PageOwners$Hand" "isWrite" "Z", Cond.fieldLink RX3 32 "PageOwners$Node" "words" "[J"]
def wsX4_write_r3 : List Cond := [Cond.fieldLink RX3 77 "PageOwners$Hand" "value" "J", Cond.fieldLink RX3 81 "PageOwners$Hand" "result" "J", Cond.fieldLink RX3 84 "PageOwners$Hand" "waitsFor" "I", Cond.fieldLink RX3 87 "PageOwners$Hand" "done" "I", Cond.methodLink RX4 65 yX4_callBack, Cond.instanceMethod yX4_callBack, Cond.selects RX4 yX4_callBack yX4_callBack, Cond.code yX4_callBack cX4_callBack 5 none, Cond.fieldLink RX4 127 "PageOwners$Hand" "page" "I", Cond.fieldLink RX4 147 "PageOwners$Node" "copySet" "[I", Cond.fieldLink RX4 181 "PageOwners$Node" "number" "I", Cond.fieldLink RX4 111 "PageOwners$Hand" "answersDue" "I", Cond.methodLink RX4 184 yX4_send, Cond.instanceMethod yX4_send, Cond.selects RX4 yX4_send yX4_send, Cond.code yX4_send cX4_send 5 (some (.object "PageOwners$Letter")), Cond.fieldLink RX4 18 "PageOwners" "mail" "LPageOwners$Mail;", Cond.methodLink RX4 188 yX2_putIn, Cond.instanceMethod yX2_putIn, Cond.selects RX2 yX2_putIn yX2_putIn, Cond.initialized RX2, Cond.code yX2_putIn cX2_putIn 7 (some (.object "PageOwners$Letter")), Cond.fieldLink RX2 18 "PageOwners$Mail" "flying" "I", Cond.methodLink RX2 22 Lib.Math.min.name]
def wsX4_write_r4 : List Cond := [Cond.static Lib.Math.min.name, Cond.initialized "java/lang/Math", Cond.code Lib.Math.min.name Lib.Math.min.code 2 (some .int), Cond.fieldLink RX2 13 "PageOwners$Mail" "row" "[LPageOwners$Letter;", Cond.fieldLink RX2 28 "PageOwners$Letter" "kind" "I", Cond.fieldLink RX2 31 "PageOwners$Letter" "from" "I", Cond.fieldLink RX2 34 "PageOwners$Letter" "to" "I", Cond.fieldLink RX2 37 "PageOwners$Letter" "page" "I", Cond.fieldLink RX2 40 "PageOwners$Letter" "asker" "I", Cond.fieldLink RX2 43 "PageOwners$Letter" "copySet" "I", Cond.methodLink RX4 68 yX4_finishIfAllAnswered, Cond.instanceMethod yX4_finishIfAllAnswered, Cond.selects RX4 yX4_finishIfAllAnswered yX4_finishIfAllAnswered, Cond.code yX4_finishIfAllAnswered cX4_finishIfAllAnswered 3 none, Cond.methodLink RX4 194 yX4_goOverQueue, Cond.instanceMethod yX4_goOverQueue, Cond.selects RX4 yX4_goOverQueue yX4_goOverQueue, Cond.code yX4_goOverQueue cX4_goOverQueue 6 none, Cond.fieldLink RX4 157 "PageOwners$Node" "queued" "[I", Cond.fieldLink RX4 198 "PageOwners$Node" "queuedKinds" "[I", Cond.fieldLink RX4 201 "PageOwners$Node" "queuedAskers" "[I", Cond.methodLink RX4 94 yX4_askingComes, Cond.instanceMethod yX4_askingComes, Cond.selects RX4 yX4_askingComes yX4_askingComes]
def wsX4_write_r5 : List Cond := [Cond.code yX4_askingComes cX4_askingComes 5 none, Cond.methodLink RX4 204 yX0_awaits, Cond.instanceMethod yX0_awaits, Cond.selects RX0 yX0_awaits yX0_awaits, Cond.code yX0_awaits cX0_awaits 3 (some .boolean), Cond.fieldLink RX0 19 "PageOwners$Hand" "waitsFor" "I", Cond.methodLink RX4 208 yX3_putInQueue, Cond.instanceMethod yX3_putInQueue, Cond.selects RX3 yX3_putInQueue yX3_putInQueue, Cond.code yX3_putInQueue cX3_putInQueue 5 none, Cond.fieldLink RX3 36 "PageOwners$Node" "queued" "[I", Cond.fieldLink RX3 39 "PageOwners$Node" "queuedKinds" "[I", Cond.fieldLink RX3 42 "PageOwners$Node" "queuedAskers" "[I", Cond.methodLink RX4 212 yX4_sendOn, Cond.instanceMethod yX4_sendOn, Cond.selects RX4 yX4_sendOn yX4_sendOn, Cond.code yX4_sendOn cX4_sendOn 5 none, Cond.fieldLink RX4 144 "PageOwners$Node" "guessOf" "[I", Cond.fieldLink RX4 91 "PageOwners$Letter" "asker" "I", Cond.methodLink RX4 215 yX4_giveToRead, Cond.instanceMethod yX4_giveToRead, Cond.selects RX4 yX4_giveToRead yX4_giveToRead, Cond.code yX4_giveToRead cX4_giveToRead 5 none, Cond.fieldLink RX4 153 "PageOwners$Node" "words" "[J"]
def wsX4_write_r6 : List Cond := [Cond.fieldLink RX4 173 "PageOwners$Letter" "words" "[J", Cond.methodLink RX4 221 arraycopyName, Cond.native arraycopyName, Cond.static arraycopyName, Cond.initialized "java/lang/System", Cond.methodLink RX4 218 yX4_giveToWrite, Cond.instanceMethod yX4_giveToWrite, Cond.selects RX4 yX4_giveToWrite yX4_giveToWrite, Cond.code yX4_giveToWrite cX4_giveToWrite 5 none, Cond.fieldLink RX4 171 "PageOwners$Letter" "copySet" "I", Cond.methodLink RX4 49 yX4_ask, Cond.instanceMethod yX4_ask, Cond.selects RX4 yX4_ask yX4_ask, Cond.code yX4_ask cX4_ask 5 none, Cond.methodLink RX4 57 yX4_doneAtOnce, Cond.instanceMethod yX4_doneAtOnce, Cond.selects RX4 yX4_doneAtOnce yX4_doneAtOnce, Cond.code yX4_doneAtOnce cX4_doneAtOnce 2 (some .int)]
def wsX4_write : List Cond := .code yX4_write cX4_write 7 (some .int) :: ((wsX4_write_r1 ++ (wsX4_write_r2 ++ (wsX4_write_r3 ++ (wsX4_write_r4 ++ (wsX4_write_r5 ++ wsX4_write_r6))))) ++ wsX40 ++ wsX30 ++ wsX00 ++ wsX20 ++ wsX10)
def wsX4_givenToRead_r1 : List Cond := [Cond.fieldLink RX4 88 "PageOwners$Letter" "page" "I", Cond.fieldLink RX4 173 "PageOwners$Letter" "words" "[J", Cond.fieldLink RX4 153 "PageOwners$Node" "words" "[J", Cond.methodLink RX4 221 arraycopyName, Cond.native arraycopyName, Cond.static arraycopyName, Cond.initialized "java/lang/System", Cond.fieldLink RX4 144 "PageOwners$Node" "guessOf" "[I", Cond.fieldLink RX4 105 "PageOwners$Letter" "from" "I", Cond.fieldLink RX4 46 "PageOwners$Node" "accessTo" "[I", Cond.fieldLink RX4 36 "PageOwners$Node" "hand" "LPageOwners$Hand;", Cond.fieldLink RX4 227 "PageOwners$Hand" "wasCalled" "Z", Cond.methodLink RX4 53 yX4_finish, Cond.instanceMethod yX4_finish, Cond.selects RX4 yX4_finish yX4_finish, Cond.initialized RX4, Cond.code yX4_finish cX4_finish 2 none, Cond.fieldLink RX4 22 "PageOwners" "counts" "[I", Cond.methodLink RX4 191 yX3_doWhatIsAtHand, Cond.instanceMethod yX3_doWhatIsAtHand, Cond.selects RX3 yX3_doWhatIsAtHand yX3_doWhatIsAtHand, Cond.initialized RX3, Cond.code yX3_doWhatIsAtHand cX3_doWhatIsAtHand 2 none, Cond.fieldLink RX3 12 "PageOwners$Node" "hand" "LPageOwners$Hand;"]
def wsX4_givenToRead_r2 : List Cond := [Cond.fieldLink RX3 67 "PageOwners$Hand" "page" "I", Cond.fieldLink RX3 70 "PageOwners$Hand" "word" "I", Cond.fieldLink RX3 73 "PageOwners$Hand" "isWrite" "Z", Cond.fieldLink RX3 32 "PageOwners$Node" "words" "[J", Cond.fieldLink RX3 77 "PageOwners$Hand" "value" "J", Cond.fieldLink RX3 81 "PageOwners$Hand" "result" "J", Cond.fieldLink RX3 84 "PageOwners$Hand" "waitsFor" "I", Cond.fieldLink RX3 87 "PageOwners$Hand" "done" "I"]
def wsX4_givenToRead : List Cond := .code yX4_givenToRead cX4_givenToRead 4 none :: ((wsX4_givenToRead_r1 ++ wsX4_givenToRead_r2) ++ wsX10 ++ wsX30 ++ wsX00 ++ wsX40)
def wsX4_givenToWrite_r1 : List Cond := [Cond.fieldLink RX4 88 "PageOwners$Letter" "page" "I", Cond.fieldLink RX4 173 "PageOwners$Letter" "words" "[J", Cond.fieldLink RX4 153 "PageOwners$Node" "words" "[J", Cond.methodLink RX4 221 arraycopyName, Cond.native arraycopyName, Cond.static arraycopyName, Cond.initialized "java/lang/System", Cond.fieldLink RX4 147 "PageOwners$Node" "copySet" "[I", Cond.fieldLink RX4 171 "PageOwners$Letter" "copySet" "I", Cond.fieldLink RX4 181 "PageOwners$Node" "number" "I", Cond.fieldLink RX4 61 "PageOwners$Node" "owns" "[Z", Cond.fieldLink RX4 144 "PageOwners$Node" "guessOf" "[I", Cond.methodLink RX4 65 yX4_callBack, Cond.instanceMethod yX4_callBack, Cond.selects RX4 yX4_callBack yX4_callBack, Cond.initialized RX4, Cond.code yX4_callBack cX4_callBack 5 none, Cond.fieldLink RX4 36 "PageOwners$Node" "hand" "LPageOwners$Hand;", Cond.fieldLink RX4 127 "PageOwners$Hand" "page" "I", Cond.fieldLink RX4 117 "PageOwners$Hand" "waitsFor" "I", Cond.fieldLink RX4 141 "PageOwners" "nodes" "I", Cond.fieldLink RX4 22 "PageOwners" "counts" "[I", Cond.fieldLink RX4 111 "PageOwners$Hand" "answersDue" "I", Cond.methodLink RX4 184 yX4_send]
def wsX4_givenToWrite_r2 : List Cond := [Cond.instanceMethod yX4_send, Cond.selects RX4 yX4_send yX4_send, Cond.code yX4_send cX4_send 5 (some (.object "PageOwners$Letter")), Cond.fieldLink RX4 18 "PageOwners" "mail" "LPageOwners$Mail;", Cond.methodLink RX4 188 yX2_putIn, Cond.instanceMethod yX2_putIn, Cond.selects RX2 yX2_putIn yX2_putIn, Cond.initialized RX2, Cond.code yX2_putIn cX2_putIn 7 (some (.object "PageOwners$Letter")), Cond.fieldLink RX2 18 "PageOwners$Mail" "flying" "I", Cond.methodLink RX2 22 Lib.Math.min.name, Cond.static Lib.Math.min.name, Cond.initialized "java/lang/Math", Cond.code Lib.Math.min.name Lib.Math.min.code 2 (some .int), Cond.fieldLink RX2 13 "PageOwners$Mail" "row" "[LPageOwners$Letter;", Cond.fieldLink RX2 28 "PageOwners$Letter" "kind" "I", Cond.fieldLink RX2 31 "PageOwners$Letter" "from" "I", Cond.fieldLink RX2 34 "PageOwners$Letter" "to" "I", Cond.fieldLink RX2 37 "PageOwners$Letter" "page" "I", Cond.fieldLink RX2 40 "PageOwners$Letter" "asker" "I", Cond.fieldLink RX2 43 "PageOwners$Letter" "copySet" "I"]
def wsX4_givenToWrite : List Cond := .code yX4_givenToWrite cX4_givenToWrite 4 none :: ((wsX4_givenToWrite_r1 ++ wsX4_givenToWrite_r2) ++ wsX10 ++ wsX30 ++ wsX00 ++ wsX40 ++ wsX20)
def wsX4_calledBack_r1 : List Cond := [Cond.fieldLink RX4 46 "PageOwners$Node" "accessTo" "[I", Cond.fieldLink RX4 144 "PageOwners$Node" "guessOf" "[I", Cond.fieldLink RX4 36 "PageOwners$Node" "hand" "LPageOwners$Hand;", Cond.fieldLink RX4 227 "PageOwners$Hand" "wasCalled" "Z", Cond.fieldLink RX4 181 "PageOwners$Node" "number" "I", Cond.methodLink RX4 204 yX0_awaits, Cond.instanceMethod yX0_awaits, Cond.selects RX0 yX0_awaits yX0_awaits, Cond.initialized RX0, Cond.code yX0_awaits cX0_awaits 3 (some .boolean), Cond.fieldLink RX0 19 "PageOwners$Hand" "waitsFor" "I", Cond.fieldLink RX0 30 "PageOwners$Hand" "page" "I", Cond.methodLink RX4 184 yX4_send, Cond.instanceMethod yX4_send, Cond.selects RX4 yX4_send yX4_send, Cond.initialized RX4, Cond.code yX4_send cX4_send 5 (some (.object "PageOwners$Letter")), Cond.fieldLink RX4 22 "PageOwners" "counts" "[I", Cond.fieldLink RX4 18 "PageOwners" "mail" "LPageOwners$Mail;", Cond.methodLink RX4 188 yX2_putIn, Cond.instanceMethod yX2_putIn, Cond.selects RX2 yX2_putIn yX2_putIn, Cond.initialized RX2, Cond.code yX2_putIn cX2_putIn 7 (some (.object "PageOwners$Letter"))]
def wsX4_calledBack_r2 : List Cond := [Cond.fieldLink RX2 18 "PageOwners$Mail" "flying" "I", Cond.methodLink RX2 22 Lib.Math.min.name, Cond.static Lib.Math.min.name, Cond.initialized "java/lang/Math", Cond.code Lib.Math.min.name Lib.Math.min.code 2 (some .int), Cond.fieldLink RX2 13 "PageOwners$Mail" "row" "[LPageOwners$Letter;", Cond.fieldLink RX2 28 "PageOwners$Letter" "kind" "I", Cond.fieldLink RX2 31 "PageOwners$Letter" "from" "I", Cond.fieldLink RX2 34 "PageOwners$Letter" "to" "I", Cond.fieldLink RX2 37 "PageOwners$Letter" "page" "I", Cond.fieldLink RX2 40 "PageOwners$Letter" "asker" "I", Cond.fieldLink RX2 43 "PageOwners$Letter" "copySet" "I"]
def wsX4_calledBack : List Cond := .code yX4_calledBack cX4_calledBack 4 none :: ((wsX4_calledBack_r1 ++ wsX4_calledBack_r2) ++ wsX30 ++ wsX00 ++ wsX40 ++ wsX20 ++ wsX10)
def wsX4_deliver_r1 : List Cond := [Cond.fieldLink RX4 18 "PageOwners" "mail" "LPageOwners$Mail;", Cond.fieldLink RX4 11 "PageOwners" "all" "[LPageOwners$Node;", Cond.fieldLink RX4 79 "PageOwners$Letter" "to" "I", Cond.fieldLink RX4 85 "PageOwners$Letter" "kind" "I", Cond.fieldLink RX4 88 "PageOwners$Letter" "page" "I", Cond.fieldLink RX4 91 "PageOwners$Letter" "asker" "I", Cond.fieldLink RX4 105 "PageOwners$Letter" "from" "I", Cond.fieldLink RX4 36 "PageOwners$Node" "hand" "LPageOwners$Hand;", Cond.fieldLink RX4 111 "PageOwners$Hand" "answersDue" "I", Cond.methodLink RX4 71 yX2_has, Cond.instanceMethod yX2_has, Cond.selects RX2 yX2_has yX2_has, Cond.initialized RX2, Cond.code yX2_has cX2_has 2 (some .boolean), Cond.fieldLink RX2 18 "PageOwners$Mail" "flying" "I", Cond.methodLink RX4 75 yX2_takeOut, Cond.instanceMethod yX2_takeOut, Cond.selects RX2 yX2_takeOut yX2_takeOut, Cond.code yX2_takeOut cX2_takeOut 4 (some (.object "PageOwners$Letter")), Cond.fieldLink RX2 13 "PageOwners$Mail" "row" "[LPageOwners$Letter;", Cond.methodLink RX4 94 yX4_askingComes, Cond.instanceMethod yX4_askingComes, Cond.selects RX4 yX4_askingComes yX4_askingComes, Cond.initialized RX4]
def wsX4_deliver_r2 : List Cond := [Cond.code yX4_askingComes cX4_askingComes 5 none, Cond.fieldLink RX4 61 "PageOwners$Node" "owns" "[Z", Cond.methodLink RX4 204 yX0_awaits, Cond.instanceMethod yX0_awaits, Cond.selects RX0 yX0_awaits yX0_awaits, Cond.initialized RX0, Cond.code yX0_awaits cX0_awaits 3 (some .boolean), Cond.fieldLink RX0 19 "PageOwners$Hand" "waitsFor" "I", Cond.fieldLink RX0 30 "PageOwners$Hand" "page" "I", Cond.methodLink RX4 208 yX3_putInQueue, Cond.instanceMethod yX3_putInQueue, Cond.selects RX3 yX3_putInQueue yX3_putInQueue, Cond.initialized RX3, Cond.code yX3_putInQueue cX3_putInQueue 5 none, Cond.fieldLink RX3 36 "PageOwners$Node" "queued" "[I", Cond.fieldLink RX3 39 "PageOwners$Node" "queuedKinds" "[I", Cond.fieldLink RX3 42 "PageOwners$Node" "queuedAskers" "[I", Cond.methodLink RX4 212 yX4_sendOn, Cond.instanceMethod yX4_sendOn, Cond.selects RX4 yX4_sendOn yX4_sendOn, Cond.code yX4_sendOn cX4_sendOn 5 none, Cond.fieldLink RX4 181 "PageOwners$Node" "number" "I", Cond.fieldLink RX4 144 "PageOwners$Node" "guessOf" "[I", Cond.fieldLink RX4 22 "PageOwners" "counts" "[I"]
def wsX4_deliver_r3 : List Cond := [Cond.methodLink RX4 184 yX4_send, Cond.instanceMethod yX4_send, Cond.selects RX4 yX4_send yX4_send, Cond.code yX4_send cX4_send 5 (some (.object "PageOwners$Letter")), Cond.methodLink RX4 188 yX2_putIn, Cond.instanceMethod yX2_putIn, Cond.selects RX2 yX2_putIn yX2_putIn, Cond.code yX2_putIn cX2_putIn 7 (some (.object "PageOwners$Letter")), Cond.methodLink RX2 22 Lib.Math.min.name, Cond.static Lib.Math.min.name, Cond.initialized "java/lang/Math", Cond.code Lib.Math.min.name Lib.Math.min.code 2 (some .int), Cond.fieldLink RX2 28 "PageOwners$Letter" "kind" "I", Cond.fieldLink RX2 31 "PageOwners$Letter" "from" "I", Cond.fieldLink RX2 34 "PageOwners$Letter" "to" "I", Cond.fieldLink RX2 37 "PageOwners$Letter" "page" "I", Cond.fieldLink RX2 40 "PageOwners$Letter" "asker" "I", Cond.fieldLink RX2 43 "PageOwners$Letter" "copySet" "I", Cond.methodLink RX4 215 yX4_giveToRead, Cond.instanceMethod yX4_giveToRead, Cond.selects RX4 yX4_giveToRead yX4_giveToRead, Cond.code yX4_giveToRead cX4_giveToRead 5 none, Cond.fieldLink RX4 147 "PageOwners$Node" "copySet" "[I", Cond.fieldLink RX4 46 "PageOwners$Node" "accessTo" "[I"]
def wsX4_deliver_r4 : List Cond := [Cond.fieldLink RX4 153 "PageOwners$Node" "words" "[J", Cond.fieldLink RX4 173 "PageOwners$Letter" "words" "[J", Cond.methodLink RX4 221 arraycopyName, Cond.native arraycopyName, Cond.static arraycopyName, Cond.initialized "java/lang/System", Cond.methodLink RX4 218 yX4_giveToWrite, Cond.instanceMethod yX4_giveToWrite, Cond.selects RX4 yX4_giveToWrite yX4_giveToWrite, Cond.code yX4_giveToWrite cX4_giveToWrite 5 none, Cond.fieldLink RX4 171 "PageOwners$Letter" "copySet" "I", Cond.methodLink RX4 98 yX4_givenToRead, Cond.instanceMethod yX4_givenToRead, Cond.selects RX4 yX4_givenToRead yX4_givenToRead, Cond.code yX4_givenToRead cX4_givenToRead 4 none, Cond.fieldLink RX4 227 "PageOwners$Hand" "wasCalled" "Z", Cond.methodLink RX4 53 yX4_finish, Cond.instanceMethod yX4_finish, Cond.selects RX4 yX4_finish yX4_finish, Cond.code yX4_finish cX4_finish 2 none, Cond.methodLink RX4 191 yX3_doWhatIsAtHand, Cond.instanceMethod yX3_doWhatIsAtHand, Cond.selects RX3 yX3_doWhatIsAtHand yX3_doWhatIsAtHand, Cond.code yX3_doWhatIsAtHand cX3_doWhatIsAtHand 2 none]
def wsX4_deliver_r5 : List Cond := [Cond.fieldLink RX3 12 "PageOwners$Node" "hand" "LPageOwners$Hand;", Cond.fieldLink RX3 67 "PageOwners$Hand" "page" "I", Cond.fieldLink RX3 70 "PageOwners$Hand" "word" "I", Cond.fieldLink RX3 73 "PageOwners$Hand" "isWrite" "Z", Cond.fieldLink RX3 32 "PageOwners$Node" "words" "[J", Cond.fieldLink RX3 77 "PageOwners$Hand" "value" "J", Cond.fieldLink RX3 81 "PageOwners$Hand" "result" "J", Cond.fieldLink RX3 84 "PageOwners$Hand" "waitsFor" "I", Cond.fieldLink RX3 87 "PageOwners$Hand" "done" "I", Cond.methodLink RX4 102 yX4_givenToWrite, Cond.instanceMethod yX4_givenToWrite, Cond.selects RX4 yX4_givenToWrite yX4_givenToWrite, Cond.code yX4_givenToWrite cX4_givenToWrite 4 none, Cond.methodLink RX4 65 yX4_callBack, Cond.instanceMethod yX4_callBack, Cond.selects RX4 yX4_callBack yX4_callBack, Cond.code yX4_callBack cX4_callBack 5 none, Cond.fieldLink RX4 127 "PageOwners$Hand" "page" "I", Cond.fieldLink RX4 117 "PageOwners$Hand" "waitsFor" "I", Cond.fieldLink RX4 141 "PageOwners" "nodes" "I", Cond.methodLink RX4 68 yX4_finishIfAllAnswered, Cond.instanceMethod yX4_finishIfAllAnswered, Cond.selects RX4 yX4_finishIfAllAnswered yX4_finishIfAllAnswered, Cond.code yX4_finishIfAllAnswered cX4_finishIfAllAnswered 3 none]
def wsX4_deliver_r6 : List Cond := [Cond.methodLink RX4 194 yX4_goOverQueue, Cond.instanceMethod yX4_goOverQueue, Cond.selects RX4 yX4_goOverQueue yX4_goOverQueue, Cond.code yX4_goOverQueue cX4_goOverQueue 6 none, Cond.fieldLink RX4 157 "PageOwners$Node" "queued" "[I", Cond.fieldLink RX4 198 "PageOwners$Node" "queuedKinds" "[I", Cond.fieldLink RX4 201 "PageOwners$Node" "queuedAskers" "[I", Cond.methodLink RX4 108 yX4_calledBack, Cond.instanceMethod yX4_calledBack, Cond.selects RX4 yX4_calledBack yX4_calledBack, Cond.code yX4_calledBack cX4_calledBack 4 none]
def wsX4_deliver : List Cond := .code yX4_deliver cX4_deliver 4 (some .int) :: ((wsX4_deliver_r1 ++ (wsX4_deliver_r2 ++ (wsX4_deliver_r3 ++ (wsX4_deliver_r4 ++ (wsX4_deliver_r5 ++ wsX4_deliver_r6))))) ++ wsX40 ++ wsX10 ++ wsX30 ++ wsX00 ++ wsX20)
def wsX4_waits : List Cond := .code yX4_waits cX4_waits 2 (some .int) :: ([.fieldLink RX4 11 "PageOwners" "all" "[LPageOwners$Node;", .fieldLink RX4 36 "PageOwners$Node" "hand" "LPageOwners$Hand;", .fieldLink RX4 117 "PageOwners$Hand" "waitsFor" "I", .methodLink RX4 114 yX4_isNode, .instanceMethod yX4_isNode, .selects RX4 yX4_isNode yX4_isNode, .initialized RX4, .code yX4_isNode cX4_isNode 2 (some .boolean), .fieldLink RX4 141 "PageOwners" "nodes" "I"] ++ wsX40 ++ wsX30 ++ wsX00)
def wsX4_at : List Cond := .code yX4_at cX4_at 4 (some .int) :: ([.fieldLink RX4 11 "PageOwners" "all" "[LPageOwners$Node;", .fieldLink RX4 36 "PageOwners$Node" "hand" "LPageOwners$Hand;", .fieldLink RX4 120 "PageOwners$Hand" "done" "I", .fieldLink RX4 123 "PageOwners$Hand" "everHadOne" "Z", .fieldLink RX4 127 "PageOwners$Hand" "page" "I", .fieldLink RX4 128 "PageOwners$Hand" "word" "I", .fieldLink RX4 131 "PageOwners$Hand" "isWrite" "Z", .fieldLink RX4 111 "PageOwners$Hand" "answersDue" "I", .methodLink RX4 114 yX4_isNode, .instanceMethod yX4_isNode, .selects RX4 yX4_isNode yX4_isNode, .initialized RX4, .code yX4_isNode cX4_isNode 2 (some .boolean), .fieldLink RX4 141 "PageOwners" "nodes" "I"] ++ wsX40 ++ wsX30 ++ wsX00)
def wsX4_result : List Cond := .code yX4_result cX4_result 2 (some .long) :: ([.fieldLink RX4 11 "PageOwners" "all" "[LPageOwners$Node;", .fieldLink RX4 36 "PageOwners$Node" "hand" "LPageOwners$Hand;", .fieldLink RX4 134 "PageOwners$Hand" "result" "J", .methodLink RX4 114 yX4_isNode, .instanceMethod yX4_isNode, .selects RX4 yX4_isNode yX4_isNode, .initialized RX4, .code yX4_isNode cX4_isNode 2 (some .boolean), .fieldLink RX4 141 "PageOwners" "nodes" "I"] ++ wsX40 ++ wsX30 ++ wsX00)
def wsX4_access : List Cond := .code yX4_access cX4_access 3 (some .int) :: ([.fieldLink RX4 11 "PageOwners" "all" "[LPageOwners$Node;", .fieldLink RX4 46 "PageOwners$Node" "accessTo" "[I", .methodLink RX4 114 yX4_isNode, .instanceMethod yX4_isNode, .selects RX4 yX4_isNode yX4_isNode, .initialized RX4, .code yX4_isNode cX4_isNode 2 (some .boolean), .fieldLink RX4 141 "PageOwners" "nodes" "I", .methodLink RX4 138 yX4_isPage, .static yX4_isPage, .code yX4_isPage cX4_isPage 1 (some .boolean)] ++ wsX40 ++ wsX30)
def wsX4_owner : List Cond := .code yX4_owner cX4_owner 3 (some .int) :: ([.fieldLink RX4 141 "PageOwners" "nodes" "I", .fieldLink RX4 11 "PageOwners" "all" "[LPageOwners$Node;", .fieldLink RX4 61 "PageOwners$Node" "owns" "[Z", .methodLink RX4 138 yX4_isPage, .static yX4_isPage, .initialized RX4, .code yX4_isPage cX4_isPage 1 (some .boolean)] ++ wsX40 ++ wsX30)
def wsX4_guess : List Cond := .code yX4_guess cX4_guess 3 (some .int) :: ([.fieldLink RX4 11 "PageOwners" "all" "[LPageOwners$Node;", .fieldLink RX4 144 "PageOwners$Node" "guessOf" "[I", .methodLink RX4 114 yX4_isNode, .instanceMethod yX4_isNode, .selects RX4 yX4_isNode yX4_isNode, .initialized RX4, .code yX4_isNode cX4_isNode 2 (some .boolean), .fieldLink RX4 141 "PageOwners" "nodes" "I", .methodLink RX4 138 yX4_isPage, .static yX4_isPage, .code yX4_isPage cX4_isPage 1 (some .boolean)] ++ wsX40 ++ wsX30)
def wsX4_copies : List Cond := .code yX4_copies cX4_copies 3 (some .int) :: ([.fieldLink RX4 11 "PageOwners" "all" "[LPageOwners$Node;", .fieldLink RX4 147 "PageOwners$Node" "copySet" "[I", .methodLink RX4 114 yX4_isNode, .instanceMethod yX4_isNode, .selects RX4 yX4_isNode yX4_isNode, .initialized RX4, .code yX4_isNode cX4_isNode 2 (some .boolean), .fieldLink RX4 141 "PageOwners" "nodes" "I", .methodLink RX4 138 yX4_isPage, .static yX4_isPage, .code yX4_isPage cX4_isPage 1 (some .boolean)] ++ wsX40 ++ wsX30)
def wsX4_word : List Cond := .code yX4_word cX4_word 4 (some .long) :: ([.fieldLink RX4 11 "PageOwners" "all" "[LPageOwners$Node;", .fieldLink RX4 153 "PageOwners$Node" "words" "[J", .methodLink RX4 114 yX4_isNode, .instanceMethod yX4_isNode, .selects RX4 yX4_isNode yX4_isNode, .initialized RX4, .code yX4_isNode cX4_isNode 2 (some .boolean), .fieldLink RX4 141 "PageOwners" "nodes" "I", .methodLink RX4 138 yX4_isPage, .static yX4_isPage, .code yX4_isPage cX4_isPage 1 (some .boolean), .methodLink RX4 150 yX4_isWord, .static yX4_isWord, .code yX4_isWord cX4_isWord 1 (some .boolean)] ++ wsX40 ++ wsX30)
def wsX4_queue : List Cond := .code yX4_queue cX4_queue 3 (some .int) :: ([.fieldLink RX4 11 "PageOwners" "all" "[LPageOwners$Node;", .fieldLink RX4 157 "PageOwners$Node" "queued" "[I", .methodLink RX4 114 yX4_isNode, .instanceMethod yX4_isNode, .selects RX4 yX4_isNode yX4_isNode, .initialized RX4, .code yX4_isNode cX4_isNode 2 (some .boolean), .fieldLink RX4 141 "PageOwners" "nodes" "I", .methodLink RX4 138 yX4_isPage, .static yX4_isPage, .code yX4_isPage cX4_isPage 1 (some .boolean)] ++ wsX40 ++ wsX30)
def wsX4_endsChain : List Cond := .code yX4_endsChain cX4_endsChain 2 (some .boolean) :: ([.fieldLink RX4 61 "PageOwners$Node" "owns" "[Z", .fieldLink RX4 36 "PageOwners$Node" "hand" "LPageOwners$Hand;", .methodLink RX4 204 yX0_awaits, .instanceMethod yX0_awaits, .selects RX0 yX0_awaits yX0_awaits, .initialized RX0, .code yX0_awaits cX0_awaits 3 (some .boolean), .fieldLink RX0 19 "PageOwners$Hand" "waitsFor" "I", .fieldLink RX0 30 "PageOwners$Hand" "page" "I"] ++ wsX30 ++ wsX00)
def wsX4_chain : List Cond := .code yX4_chain cX4_chain 5 (some .int) :: ([.fieldLink RX4 11 "PageOwners" "all" "[LPageOwners$Node;", .fieldLink RX4 141 "PageOwners" "nodes" "I", .fieldLink RX4 144 "PageOwners$Node" "guessOf" "[I", .methodLink RX4 114 yX4_isNode, .instanceMethod yX4_isNode, .selects RX4 yX4_isNode yX4_isNode, .initialized RX4, .code yX4_isNode cX4_isNode 2 (some .boolean), .methodLink RX4 138 yX4_isPage, .static yX4_isPage, .code yX4_isPage cX4_isPage 1 (some .boolean), .methodLink RX4 160 yX4_endsChain, .static yX4_endsChain, .code yX4_endsChain cX4_endsChain 2 (some .boolean), .fieldLink RX4 61 "PageOwners$Node" "owns" "[Z", .fieldLink RX4 36 "PageOwners$Node" "hand" "LPageOwners$Hand;", .methodLink RX4 204 yX0_awaits, .instanceMethod yX0_awaits, .selects RX0 yX0_awaits yX0_awaits, .initialized RX0, .code yX0_awaits cX0_awaits 3 (some .boolean), .fieldLink RX0 19 "PageOwners$Hand" "waitsFor" "I", .fieldLink RX0 30 "PageOwners$Hand" "page" "I"] ++ wsX40 ++ wsX30 ++ wsX00)
def wsX4_flying : List Cond := .code yX4_flying cX4_flying 1 (some .int) :: ([.fieldLink RX4 18 "PageOwners" "mail" "LPageOwners$Mail;", .fieldLink RX4 164 "PageOwners$Mail" "flying" "I"] ++ wsX40 ++ wsX20)
def wsX4_letter : List Cond := .code yX4_letter cX4_letter 4 (some .int) :: ([.fieldLink RX4 18 "PageOwners" "mail" "LPageOwners$Mail;", .fieldLink RX4 167 "PageOwners$Mail" "row" "[LPageOwners$Letter;", .fieldLink RX4 85 "PageOwners$Letter" "kind" "I", .fieldLink RX4 105 "PageOwners$Letter" "from" "I", .fieldLink RX4 79 "PageOwners$Letter" "to" "I", .fieldLink RX4 88 "PageOwners$Letter" "page" "I", .fieldLink RX4 91 "PageOwners$Letter" "asker" "I", .fieldLink RX4 171 "PageOwners$Letter" "copySet" "I", .methodLink RX4 71 yX2_has, .instanceMethod yX2_has, .selects RX2 yX2_has yX2_has, .initialized RX2, .code yX2_has cX2_has 2 (some .boolean), .fieldLink RX2 18 "PageOwners$Mail" "flying" "I"] ++ wsX40 ++ wsX20 ++ wsX10)
def wsX4_letterWord : List Cond := .code yX4_letterWord cX4_letterWord 4 (some .long) :: ([.fieldLink RX4 18 "PageOwners" "mail" "LPageOwners$Mail;", .fieldLink RX4 167 "PageOwners$Mail" "row" "[LPageOwners$Letter;", .fieldLink RX4 85 "PageOwners$Letter" "kind" "I", .fieldLink RX4 173 "PageOwners$Letter" "words" "[J", .methodLink RX4 71 yX2_has, .instanceMethod yX2_has, .selects RX2 yX2_has yX2_has, .initialized RX2, .code yX2_has cX2_has 2 (some .boolean), .fieldLink RX2 18 "PageOwners$Mail" "flying" "I", .methodLink RX4 150 yX4_isWord, .static yX4_isWord, .initialized RX4, .code yX4_isWord cX4_isWord 1 (some .boolean)] ++ wsX40 ++ wsX20 ++ wsX10)
def wsX4_count : List Cond := .code yX4_count cX4_count 2 (some .int) :: ([.fieldLink RX4 22 "PageOwners" "counts" "[I"] ++ wsX40)
def wsX5_begin : List Cond := .code yX5_begin cX5_begin 4 (some .boolean) :: ([.fieldLink RX5 85 "PageOwnersModel" "nodes" "I", .fieldLink RX5 13 "PageOwnersModel" "isOwner" "[Z", .fieldLink RX5 7 "PageOwnersModel" "access" "[I", .fieldLink RX5 17 "PageOwnersModel" "guess" "[I", .fieldLink RX5 20 "PageOwnersModel" "copies" "[I", .fieldLink RX5 30 "PageOwnersModel" "queued" "[I", .fieldLink RX5 23 "PageOwnersModel" "words" "[J", .fieldLink RX5 33 "PageOwnersModel" "waits" "[I", .fieldLink RX5 48 "PageOwnersModel" "answers" "[I", .fieldLink RX5 51 "PageOwnersModel" "wasCalled" "[Z", .fieldLink RX5 54 "PageOwnersModel" "hadOne" "[Z", .fieldLink RX5 57 "PageOwnersModel" "done" "[I", .fieldLink RX5 60 "PageOwnersModel" "result" "[J", .fieldLink RX5 69 "PageOwnersModel" "counts" "[I", .fieldLink RX5 89 "PageOwnersModel" "flying" "I"] ++ wsX50)
def wsX5_init_r1 : List Cond := [Cond.methodLink RX5 1 objectInit, Cond.instanceMethod objectInit, Cond.code objectInit ⟨#[0xb1]⟩ 1 none, Cond.arrayClass .int, Cond.fieldLink RX5 7 "PageOwnersModel" "access" "[I", Cond.arrayClass .boolean, Cond.fieldLink RX5 13 "PageOwnersModel" "isOwner" "[Z", Cond.fieldLink RX5 17 "PageOwnersModel" "guess" "[I", Cond.fieldLink RX5 20 "PageOwnersModel" "copies" "[I", Cond.arrayClass .long, Cond.fieldLink RX5 23 "PageOwnersModel" "words" "[J", Cond.fieldLink RX5 27 "PageOwnersModel" "queue" "[I", Cond.fieldLink RX5 30 "PageOwnersModel" "queued" "[I", Cond.fieldLink RX5 33 "PageOwnersModel" "waits" "[I", Cond.fieldLink RX5 36 "PageOwnersModel" "page" "[I", Cond.fieldLink RX5 39 "PageOwnersModel" "word" "[I", Cond.fieldLink RX5 42 "PageOwnersModel" "isWrite" "[Z", Cond.fieldLink RX5 45 "PageOwnersModel" "value" "[J", Cond.fieldLink RX5 48 "PageOwnersModel" "answers" "[I", Cond.fieldLink RX5 51 "PageOwnersModel" "wasCalled" "[Z", Cond.fieldLink RX5 54 "PageOwnersModel" "hadOne" "[Z", Cond.fieldLink RX5 57 "PageOwnersModel" "done" "[I", Cond.fieldLink RX5 60 "PageOwnersModel" "result" "[J", Cond.fieldLink RX5 63 "PageOwnersModel" "letters" "[I"]
def wsX5_init_r2 : List Cond := [Cond.fieldLink RX5 66 "PageOwnersModel" "letterWords" "[J", Cond.fieldLink RX5 69 "PageOwnersModel" "counts" "[I", Cond.fieldLink RX5 72 "PageOwnersModel" "own" "[I", Cond.fieldLink RX5 75 "PageOwnersModel" "ownWords" "[J", Cond.fieldLink RX5 78 "PageOwnersModel" "aside" "[I", Cond.methodLink RX5 81 yX5_begin, Cond.instanceMethod yX5_begin, Cond.selects RX5 yX5_begin yX5_begin, Cond.initialized RX5, Cond.code yX5_begin cX5_begin 4 (some .boolean), Cond.fieldLink RX5 85 "PageOwnersModel" "nodes" "I", Cond.fieldLink RX5 89 "PageOwnersModel" "flying" "I"]
def wsX5_init : List Cond := .code yX5_init cX5_init 1 none :: ((wsX5_init_r1 ++ wsX5_init_r2) ++ wsX50)
def wsX5_isNode : List Cond := .code yX5_isNode cX5_isNode 2 (some .boolean) :: ([.fieldLink RX5 85 "PageOwnersModel" "nodes" "I"] ++ wsX50)
def wsX5_isPage : List Cond := .code yX5_isPage cX5_isPage 1 (some .boolean) :: ([])
def wsX5_place : List Cond := .code yX5_place cX5_place 2 (some .int) :: ([])
def wsX5_send : List Cond := .code yX5_send cX5_send 9 none :: ([.fieldLink RX5 89 "PageOwnersModel" "flying" "I", .fieldLink RX5 63 "PageOwnersModel" "letters" "[I", .fieldLink RX5 66 "PageOwnersModel" "letterWords" "[J", .fieldLink RX5 23 "PageOwnersModel" "words" "[J", .fieldLink RX5 69 "PageOwnersModel" "counts" "[I", .methodLink RX5 92 yX5_place, .static yX5_place, .initialized RX5, .code yX5_place cX5_place 2 (some .int)] ++ wsX50)
def wsX5_drop : List Cond := .code yX5_drop cX5_drop 3 none :: ([.fieldLink RX5 89 "PageOwnersModel" "flying" "I", .fieldLink RX5 63 "PageOwnersModel" "letters" "[I", .fieldLink RX5 66 "PageOwnersModel" "letterWords" "[J"] ++ wsX50)
def wsX5_finish : List Cond := .code yX5_finish cX5_finish 3 none :: ([.fieldLink RX5 36 "PageOwnersModel" "page" "[I", .fieldLink RX5 39 "PageOwnersModel" "word" "[I", .fieldLink RX5 42 "PageOwnersModel" "isWrite" "[Z", .fieldLink RX5 23 "PageOwnersModel" "words" "[J", .fieldLink RX5 45 "PageOwnersModel" "value" "[J", .fieldLink RX5 60 "PageOwnersModel" "result" "[J", .fieldLink RX5 33 "PageOwnersModel" "waits" "[I", .fieldLink RX5 57 "PageOwnersModel" "done" "[I", .fieldLink RX5 69 "PageOwnersModel" "counts" "[I", .methodLink RX5 92 yX5_place, .static yX5_place, .initialized RX5, .code yX5_place cX5_place 2 (some .int)] ++ wsX50)
def wsX5_takeUp : List Cond := .code yX5_takeUp cX5_takeUp 5 none :: ([.fieldLink RX5 36 "PageOwnersModel" "page" "[I", .fieldLink RX5 39 "PageOwnersModel" "word" "[I", .fieldLink RX5 42 "PageOwnersModel" "isWrite" "[Z", .fieldLink RX5 48 "PageOwnersModel" "answers" "[I", .fieldLink RX5 51 "PageOwnersModel" "wasCalled" "[Z", .fieldLink RX5 54 "PageOwnersModel" "hadOne" "[Z"] ++ wsX50)
def wsX5_callBack_r1 : List Cond := [Cond.fieldLink RX5 36 "PageOwnersModel" "page" "[I", Cond.fieldLink RX5 85 "PageOwnersModel" "nodes" "I", Cond.fieldLink RX5 20 "PageOwnersModel" "copies" "[I", Cond.fieldLink RX5 69 "PageOwnersModel" "counts" "[I", Cond.fieldLink RX5 48 "PageOwnersModel" "answers" "[I", Cond.fieldLink RX5 7 "PageOwnersModel" "access" "[I", Cond.fieldLink RX5 33 "PageOwnersModel" "waits" "[I", Cond.methodLink RX5 92 yX5_place, Cond.static yX5_place, Cond.initialized RX5, Cond.code yX5_place cX5_place 2 (some .int), Cond.methodLink RX5 113 yX5_send, Cond.instanceMethod yX5_send, Cond.selects RX5 yX5_send yX5_send, Cond.code yX5_send cX5_send 9 none, Cond.fieldLink RX5 89 "PageOwnersModel" "flying" "I", Cond.fieldLink RX5 63 "PageOwnersModel" "letters" "[I", Cond.fieldLink RX5 66 "PageOwnersModel" "letterWords" "[J", Cond.fieldLink RX5 23 "PageOwnersModel" "words" "[J", Cond.methodLink RX5 106 yX5_finish, Cond.instanceMethod yX5_finish, Cond.selects RX5 yX5_finish yX5_finish, Cond.code yX5_finish cX5_finish 3 none, Cond.fieldLink RX5 39 "PageOwnersModel" "word" "[I"]
def wsX5_callBack_r2 : List Cond := [Cond.fieldLink RX5 42 "PageOwnersModel" "isWrite" "[Z", Cond.fieldLink RX5 45 "PageOwnersModel" "value" "[J", Cond.fieldLink RX5 60 "PageOwnersModel" "result" "[J", Cond.fieldLink RX5 57 "PageOwnersModel" "done" "[I"]
def wsX5_callBack : List Cond := .code yX5_callBack cX5_callBack 5 (some .boolean) :: ((wsX5_callBack_r1 ++ wsX5_callBack_r2) ++ wsX50)
def wsX5_ask_r1 : List Cond := [Cond.fieldLink RX5 33 "PageOwnersModel" "waits" "[I", Cond.fieldLink RX5 45 "PageOwnersModel" "value" "[J", Cond.fieldLink RX5 7 "PageOwnersModel" "access" "[I", Cond.fieldLink RX5 69 "PageOwnersModel" "counts" "[I", Cond.fieldLink RX5 13 "PageOwnersModel" "isOwner" "[Z", Cond.fieldLink RX5 17 "PageOwnersModel" "guess" "[I", Cond.methodLink RX5 96 yX5_isNode, Cond.instanceMethod yX5_isNode, Cond.selects RX5 yX5_isNode yX5_isNode, Cond.initialized RX5, Cond.code yX5_isNode cX5_isNode 2 (some .boolean), Cond.fieldLink RX5 85 "PageOwnersModel" "nodes" "I", Cond.methodLink RX5 99 yX5_isPage, Cond.static yX5_isPage, Cond.code yX5_isPage cX5_isPage 1 (some .boolean), Cond.methodLink RX5 102 yX5_takeUp, Cond.instanceMethod yX5_takeUp, Cond.selects RX5 yX5_takeUp yX5_takeUp, Cond.code yX5_takeUp cX5_takeUp 5 none, Cond.fieldLink RX5 36 "PageOwnersModel" "page" "[I", Cond.fieldLink RX5 39 "PageOwnersModel" "word" "[I", Cond.fieldLink RX5 42 "PageOwnersModel" "isWrite" "[Z", Cond.fieldLink RX5 48 "PageOwnersModel" "answers" "[I", Cond.fieldLink RX5 51 "PageOwnersModel" "wasCalled" "[Z"]
def wsX5_ask_r2 : List Cond := [Cond.fieldLink RX5 54 "PageOwnersModel" "hadOne" "[Z", Cond.methodLink RX5 92 yX5_place, Cond.static yX5_place, Cond.code yX5_place cX5_place 2 (some .int), Cond.methodLink RX5 106 yX5_finish, Cond.instanceMethod yX5_finish, Cond.selects RX5 yX5_finish yX5_finish, Cond.code yX5_finish cX5_finish 3 none, Cond.fieldLink RX5 23 "PageOwnersModel" "words" "[J", Cond.fieldLink RX5 60 "PageOwnersModel" "result" "[J", Cond.fieldLink RX5 57 "PageOwnersModel" "done" "[I", Cond.methodLink RX5 110 yX5_callBack, Cond.instanceMethod yX5_callBack, Cond.selects RX5 yX5_callBack yX5_callBack, Cond.code yX5_callBack cX5_callBack 5 (some .boolean), Cond.fieldLink RX5 20 "PageOwnersModel" "copies" "[I", Cond.methodLink RX5 113 yX5_send, Cond.instanceMethod yX5_send, Cond.selects RX5 yX5_send yX5_send, Cond.code yX5_send cX5_send 9 none, Cond.fieldLink RX5 89 "PageOwnersModel" "flying" "I", Cond.fieldLink RX5 63 "PageOwnersModel" "letters" "[I", Cond.fieldLink RX5 66 "PageOwnersModel" "letterWords" "[J"]
def wsX5_ask : List Cond := .code yX5_ask cX5_ask 9 (some .int) :: ((wsX5_ask_r1 ++ wsX5_ask_r2) ++ wsX50)
def wsX5_read_r1 : List Cond := [Cond.methodLink RX5 117 yX5_ask, Cond.instanceMethod yX5_ask, Cond.selects RX5 yX5_ask yX5_ask, Cond.initialized RX5, Cond.code yX5_ask cX5_ask 9 (some .int), Cond.fieldLink RX5 33 "PageOwnersModel" "waits" "[I", Cond.fieldLink RX5 45 "PageOwnersModel" "value" "[J", Cond.fieldLink RX5 7 "PageOwnersModel" "access" "[I", Cond.fieldLink RX5 69 "PageOwnersModel" "counts" "[I", Cond.fieldLink RX5 13 "PageOwnersModel" "isOwner" "[Z", Cond.fieldLink RX5 17 "PageOwnersModel" "guess" "[I", Cond.methodLink RX5 96 yX5_isNode, Cond.instanceMethod yX5_isNode, Cond.selects RX5 yX5_isNode yX5_isNode, Cond.code yX5_isNode cX5_isNode 2 (some .boolean), Cond.fieldLink RX5 85 "PageOwnersModel" "nodes" "I", Cond.methodLink RX5 99 yX5_isPage, Cond.static yX5_isPage, Cond.code yX5_isPage cX5_isPage 1 (some .boolean), Cond.methodLink RX5 102 yX5_takeUp, Cond.instanceMethod yX5_takeUp, Cond.selects RX5 yX5_takeUp yX5_takeUp, Cond.code yX5_takeUp cX5_takeUp 5 none, Cond.fieldLink RX5 36 "PageOwnersModel" "page" "[I"]
def wsX5_read_r2 : List Cond := [Cond.fieldLink RX5 39 "PageOwnersModel" "word" "[I", Cond.fieldLink RX5 42 "PageOwnersModel" "isWrite" "[Z", Cond.fieldLink RX5 48 "PageOwnersModel" "answers" "[I", Cond.fieldLink RX5 51 "PageOwnersModel" "wasCalled" "[Z", Cond.fieldLink RX5 54 "PageOwnersModel" "hadOne" "[Z", Cond.methodLink RX5 92 yX5_place, Cond.static yX5_place, Cond.code yX5_place cX5_place 2 (some .int), Cond.methodLink RX5 106 yX5_finish, Cond.instanceMethod yX5_finish, Cond.selects RX5 yX5_finish yX5_finish, Cond.code yX5_finish cX5_finish 3 none, Cond.fieldLink RX5 23 "PageOwnersModel" "words" "[J", Cond.fieldLink RX5 60 "PageOwnersModel" "result" "[J", Cond.fieldLink RX5 57 "PageOwnersModel" "done" "[I", Cond.methodLink RX5 110 yX5_callBack, Cond.instanceMethod yX5_callBack, Cond.selects RX5 yX5_callBack yX5_callBack, Cond.code yX5_callBack cX5_callBack 5 (some .boolean), Cond.fieldLink RX5 20 "PageOwnersModel" "copies" "[I", Cond.methodLink RX5 113 yX5_send, Cond.instanceMethod yX5_send, Cond.selects RX5 yX5_send yX5_send, Cond.code yX5_send cX5_send 9 none]
def wsX5_read_r3 : List Cond := [Cond.fieldLink RX5 89 "PageOwnersModel" "flying" "I", Cond.fieldLink RX5 63 "PageOwnersModel" "letters" "[I", Cond.fieldLink RX5 66 "PageOwnersModel" "letterWords" "[J"]
def wsX5_read : List Cond := .code yX5_read cX5_read 4 (some .int) :: ((wsX5_read_r1 ++ (wsX5_read_r2 ++ wsX5_read_r3)) ++ wsX50)
def wsX5_write_r1 : List Cond := [Cond.methodLink RX5 117 yX5_ask, Cond.instanceMethod yX5_ask, Cond.selects RX5 yX5_ask yX5_ask, Cond.initialized RX5, Cond.code yX5_ask cX5_ask 9 (some .int), Cond.fieldLink RX5 33 "PageOwnersModel" "waits" "[I", Cond.fieldLink RX5 45 "PageOwnersModel" "value" "[J", Cond.fieldLink RX5 7 "PageOwnersModel" "access" "[I", Cond.fieldLink RX5 69 "PageOwnersModel" "counts" "[I", Cond.fieldLink RX5 13 "PageOwnersModel" "isOwner" "[Z", Cond.fieldLink RX5 17 "PageOwnersModel" "guess" "[I", Cond.methodLink RX5 96 yX5_isNode, Cond.instanceMethod yX5_isNode, Cond.selects RX5 yX5_isNode yX5_isNode, Cond.code yX5_isNode cX5_isNode 2 (some .boolean), Cond.fieldLink RX5 85 "PageOwnersModel" "nodes" "I", Cond.methodLink RX5 99 yX5_isPage, Cond.static yX5_isPage, Cond.code yX5_isPage cX5_isPage 1 (some .boolean), Cond.methodLink RX5 102 yX5_takeUp, Cond.instanceMethod yX5_takeUp, Cond.selects RX5 yX5_takeUp yX5_takeUp, Cond.code yX5_takeUp cX5_takeUp 5 none, Cond.fieldLink RX5 36 "PageOwnersModel" "page" "[I"]
def wsX5_write_r2 : List Cond := [Cond.fieldLink RX5 39 "PageOwnersModel" "word" "[I", Cond.fieldLink RX5 42 "PageOwnersModel" "isWrite" "[Z", Cond.fieldLink RX5 48 "PageOwnersModel" "answers" "[I", Cond.fieldLink RX5 51 "PageOwnersModel" "wasCalled" "[Z", Cond.fieldLink RX5 54 "PageOwnersModel" "hadOne" "[Z", Cond.methodLink RX5 92 yX5_place, Cond.static yX5_place, Cond.code yX5_place cX5_place 2 (some .int), Cond.methodLink RX5 106 yX5_finish, Cond.instanceMethod yX5_finish, Cond.selects RX5 yX5_finish yX5_finish, Cond.code yX5_finish cX5_finish 3 none, Cond.fieldLink RX5 23 "PageOwnersModel" "words" "[J", Cond.fieldLink RX5 60 "PageOwnersModel" "result" "[J", Cond.fieldLink RX5 57 "PageOwnersModel" "done" "[I", Cond.methodLink RX5 110 yX5_callBack, Cond.instanceMethod yX5_callBack, Cond.selects RX5 yX5_callBack yX5_callBack, Cond.code yX5_callBack cX5_callBack 5 (some .boolean), Cond.fieldLink RX5 20 "PageOwnersModel" "copies" "[I", Cond.methodLink RX5 113 yX5_send, Cond.instanceMethod yX5_send, Cond.selects RX5 yX5_send yX5_send, Cond.code yX5_send cX5_send 9 none]
def wsX5_write_r3 : List Cond := [Cond.fieldLink RX5 89 "PageOwnersModel" "flying" "I", Cond.fieldLink RX5 63 "PageOwnersModel" "letters" "[I", Cond.fieldLink RX5 66 "PageOwnersModel" "letterWords" "[J"]
def wsX5_write : List Cond := .code yX5_write cX5_write 6 (some .int) :: ((wsX5_write_r1 ++ (wsX5_write_r2 ++ wsX5_write_r3)) ++ wsX50)
def wsX5_asked : List Cond := .code yX5_asked cX5_asked 6 none :: ([.fieldLink RX5 33 "PageOwnersModel" "waits" "[I", .fieldLink RX5 36 "PageOwnersModel" "page" "[I", .fieldLink RX5 27 "PageOwnersModel" "queue" "[I", .fieldLink RX5 30 "PageOwnersModel" "queued" "[I", .fieldLink RX5 13 "PageOwnersModel" "isOwner" "[Z", .fieldLink RX5 69 "PageOwnersModel" "counts" "[I", .fieldLink RX5 17 "PageOwnersModel" "guess" "[I", .fieldLink RX5 20 "PageOwnersModel" "copies" "[I", .fieldLink RX5 7 "PageOwnersModel" "access" "[I", .methodLink RX5 92 yX5_place, .static yX5_place, .initialized RX5, .code yX5_place cX5_place 2 (some .int), .methodLink RX5 113 yX5_send, .instanceMethod yX5_send, .selects RX5 yX5_send yX5_send, .code yX5_send cX5_send 9 none, .fieldLink RX5 89 "PageOwnersModel" "flying" "I", .fieldLink RX5 63 "PageOwnersModel" "letters" "[I", .fieldLink RX5 66 "PageOwnersModel" "letterWords" "[J", .fieldLink RX5 23 "PageOwnersModel" "words" "[J"] ++ wsX50)
def wsX5_goOver_r1 : List Cond := [Cond.fieldLink RX5 30 "PageOwnersModel" "queued" "[I", Cond.fieldLink RX5 78 "PageOwnersModel" "aside" "[I", Cond.fieldLink RX5 27 "PageOwnersModel" "queue" "[I", Cond.methodLink RX5 92 yX5_place, Cond.static yX5_place, Cond.initialized RX5, Cond.code yX5_place cX5_place 2 (some .int), Cond.methodLink RX5 121 yX5_asked, Cond.instanceMethod yX5_asked, Cond.selects RX5 yX5_asked yX5_asked, Cond.code yX5_asked cX5_asked 6 none, Cond.fieldLink RX5 33 "PageOwnersModel" "waits" "[I", Cond.fieldLink RX5 36 "PageOwnersModel" "page" "[I", Cond.fieldLink RX5 13 "PageOwnersModel" "isOwner" "[Z", Cond.fieldLink RX5 69 "PageOwnersModel" "counts" "[I", Cond.fieldLink RX5 17 "PageOwnersModel" "guess" "[I", Cond.fieldLink RX5 20 "PageOwnersModel" "copies" "[I", Cond.fieldLink RX5 7 "PageOwnersModel" "access" "[I", Cond.methodLink RX5 113 yX5_send, Cond.instanceMethod yX5_send, Cond.selects RX5 yX5_send yX5_send, Cond.code yX5_send cX5_send 9 none, Cond.fieldLink RX5 89 "PageOwnersModel" "flying" "I", Cond.fieldLink RX5 63 "PageOwnersModel" "letters" "[I"]
def wsX5_goOver_r2 : List Cond := [Cond.fieldLink RX5 66 "PageOwnersModel" "letterWords" "[J", Cond.fieldLink RX5 23 "PageOwnersModel" "words" "[J"]
def wsX5_goOver : List Cond := .code yX5_goOver cX5_goOver 6 none :: ((wsX5_goOver_r1 ++ wsX5_goOver_r2) ++ wsX50)
def wsX5_takeWords : List Cond := .code yX5_takeWords cX5_takeWords 3 none :: ([.fieldLink RX5 23 "PageOwnersModel" "words" "[J", .fieldLink RX5 75 "PageOwnersModel" "ownWords" "[J"] ++ wsX50)
def wsX5_deliver_r1 : List Cond := [Cond.fieldLink RX5 89 "PageOwnersModel" "flying" "I", Cond.fieldLink RX5 72 "PageOwnersModel" "own" "[I", Cond.fieldLink RX5 63 "PageOwnersModel" "letters" "[I", Cond.fieldLink RX5 75 "PageOwnersModel" "ownWords" "[J", Cond.fieldLink RX5 66 "PageOwnersModel" "letterWords" "[J", Cond.fieldLink RX5 17 "PageOwnersModel" "guess" "[I", Cond.fieldLink RX5 7 "PageOwnersModel" "access" "[I", Cond.fieldLink RX5 51 "PageOwnersModel" "wasCalled" "[Z", Cond.fieldLink RX5 20 "PageOwnersModel" "copies" "[I", Cond.fieldLink RX5 13 "PageOwnersModel" "isOwner" "[Z", Cond.fieldLink RX5 33 "PageOwnersModel" "waits" "[I", Cond.fieldLink RX5 36 "PageOwnersModel" "page" "[I", Cond.fieldLink RX5 48 "PageOwnersModel" "answers" "[I", Cond.methodLink RX5 125 yX5_drop, Cond.instanceMethod yX5_drop, Cond.selects RX5 yX5_drop yX5_drop, Cond.initialized RX5, Cond.code yX5_drop cX5_drop 3 none, Cond.methodLink RX5 92 yX5_place, Cond.static yX5_place, Cond.code yX5_place cX5_place 2 (some .int), Cond.methodLink RX5 121 yX5_asked, Cond.instanceMethod yX5_asked, Cond.selects RX5 yX5_asked yX5_asked]
def wsX5_deliver_r2 : List Cond := [Cond.code yX5_asked cX5_asked 6 none, Cond.fieldLink RX5 27 "PageOwnersModel" "queue" "[I", Cond.fieldLink RX5 30 "PageOwnersModel" "queued" "[I", Cond.fieldLink RX5 69 "PageOwnersModel" "counts" "[I", Cond.methodLink RX5 113 yX5_send, Cond.instanceMethod yX5_send, Cond.selects RX5 yX5_send yX5_send, Cond.code yX5_send cX5_send 9 none, Cond.fieldLink RX5 23 "PageOwnersModel" "words" "[J", Cond.methodLink RX5 128 yX5_takeWords, Cond.instanceMethod yX5_takeWords, Cond.selects RX5 yX5_takeWords yX5_takeWords, Cond.code yX5_takeWords cX5_takeWords 3 none, Cond.methodLink RX5 106 yX5_finish, Cond.instanceMethod yX5_finish, Cond.selects RX5 yX5_finish yX5_finish, Cond.code yX5_finish cX5_finish 3 none, Cond.fieldLink RX5 39 "PageOwnersModel" "word" "[I", Cond.fieldLink RX5 42 "PageOwnersModel" "isWrite" "[Z", Cond.fieldLink RX5 45 "PageOwnersModel" "value" "[J", Cond.fieldLink RX5 60 "PageOwnersModel" "result" "[J", Cond.fieldLink RX5 57 "PageOwnersModel" "done" "[I", Cond.methodLink RX5 110 yX5_callBack, Cond.instanceMethod yX5_callBack]
def wsX5_deliver_r3 : List Cond := [Cond.selects RX5 yX5_callBack yX5_callBack, Cond.code yX5_callBack cX5_callBack 5 (some .boolean), Cond.fieldLink RX5 85 "PageOwnersModel" "nodes" "I", Cond.methodLink RX5 131 yX5_goOver, Cond.instanceMethod yX5_goOver, Cond.selects RX5 yX5_goOver yX5_goOver, Cond.code yX5_goOver cX5_goOver 6 none, Cond.fieldLink RX5 78 "PageOwnersModel" "aside" "[I"]
def wsX5_deliver : List Cond := .code yX5_deliver cX5_deliver 7 (some .int) :: ((wsX5_deliver_r1 ++ (wsX5_deliver_r2 ++ wsX5_deliver_r3)) ++ wsX50)
def wsX5_waits : List Cond := .code yX5_waits cX5_waits 2 (some .int) :: ([.fieldLink RX5 33 "PageOwnersModel" "waits" "[I", .methodLink RX5 96 yX5_isNode, .instanceMethod yX5_isNode, .selects RX5 yX5_isNode yX5_isNode, .initialized RX5, .code yX5_isNode cX5_isNode 2 (some .boolean), .fieldLink RX5 85 "PageOwnersModel" "nodes" "I"] ++ wsX50)
def wsX5_at : List Cond := .code yX5_at cX5_at 3 (some .int) :: ([.fieldLink RX5 54 "PageOwnersModel" "hadOne" "[Z", .fieldLink RX5 36 "PageOwnersModel" "page" "[I", .fieldLink RX5 39 "PageOwnersModel" "word" "[I", .fieldLink RX5 42 "PageOwnersModel" "isWrite" "[Z", .fieldLink RX5 33 "PageOwnersModel" "waits" "[I", .fieldLink RX5 48 "PageOwnersModel" "answers" "[I", .fieldLink RX5 57 "PageOwnersModel" "done" "[I", .methodLink RX5 96 yX5_isNode, .instanceMethod yX5_isNode, .selects RX5 yX5_isNode yX5_isNode, .initialized RX5, .code yX5_isNode cX5_isNode 2 (some .boolean), .fieldLink RX5 85 "PageOwnersModel" "nodes" "I"] ++ wsX50)
def wsX5_result : List Cond := .code yX5_result cX5_result 2 (some .long) :: ([.fieldLink RX5 60 "PageOwnersModel" "result" "[J", .methodLink RX5 96 yX5_isNode, .instanceMethod yX5_isNode, .selects RX5 yX5_isNode yX5_isNode, .initialized RX5, .code yX5_isNode cX5_isNode 2 (some .boolean), .fieldLink RX5 85 "PageOwnersModel" "nodes" "I"] ++ wsX50)
def wsX5_isPlace : List Cond := .code yX5_isPlace cX5_isPlace 3 (some .boolean) :: ([.methodLink RX5 96 yX5_isNode, .instanceMethod yX5_isNode, .selects RX5 yX5_isNode yX5_isNode, .initialized RX5, .code yX5_isNode cX5_isNode 2 (some .boolean), .fieldLink RX5 85 "PageOwnersModel" "nodes" "I", .methodLink RX5 99 yX5_isPage, .static yX5_isPage, .code yX5_isPage cX5_isPage 1 (some .boolean)] ++ wsX50)
def wsX5_access : List Cond := .code yX5_access cX5_access 3 (some .int) :: ([.fieldLink RX5 7 "PageOwnersModel" "access" "[I", .methodLink RX5 135 yX5_isPlace, .instanceMethod yX5_isPlace, .selects RX5 yX5_isPlace yX5_isPlace, .initialized RX5, .code yX5_isPlace cX5_isPlace 3 (some .boolean), .methodLink RX5 96 yX5_isNode, .instanceMethod yX5_isNode, .selects RX5 yX5_isNode yX5_isNode, .code yX5_isNode cX5_isNode 2 (some .boolean), .fieldLink RX5 85 "PageOwnersModel" "nodes" "I", .methodLink RX5 99 yX5_isPage, .static yX5_isPage, .code yX5_isPage cX5_isPage 1 (some .boolean), .methodLink RX5 92 yX5_place, .static yX5_place, .code yX5_place cX5_place 2 (some .int)] ++ wsX50)
def wsX5_owner : List Cond := .code yX5_owner cX5_owner 3 (some .int) :: ([.fieldLink RX5 85 "PageOwnersModel" "nodes" "I", .fieldLink RX5 13 "PageOwnersModel" "isOwner" "[Z", .methodLink RX5 99 yX5_isPage, .static yX5_isPage, .initialized RX5, .code yX5_isPage cX5_isPage 1 (some .boolean), .methodLink RX5 92 yX5_place, .static yX5_place, .code yX5_place cX5_place 2 (some .int)] ++ wsX50)
def wsX5_guess : List Cond := .code yX5_guess cX5_guess 3 (some .int) :: ([.fieldLink RX5 17 "PageOwnersModel" "guess" "[I", .methodLink RX5 135 yX5_isPlace, .instanceMethod yX5_isPlace, .selects RX5 yX5_isPlace yX5_isPlace, .initialized RX5, .code yX5_isPlace cX5_isPlace 3 (some .boolean), .methodLink RX5 96 yX5_isNode, .instanceMethod yX5_isNode, .selects RX5 yX5_isNode yX5_isNode, .code yX5_isNode cX5_isNode 2 (some .boolean), .fieldLink RX5 85 "PageOwnersModel" "nodes" "I", .methodLink RX5 99 yX5_isPage, .static yX5_isPage, .code yX5_isPage cX5_isPage 1 (some .boolean), .methodLink RX5 92 yX5_place, .static yX5_place, .code yX5_place cX5_place 2 (some .int)] ++ wsX50)
def wsX5_copies : List Cond := .code yX5_copies cX5_copies 3 (some .int) :: ([.fieldLink RX5 20 "PageOwnersModel" "copies" "[I", .methodLink RX5 135 yX5_isPlace, .instanceMethod yX5_isPlace, .selects RX5 yX5_isPlace yX5_isPlace, .initialized RX5, .code yX5_isPlace cX5_isPlace 3 (some .boolean), .methodLink RX5 96 yX5_isNode, .instanceMethod yX5_isNode, .selects RX5 yX5_isNode yX5_isNode, .code yX5_isNode cX5_isNode 2 (some .boolean), .fieldLink RX5 85 "PageOwnersModel" "nodes" "I", .methodLink RX5 99 yX5_isPage, .static yX5_isPage, .code yX5_isPage cX5_isPage 1 (some .boolean), .methodLink RX5 92 yX5_place, .static yX5_place, .code yX5_place cX5_place 2 (some .int)] ++ wsX50)
def wsX5_word : List Cond := .code yX5_word cX5_word 4 (some .long) :: ([.fieldLink RX5 23 "PageOwnersModel" "words" "[J", .methodLink RX5 135 yX5_isPlace, .instanceMethod yX5_isPlace, .selects RX5 yX5_isPlace yX5_isPlace, .initialized RX5, .code yX5_isPlace cX5_isPlace 3 (some .boolean), .methodLink RX5 96 yX5_isNode, .instanceMethod yX5_isNode, .selects RX5 yX5_isNode yX5_isNode, .code yX5_isNode cX5_isNode 2 (some .boolean), .fieldLink RX5 85 "PageOwnersModel" "nodes" "I", .methodLink RX5 99 yX5_isPage, .static yX5_isPage, .code yX5_isPage cX5_isPage 1 (some .boolean), .methodLink RX5 92 yX5_place, .static yX5_place, .code yX5_place cX5_place 2 (some .int)] ++ wsX50)
def wsX5_queue : List Cond := .code yX5_queue cX5_queue 3 (some .int) :: ([.fieldLink RX5 30 "PageOwnersModel" "queued" "[I", .methodLink RX5 135 yX5_isPlace, .instanceMethod yX5_isPlace, .selects RX5 yX5_isPlace yX5_isPlace, .initialized RX5, .code yX5_isPlace cX5_isPlace 3 (some .boolean), .methodLink RX5 96 yX5_isNode, .instanceMethod yX5_isNode, .selects RX5 yX5_isNode yX5_isNode, .code yX5_isNode cX5_isNode 2 (some .boolean), .fieldLink RX5 85 "PageOwnersModel" "nodes" "I", .methodLink RX5 99 yX5_isPage, .static yX5_isPage, .code yX5_isPage cX5_isPage 1 (some .boolean), .methodLink RX5 92 yX5_place, .static yX5_place, .code yX5_place cX5_place 2 (some .int)] ++ wsX50)
def wsX5_chain_r1 : List Cond := [Cond.fieldLink RX5 89 "PageOwnersModel" "flying" "I", Cond.fieldLink RX5 63 "PageOwnersModel" "letters" "[I", Cond.fieldLink RX5 33 "PageOwnersModel" "waits" "[I", Cond.fieldLink RX5 36 "PageOwnersModel" "page" "[I", Cond.fieldLink RX5 85 "PageOwnersModel" "nodes" "I", Cond.fieldLink RX5 17 "PageOwnersModel" "guess" "[I", Cond.methodLink RX5 135 yX5_isPlace, Cond.instanceMethod yX5_isPlace, Cond.selects RX5 yX5_isPlace yX5_isPlace, Cond.initialized RX5, Cond.code yX5_isPlace cX5_isPlace 3 (some .boolean), Cond.methodLink RX5 96 yX5_isNode, Cond.instanceMethod yX5_isNode, Cond.selects RX5 yX5_isNode yX5_isNode, Cond.code yX5_isNode cX5_isNode 2 (some .boolean), Cond.methodLink RX5 99 yX5_isPage, Cond.static yX5_isPage, Cond.code yX5_isPage cX5_isPage 1 (some .boolean), Cond.methodLink RX5 139 yX5_owner, Cond.instanceMethod yX5_owner, Cond.selects RX5 yX5_owner yX5_owner, Cond.code yX5_owner cX5_owner 3 (some .int), Cond.fieldLink RX5 13 "PageOwnersModel" "isOwner" "[Z", Cond.methodLink RX5 92 yX5_place]
def wsX5_chain_r2 : List Cond := [Cond.static yX5_place, Cond.code yX5_place cX5_place 2 (some .int)]
def wsX5_chain : List Cond := .code yX5_chain cX5_chain 6 (some .int) :: ((wsX5_chain_r1 ++ wsX5_chain_r2) ++ wsX50)
def wsX5_flying : List Cond := .code yX5_flying cX5_flying 1 (some .int) :: ([.fieldLink RX5 89 "PageOwnersModel" "flying" "I"] ++ wsX50)
def wsX5_letter : List Cond := .code yX5_letter cX5_letter 3 (some .int) :: ([.fieldLink RX5 89 "PageOwnersModel" "flying" "I", .fieldLink RX5 63 "PageOwnersModel" "letters" "[I"] ++ wsX50)
def wsX5_letterWord : List Cond := .code yX5_letterWord cX5_letterWord 3 (some .long) :: ([.fieldLink RX5 89 "PageOwnersModel" "flying" "I", .fieldLink RX5 66 "PageOwnersModel" "letterWords" "[J"] ++ wsX50)
def wsX5_count : List Cond := .code yX5_count cX5_count 2 (some .int) :: ([.fieldLink RX5 85 "PageOwnersModel" "nodes" "I", .fieldLink RX5 69 "PageOwnersModel" "counts" "[I"] ++ wsX50)
def wsJ9_max_7cf53 : List Cond := .code yJ9_max_7cf53 cJ9_max_7cf53 2 (some .int) :: ([])
def wsJ9_min_7cf53 : List Cond := .code yJ9_min_7cf53 cJ9_min_7cf53 2 (some .int) :: ([])
def wsL_law_r1 : List Cond := [Cond.classLink RL 7 RX4, Cond.instantiable RX4 4, Cond.initialized RX4, Cond.classLink RL 10 RX5, Cond.instantiable RX5 25, Cond.initialized RX5, Cond.constantLong RL 23 (4294967295), Cond.methodLink RL 9 yX4_init, Cond.instanceMethod yX4_init, Cond.code yX4_init cX4_init 2 none, Cond.methodLink RX4 1 objectInit, Cond.instanceMethod objectInit, Cond.code objectInit ⟨#[0xb1]⟩ 1 none, Cond.classLink RX4 9 RX3, Cond.fieldLink RX4 11 "PageOwners" "all" "[LPageOwners$Node;", Cond.classLink RX4 15 RX2, Cond.instantiable RX2 2, Cond.initialized RX2, Cond.fieldLink RX4 18 "PageOwners" "mail" "LPageOwners$Mail;", Cond.arrayClass .int, Cond.fieldLink RX4 22 "PageOwners" "counts" "[I", Cond.instantiable RX3 10, Cond.initialized RX3, Cond.methodLink RX4 17 yX2_init]
def wsL_law_r2 : List Cond := [Cond.instanceMethod yX2_init, Cond.code yX2_init cX2_init 2 none, Cond.methodLink RX2 3 objectInit, Cond.classLink RX2 11 RX1, Cond.fieldLink RX2 13 "PageOwners$Mail" "row" "[LPageOwners$Letter;", Cond.instantiable RX1 7, Cond.initialized RX1, Cond.instanceMethod yX1_init, Cond.code yX1_init cX1_init 1 none, Cond.methodLink RX1 3 objectInit, Cond.arrayClass .long, Cond.fieldLink RX1 9 "PageOwners$Letter" "words" "[J", Cond.methodLink RX4 26 yX3_init, Cond.instanceMethod yX3_init, Cond.code yX3_init cX3_init 2 none, Cond.methodLink RX3 3 objectInit, Cond.classLink RX3 9 RX0, Cond.instantiable RX0 10, Cond.initialized RX0, Cond.fieldLink RX3 12 "PageOwners$Node" "hand" "LPageOwners$Hand;", Cond.fieldLink RX3 18 "PageOwners$Node" "accessTo" "[I", Cond.arrayClass .boolean, Cond.fieldLink RX3 22 "PageOwners$Node" "owns" "[Z", Cond.fieldLink RX3 26 "PageOwners$Node" "guessOf" "[I"]
def wsL_law_r3 : List Cond := [Cond.fieldLink RX3 29 "PageOwners$Node" "copySet" "[I", Cond.fieldLink RX3 32 "PageOwners$Node" "words" "[J", Cond.fieldLink RX3 36 "PageOwners$Node" "queued" "[I", Cond.fieldLink RX3 39 "PageOwners$Node" "queuedKinds" "[I", Cond.fieldLink RX3 42 "PageOwners$Node" "queuedAskers" "[I", Cond.fieldLink RX3 45 "PageOwners$Node" "number" "I", Cond.instanceMethod yX0_init, Cond.code yX0_init cX0_init 1 none, Cond.methodLink RX0 3 objectInit, Cond.methodLink RX4 29 yX4_startAnew, Cond.instanceMethod yX4_startAnew, Cond.selects RX4 yX4_startAnew yX4_startAnew, Cond.code yX4_startAnew cX4_startAnew 3 none, Cond.fieldLink RX4 141 "PageOwners" "nodes" "I", Cond.fieldLink RX4 164 "PageOwners$Mail" "flying" "I", Cond.methodLink RX4 174 yX3_startAnew, Cond.instanceMethod yX3_startAnew, Cond.selects RX3 yX3_startAnew yX3_startAnew, Cond.code yX3_startAnew cX3_startAnew 4 none, Cond.methodLink RX3 58 Lib.Math.max.name, Cond.static Lib.Math.max.name, Cond.initialized "java/lang/Math", Cond.code Lib.Math.max.name Lib.Math.max.code 2 (some .int), Cond.methodLink RX3 49 yX0_startAnew]
def wsL_law_r4 : List Cond := [Cond.instanceMethod yX0_startAnew, Cond.selects RX0 yX0_startAnew yX0_startAnew, Cond.code yX0_startAnew cX0_startAnew 1 none, Cond.fieldLink RX0 15 "PageOwners$Hand" "everHadOne" "Z", Cond.fieldLink RX0 19 "PageOwners$Hand" "waitsFor" "I", Cond.fieldLink RX0 23 "PageOwners$Hand" "done" "I", Cond.fieldLink RX0 26 "PageOwners$Hand" "result" "J", Cond.methodLink RX0 9 yX0_take, Cond.instanceMethod yX0_take, Cond.selects RX0 yX0_take yX0_take, Cond.code yX0_take cX0_take 6 none, Cond.fieldLink RX0 30 "PageOwners$Hand" "page" "I", Cond.fieldLink RX0 33 "PageOwners$Hand" "word" "I", Cond.fieldLink RX0 36 "PageOwners$Hand" "isWrite" "Z", Cond.fieldLink RX0 39 "PageOwners$Hand" "value" "J", Cond.fieldLink RX0 42 "PageOwners$Hand" "answersDue" "I", Cond.fieldLink RX0 45 "PageOwners$Hand" "wasCalled" "Z", Cond.methodLink RX3 52 yJ7_fill_d0a16, Cond.static yJ7_fill_d0a16, Cond.initialized RJ7, Cond.code yJ7_fill_d0a16 cJ7_fill_d0a16 5 none, Cond.methodLink RX3 64 yJ9_floorMod_7cf53, Cond.static yJ9_floorMod_7cf53, Cond.initialized RJ9]
def wsL_law_r5 : List Cond := [Cond.code yJ9_floorMod_7cf53 cJ9_floorMod_7cf53 3 (some .int), Cond.methodLink RX4 175 yJ7_fill_53178, Cond.static yJ7_fill_53178, Cond.code yJ7_fill_53178 cJ7_fill_53178 4 none, Cond.methodLink RL 12 yX5_init, Cond.instanceMethod yX5_init, Cond.code yX5_init cX5_init 1 none, Cond.methodLink RX5 1 objectInit, Cond.fieldLink RX5 7 "PageOwnersModel" "access" "[I", Cond.fieldLink RX5 13 "PageOwnersModel" "isOwner" "[Z", Cond.fieldLink RX5 17 "PageOwnersModel" "guess" "[I", Cond.fieldLink RX5 20 "PageOwnersModel" "copies" "[I", Cond.fieldLink RX5 23 "PageOwnersModel" "words" "[J", Cond.fieldLink RX5 27 "PageOwnersModel" "queue" "[I", Cond.fieldLink RX5 30 "PageOwnersModel" "queued" "[I", Cond.fieldLink RX5 33 "PageOwnersModel" "waits" "[I", Cond.fieldLink RX5 36 "PageOwnersModel" "page" "[I", Cond.fieldLink RX5 39 "PageOwnersModel" "word" "[I", Cond.fieldLink RX5 42 "PageOwnersModel" "isWrite" "[Z", Cond.fieldLink RX5 45 "PageOwnersModel" "value" "[J", Cond.fieldLink RX5 48 "PageOwnersModel" "answers" "[I", Cond.fieldLink RX5 51 "PageOwnersModel" "wasCalled" "[Z", Cond.fieldLink RX5 54 "PageOwnersModel" "hadOne" "[Z", Cond.fieldLink RX5 57 "PageOwnersModel" "done" "[I"]
def wsL_law_r6 : List Cond := [Cond.fieldLink RX5 60 "PageOwnersModel" "result" "[J", Cond.fieldLink RX5 63 "PageOwnersModel" "letters" "[I", Cond.fieldLink RX5 66 "PageOwnersModel" "letterWords" "[J", Cond.fieldLink RX5 69 "PageOwnersModel" "counts" "[I", Cond.fieldLink RX5 72 "PageOwnersModel" "own" "[I", Cond.fieldLink RX5 75 "PageOwnersModel" "ownWords" "[J", Cond.fieldLink RX5 78 "PageOwnersModel" "aside" "[I", Cond.methodLink RX5 81 yX5_begin, Cond.instanceMethod yX5_begin, Cond.selects RX5 yX5_begin yX5_begin, Cond.code yX5_begin cX5_begin 4 (some .boolean), Cond.fieldLink RX5 85 "PageOwnersModel" "nodes" "I", Cond.fieldLink RX5 89 "PageOwnersModel" "flying" "I", Cond.methodLink RL 13 yX4_begin, Cond.instanceMethod yX4_begin, Cond.selects RX4 yX4_begin yX4_begin, Cond.code yX4_begin cX4_begin 2 (some .boolean), Cond.methodLink RL 17 yX5_begin, Cond.methodLink RL 18 yX4_read, Cond.instanceMethod yX4_read, Cond.selects RX4 yX4_read yX4_read, Cond.code yX4_read cX4_read 5 (some .int), Cond.fieldLink RX4 36 "PageOwners$Node" "hand" "LPageOwners$Hand;", Cond.fieldLink RX4 46 "PageOwners$Node" "accessTo" "[I"]
def wsL_law_r7 : List Cond := [Cond.methodLink RX4 32 yX4_mayStart, Cond.instanceMethod yX4_mayStart, Cond.selects RX4 yX4_mayStart yX4_mayStart, Cond.code yX4_mayStart cX4_mayStart 4 (some .boolean), Cond.fieldLink RX4 117 "PageOwners$Hand" "waitsFor" "I", Cond.methodLink RX4 114 yX4_isNode, Cond.instanceMethod yX4_isNode, Cond.selects RX4 yX4_isNode yX4_isNode, Cond.code yX4_isNode cX4_isNode 2 (some .boolean), Cond.methodLink RX4 138 yX4_isPage, Cond.static yX4_isPage, Cond.code yX4_isPage cX4_isPage 1 (some .boolean), Cond.methodLink RX4 150 yX4_isWord, Cond.static yX4_isWord, Cond.code yX4_isWord cX4_isWord 1 (some .boolean), Cond.methodLink RX4 40 yX0_take, Cond.methodLink RX4 49 yX4_ask, Cond.instanceMethod yX4_ask, Cond.selects RX4 yX4_ask yX4_ask, Cond.code yX4_ask cX4_ask 5 none, Cond.fieldLink RX4 127 "PageOwners$Hand" "page" "I", Cond.fieldLink RX4 181 "PageOwners$Node" "number" "I", Cond.fieldLink RX4 144 "PageOwners$Node" "guessOf" "[I", Cond.fieldLink RX4 91 "PageOwners$Letter" "asker" "I"]
def wsL_law_r8 : List Cond := [Cond.methodLink RX4 184 yX4_send, Cond.instanceMethod yX4_send, Cond.selects RX4 yX4_send yX4_send, Cond.code yX4_send cX4_send 5 (some (.object "PageOwners$Letter")), Cond.methodLink RX4 188 yX2_putIn, Cond.instanceMethod yX2_putIn, Cond.selects RX2 yX2_putIn yX2_putIn, Cond.code yX2_putIn cX2_putIn 7 (some (.object "PageOwners$Letter")), Cond.fieldLink RX2 18 "PageOwners$Mail" "flying" "I", Cond.methodLink RX2 22 Lib.Math.min.name, Cond.static Lib.Math.min.name, Cond.code Lib.Math.min.name Lib.Math.min.code 2 (some .int), Cond.fieldLink RX2 28 "PageOwners$Letter" "kind" "I", Cond.fieldLink RX2 31 "PageOwners$Letter" "from" "I", Cond.fieldLink RX2 34 "PageOwners$Letter" "to" "I", Cond.fieldLink RX2 37 "PageOwners$Letter" "page" "I", Cond.fieldLink RX2 40 "PageOwners$Letter" "asker" "I", Cond.fieldLink RX2 43 "PageOwners$Letter" "copySet" "I", Cond.methodLink RX4 53 yX4_finish, Cond.instanceMethod yX4_finish, Cond.selects RX4 yX4_finish yX4_finish, Cond.code yX4_finish cX4_finish 2 none, Cond.methodLink RX4 191 yX3_doWhatIsAtHand, Cond.instanceMethod yX3_doWhatIsAtHand]
def wsL_law_r9 : List Cond := [Cond.selects RX3 yX3_doWhatIsAtHand yX3_doWhatIsAtHand, Cond.code yX3_doWhatIsAtHand cX3_doWhatIsAtHand 2 none, Cond.fieldLink RX3 67 "PageOwners$Hand" "page" "I", Cond.fieldLink RX3 70 "PageOwners$Hand" "word" "I", Cond.fieldLink RX3 73 "PageOwners$Hand" "isWrite" "Z", Cond.fieldLink RX3 77 "PageOwners$Hand" "value" "J", Cond.fieldLink RX3 81 "PageOwners$Hand" "result" "J", Cond.fieldLink RX3 84 "PageOwners$Hand" "waitsFor" "I", Cond.fieldLink RX3 87 "PageOwners$Hand" "done" "I", Cond.methodLink RX4 57 yX4_doneAtOnce, Cond.instanceMethod yX4_doneAtOnce, Cond.selects RX4 yX4_doneAtOnce yX4_doneAtOnce, Cond.code yX4_doneAtOnce cX4_doneAtOnce 2 (some .int), Cond.methodLink RL 22 yX5_read, Cond.instanceMethod yX5_read, Cond.selects RX5 yX5_read yX5_read, Cond.code yX5_read cX5_read 4 (some .int), Cond.methodLink RX5 117 yX5_ask, Cond.instanceMethod yX5_ask, Cond.selects RX5 yX5_ask yX5_ask, Cond.code yX5_ask cX5_ask 9 (some .int), Cond.methodLink RX5 96 yX5_isNode, Cond.instanceMethod yX5_isNode, Cond.selects RX5 yX5_isNode yX5_isNode]
def wsL_law_r10 : List Cond := [Cond.code yX5_isNode cX5_isNode 2 (some .boolean), Cond.methodLink RX5 99 yX5_isPage, Cond.static yX5_isPage, Cond.code yX5_isPage cX5_isPage 1 (some .boolean), Cond.methodLink RX5 102 yX5_takeUp, Cond.instanceMethod yX5_takeUp, Cond.selects RX5 yX5_takeUp yX5_takeUp, Cond.code yX5_takeUp cX5_takeUp 5 none, Cond.methodLink RX5 92 yX5_place, Cond.static yX5_place, Cond.code yX5_place cX5_place 2 (some .int), Cond.methodLink RX5 106 yX5_finish, Cond.instanceMethod yX5_finish, Cond.selects RX5 yX5_finish yX5_finish, Cond.code yX5_finish cX5_finish 3 none, Cond.methodLink RX5 110 yX5_callBack, Cond.instanceMethod yX5_callBack, Cond.selects RX5 yX5_callBack yX5_callBack, Cond.code yX5_callBack cX5_callBack 5 (some .boolean), Cond.methodLink RX5 113 yX5_send, Cond.instanceMethod yX5_send, Cond.selects RX5 yX5_send yX5_send, Cond.code yX5_send cX5_send 9 none, Cond.methodLink RL 25 yX4_write]
def wsL_law_r11 : List Cond := [Cond.instanceMethod yX4_write, Cond.selects RX4 yX4_write yX4_write, Cond.code yX4_write cX4_write 7 (some .int), Cond.fieldLink RX4 61 "PageOwners$Node" "owns" "[Z", Cond.methodLink RX4 65 yX4_callBack, Cond.instanceMethod yX4_callBack, Cond.selects RX4 yX4_callBack yX4_callBack, Cond.code yX4_callBack cX4_callBack 5 none, Cond.fieldLink RX4 147 "PageOwners$Node" "copySet" "[I", Cond.fieldLink RX4 111 "PageOwners$Hand" "answersDue" "I", Cond.methodLink RX4 68 yX4_finishIfAllAnswered, Cond.instanceMethod yX4_finishIfAllAnswered, Cond.selects RX4 yX4_finishIfAllAnswered yX4_finishIfAllAnswered, Cond.code yX4_finishIfAllAnswered cX4_finishIfAllAnswered 3 none, Cond.methodLink RX4 194 yX4_goOverQueue, Cond.instanceMethod yX4_goOverQueue, Cond.selects RX4 yX4_goOverQueue yX4_goOverQueue, Cond.code yX4_goOverQueue cX4_goOverQueue 6 none, Cond.fieldLink RX4 157 "PageOwners$Node" "queued" "[I", Cond.fieldLink RX4 198 "PageOwners$Node" "queuedKinds" "[I", Cond.fieldLink RX4 201 "PageOwners$Node" "queuedAskers" "[I", Cond.methodLink RX4 94 yX4_askingComes, Cond.instanceMethod yX4_askingComes, Cond.selects RX4 yX4_askingComes yX4_askingComes]
def wsL_law_r12 : List Cond := [Cond.code yX4_askingComes cX4_askingComes 5 none, Cond.methodLink RX4 204 yX0_awaits, Cond.instanceMethod yX0_awaits, Cond.selects RX0 yX0_awaits yX0_awaits, Cond.code yX0_awaits cX0_awaits 3 (some .boolean), Cond.methodLink RX4 208 yX3_putInQueue, Cond.instanceMethod yX3_putInQueue, Cond.selects RX3 yX3_putInQueue yX3_putInQueue, Cond.code yX3_putInQueue cX3_putInQueue 5 none, Cond.methodLink RX4 212 yX4_sendOn, Cond.instanceMethod yX4_sendOn, Cond.selects RX4 yX4_sendOn yX4_sendOn, Cond.code yX4_sendOn cX4_sendOn 5 none, Cond.methodLink RX4 215 yX4_giveToRead, Cond.instanceMethod yX4_giveToRead, Cond.selects RX4 yX4_giveToRead yX4_giveToRead, Cond.code yX4_giveToRead cX4_giveToRead 5 none, Cond.fieldLink RX4 153 "PageOwners$Node" "words" "[J", Cond.fieldLink RX4 173 "PageOwners$Letter" "words" "[J", Cond.methodLink RX4 221 arraycopyName, Cond.native arraycopyName, Cond.static arraycopyName, Cond.initialized "java/lang/System", Cond.methodLink RX4 218 yX4_giveToWrite]
def wsL_law_r13 : List Cond := [Cond.instanceMethod yX4_giveToWrite, Cond.selects RX4 yX4_giveToWrite yX4_giveToWrite, Cond.code yX4_giveToWrite cX4_giveToWrite 5 none, Cond.fieldLink RX4 171 "PageOwners$Letter" "copySet" "I", Cond.methodLink RL 29 yX5_write, Cond.instanceMethod yX5_write, Cond.selects RX5 yX5_write yX5_write, Cond.code yX5_write cX5_write 6 (some .int), Cond.methodLink RL 30 yX4_deliver, Cond.instanceMethod yX4_deliver, Cond.selects RX4 yX4_deliver yX4_deliver, Cond.code yX4_deliver cX4_deliver 4 (some .int), Cond.fieldLink RX4 79 "PageOwners$Letter" "to" "I", Cond.fieldLink RX4 85 "PageOwners$Letter" "kind" "I", Cond.fieldLink RX4 88 "PageOwners$Letter" "page" "I", Cond.fieldLink RX4 105 "PageOwners$Letter" "from" "I", Cond.methodLink RX4 71 yX2_has, Cond.instanceMethod yX2_has, Cond.selects RX2 yX2_has yX2_has, Cond.code yX2_has cX2_has 2 (some .boolean), Cond.methodLink RX4 75 yX2_takeOut, Cond.instanceMethod yX2_takeOut, Cond.selects RX2 yX2_takeOut yX2_takeOut, Cond.code yX2_takeOut cX2_takeOut 4 (some (.object "PageOwners$Letter"))]
def wsL_law_r14 : List Cond := [Cond.methodLink RX4 98 yX4_givenToRead, Cond.instanceMethod yX4_givenToRead, Cond.selects RX4 yX4_givenToRead yX4_givenToRead, Cond.code yX4_givenToRead cX4_givenToRead 4 none, Cond.fieldLink RX4 227 "PageOwners$Hand" "wasCalled" "Z", Cond.methodLink RX4 102 yX4_givenToWrite, Cond.instanceMethod yX4_givenToWrite, Cond.selects RX4 yX4_givenToWrite yX4_givenToWrite, Cond.code yX4_givenToWrite cX4_givenToWrite 4 none, Cond.methodLink RX4 108 yX4_calledBack, Cond.instanceMethod yX4_calledBack, Cond.selects RX4 yX4_calledBack yX4_calledBack, Cond.code yX4_calledBack cX4_calledBack 4 none, Cond.methodLink RL 34 yX5_deliver, Cond.instanceMethod yX5_deliver, Cond.selects RX5 yX5_deliver yX5_deliver, Cond.code yX5_deliver cX5_deliver 7 (some .int), Cond.methodLink RX5 125 yX5_drop, Cond.instanceMethod yX5_drop, Cond.selects RX5 yX5_drop yX5_drop, Cond.code yX5_drop cX5_drop 3 none, Cond.methodLink RX5 121 yX5_asked, Cond.instanceMethod yX5_asked, Cond.selects RX5 yX5_asked yX5_asked]
def wsL_law_r15 : List Cond := [Cond.code yX5_asked cX5_asked 6 none, Cond.methodLink RX5 128 yX5_takeWords, Cond.instanceMethod yX5_takeWords, Cond.selects RX5 yX5_takeWords yX5_takeWords, Cond.code yX5_takeWords cX5_takeWords 3 none, Cond.methodLink RX5 131 yX5_goOver, Cond.instanceMethod yX5_goOver, Cond.selects RX5 yX5_goOver yX5_goOver, Cond.code yX5_goOver cX5_goOver 6 none, Cond.methodLink RL 35 yX4_waits, Cond.instanceMethod yX4_waits, Cond.selects RX4 yX4_waits yX4_waits, Cond.code yX4_waits cX4_waits 2 (some .int), Cond.methodLink RL 38 yX5_waits, Cond.instanceMethod yX5_waits, Cond.selects RX5 yX5_waits yX5_waits, Cond.code yX5_waits cX5_waits 2 (some .int), Cond.methodLink RL 39 yX4_at, Cond.instanceMethod yX4_at, Cond.selects RX4 yX4_at yX4_at, Cond.code yX4_at cX4_at 4 (some .int), Cond.fieldLink RX4 120 "PageOwners$Hand" "done" "I", Cond.fieldLink RX4 123 "PageOwners$Hand" "everHadOne" "Z", Cond.fieldLink RX4 128 "PageOwners$Hand" "word" "I"]
def wsL_law_r16 : List Cond := [Cond.fieldLink RX4 131 "PageOwners$Hand" "isWrite" "Z", Cond.methodLink RL 43 yX5_at, Cond.instanceMethod yX5_at, Cond.selects RX5 yX5_at yX5_at, Cond.code yX5_at cX5_at 3 (some .int), Cond.methodLink RL 44 yX4_result, Cond.instanceMethod yX4_result, Cond.selects RX4 yX4_result yX4_result, Cond.code yX4_result cX4_result 2 (some .long), Cond.fieldLink RX4 134 "PageOwners$Hand" "result" "J", Cond.methodLink RL 48 yX5_result, Cond.instanceMethod yX5_result, Cond.selects RX5 yX5_result yX5_result, Cond.code yX5_result cX5_result 2 (some .long), Cond.methodLink RL 49 yX4_access, Cond.instanceMethod yX4_access, Cond.selects RX4 yX4_access yX4_access, Cond.code yX4_access cX4_access 3 (some .int), Cond.methodLink RL 52 yX5_access, Cond.instanceMethod yX5_access, Cond.selects RX5 yX5_access yX5_access, Cond.code yX5_access cX5_access 3 (some .int), Cond.methodLink RX5 135 yX5_isPlace, Cond.instanceMethod yX5_isPlace]
def wsL_law_r17 : List Cond := [Cond.selects RX5 yX5_isPlace yX5_isPlace, Cond.code yX5_isPlace cX5_isPlace 3 (some .boolean), Cond.methodLink RL 53 yX4_owner, Cond.instanceMethod yX4_owner, Cond.selects RX4 yX4_owner yX4_owner, Cond.code yX4_owner cX4_owner 3 (some .int), Cond.methodLink RL 56 yX5_owner, Cond.instanceMethod yX5_owner, Cond.selects RX5 yX5_owner yX5_owner, Cond.code yX5_owner cX5_owner 3 (some .int), Cond.methodLink RL 57 yX4_guess, Cond.instanceMethod yX4_guess, Cond.selects RX4 yX4_guess yX4_guess, Cond.code yX4_guess cX4_guess 3 (some .int), Cond.methodLink RL 60 yX5_guess, Cond.instanceMethod yX5_guess, Cond.selects RX5 yX5_guess yX5_guess, Cond.code yX5_guess cX5_guess 3 (some .int), Cond.methodLink RL 61 yX4_copies, Cond.instanceMethod yX4_copies, Cond.selects RX4 yX4_copies yX4_copies, Cond.code yX4_copies cX4_copies 3 (some .int), Cond.methodLink RL 64 yX5_copies, Cond.instanceMethod yX5_copies]
def wsL_law_r18 : List Cond := [Cond.selects RX5 yX5_copies yX5_copies, Cond.code yX5_copies cX5_copies 3 (some .int), Cond.methodLink RL 65 yX4_word, Cond.instanceMethod yX4_word, Cond.selects RX4 yX4_word yX4_word, Cond.code yX4_word cX4_word 4 (some .long), Cond.methodLink RL 69 yX5_word, Cond.instanceMethod yX5_word, Cond.selects RX5 yX5_word yX5_word, Cond.code yX5_word cX5_word 4 (some .long), Cond.methodLink RL 70 yX4_queue, Cond.instanceMethod yX4_queue, Cond.selects RX4 yX4_queue yX4_queue, Cond.code yX4_queue cX4_queue 3 (some .int), Cond.methodLink RL 73 yX5_queue, Cond.instanceMethod yX5_queue, Cond.selects RX5 yX5_queue yX5_queue, Cond.code yX5_queue cX5_queue 3 (some .int), Cond.methodLink RL 74 yX4_chain, Cond.instanceMethod yX4_chain, Cond.selects RX4 yX4_chain yX4_chain, Cond.code yX4_chain cX4_chain 5 (some .int), Cond.methodLink RX4 160 yX4_endsChain, Cond.static yX4_endsChain]
def wsL_law_r19 : List Cond := [Cond.code yX4_endsChain cX4_endsChain 2 (some .boolean), Cond.methodLink RL 77 yX5_chain, Cond.instanceMethod yX5_chain, Cond.selects RX5 yX5_chain yX5_chain, Cond.code yX5_chain cX5_chain 6 (some .int), Cond.methodLink RX5 139 yX5_owner, Cond.methodLink RL 78 yX4_flying, Cond.instanceMethod yX4_flying, Cond.selects RX4 yX4_flying yX4_flying, Cond.code yX4_flying cX4_flying 1 (some .int), Cond.methodLink RL 82 yX5_flying, Cond.instanceMethod yX5_flying, Cond.selects RX5 yX5_flying yX5_flying, Cond.code yX5_flying cX5_flying 1 (some .int), Cond.methodLink RL 83 yX4_letter, Cond.instanceMethod yX4_letter, Cond.selects RX4 yX4_letter yX4_letter, Cond.code yX4_letter cX4_letter 4 (some .int), Cond.fieldLink RX4 167 "PageOwners$Mail" "row" "[LPageOwners$Letter;", Cond.methodLink RL 86 yX5_letter, Cond.instanceMethod yX5_letter, Cond.selects RX5 yX5_letter yX5_letter, Cond.code yX5_letter cX5_letter 3 (some .int), Cond.methodLink RL 87 yX4_letterWord]
def wsL_law_r20 : List Cond := [Cond.instanceMethod yX4_letterWord, Cond.selects RX4 yX4_letterWord yX4_letterWord, Cond.code yX4_letterWord cX4_letterWord 4 (some .long), Cond.methodLink RL 91 yX5_letterWord, Cond.instanceMethod yX5_letterWord, Cond.selects RX5 yX5_letterWord yX5_letterWord, Cond.code yX5_letterWord cX5_letterWord 3 (some .long), Cond.methodLink RL 92 yX4_count, Cond.instanceMethod yX4_count, Cond.selects RX4 yX4_count yX4_count, Cond.code yX4_count cX4_count 2 (some .int), Cond.methodLink RL 95 yX5_count, Cond.instanceMethod yX5_count, Cond.selects RX5 yX5_count yX5_count, Cond.code yX5_count cX5_count 2 (some .int)]
def wsL_law : List Cond := (wsL_law_r1 ++ (wsL_law_r2 ++ (wsL_law_r3 ++ (wsL_law_r4 ++ (wsL_law_r5 ++ (wsL_law_r6 ++ (wsL_law_r7 ++ (wsL_law_r8 ++ (wsL_law_r9 ++ (wsL_law_r10 ++ (wsL_law_r11 ++ (wsL_law_r12 ++ (wsL_law_r13 ++ (wsL_law_r14 ++ (wsL_law_r15 ++ (wsL_law_r16 ++ (wsL_law_r17 ++ (wsL_law_r18 ++ (wsL_law_r19 ++ wsL_law_r20))))))))))))))))))) ++ wsX40 ++ wsX50 ++ wsX20 ++ wsX30 ++ wsX10 ++ wsX00 ++ ([] : List Cond)
abbrev vwCl : List vw_C := [(RX0, TX0, 10), (RX1, TX1, 7), (RX2, TX2, 2), (RX3, TX3, 10), (RX4, TX4, 4), (RX5, TX5, 25)]
end
section
set_option maxRecDepth 20000 in
theorem wsL_law_r1_in : ∀ w ∈ wsL_law_r1, w ∈ lw_tbl := List.forall_mem_cons.mpr ⟨List.mem_of_getElem? (i := 38) rfl, List.forall_mem_cons.mpr ⟨List.mem_of_getElem? (i := 39) rfl, List.forall_mem_cons.mpr ⟨List.mem_of_getElem? (i := 29) rfl, List.forall_mem_cons.mpr ⟨List.mem_of_getElem? (i := 418) rfl, List.forall_mem_cons.mpr ⟨List.mem_of_getElem? (i := 419) rfl, List.forall_mem_cons.mpr ⟨List.mem_of_getElem? (i := 36) rfl, List.forall_mem_cons.mpr ⟨List.mem_of_getElem? (i := 624) rfl, List.forall_mem_cons.mpr ⟨List.mem_of_getElem? (i := 40) rfl, List.forall_mem_cons.mpr ⟨List.mem_of_getElem? (i := 41) rfl, List.forall_mem_cons.mpr ⟨List.mem_of_getElem? (i := 42) rfl, List.forall_mem_cons.mpr ⟨List.mem_of_getElem? (i := 43) rfl, List.forall_mem_cons.mpr ⟨List.mem_of_getElem? (i := 44) rfl, List.forall_mem_cons.mpr ⟨List.mem_of_getElem? (i := 45) rfl, List.forall_mem_cons.mpr ⟨List.mem_of_getElem? (i := 46) rfl, List.forall_mem_cons.mpr ⟨List.mem_of_getElem? (i := 229) rfl, List.forall_mem_cons.mpr ⟨List.mem_of_getElem? (i := 48) rfl, List.forall_mem_cons.mpr ⟨List.mem_of_getElem? (i := 49) rfl, List.forall_mem_cons.mpr ⟨List.mem_of_getElem? (i := 30) rfl, List.forall_mem_cons.mpr ⟨List.mem_of_getElem? (i := 230) rfl, List.forall_mem_cons.mpr ⟨List.mem_of_getElem? (i := 158) rfl, List.forall_mem_cons.mpr ⟨List.mem_of_getElem? (i := 231) rfl, List.forall_mem_cons.mpr ⟨List.mem_of_getElem? (i := 100) rfl, List.forall_mem_cons.mpr ⟨List.mem_of_getElem? (i := 32) rfl, List.forall_mem_cons.mpr ⟨List.mem_of_getElem? (i := 50) rfl, fun _ h => absurd h List.not_mem_nil⟩⟩⟩⟩⟩⟩⟩⟩⟩⟩⟩⟩⟩⟩⟩⟩⟩⟩⟩⟩⟩⟩⟩⟩
set_option maxRecDepth 20000 in
theorem wsL_law_r2_in : ∀ w ∈ wsL_law_r2, w ∈ lw_tbl := List.forall_mem_cons.mpr ⟨List.mem_of_getElem? (i := 51) rfl, List.forall_mem_cons.mpr ⟨List.mem_of_getElem? (i := 52) rfl, List.forall_mem_cons.mpr ⟨List.mem_of_getElem? (i := 53) rfl, List.forall_mem_cons.mpr ⟨List.mem_of_getElem? (i := 54) rfl, List.forall_mem_cons.mpr ⟨List.mem_of_getElem? (i := 91) rfl, List.forall_mem_cons.mpr ⟨List.mem_of_getElem? (i := 56) rfl, List.forall_mem_cons.mpr ⟨List.mem_of_getElem? (i := 31) rfl, List.forall_mem_cons.mpr ⟨List.mem_of_getElem? (i := 58) rfl, List.forall_mem_cons.mpr ⟨List.mem_of_getElem? (i := 59) rfl, List.forall_mem_cons.mpr ⟨List.mem_of_getElem? (i := 60) rfl, List.forall_mem_cons.mpr ⟨List.mem_of_getElem? (i := 90) rfl, List.forall_mem_cons.mpr ⟨List.mem_of_getElem? (i := 73) rfl, List.forall_mem_cons.mpr ⟨List.mem_of_getElem? (i := 101) rfl, List.forall_mem_cons.mpr ⟨List.mem_of_getElem? (i := 102) rfl, List.forall_mem_cons.mpr ⟨List.mem_of_getElem? (i := 103) rfl, List.forall_mem_cons.mpr ⟨List.mem_of_getElem? (i := 104) rfl, List.forall_mem_cons.mpr ⟨List.mem_of_getElem? (i := 105) rfl, List.forall_mem_cons.mpr ⟨List.mem_of_getElem? (i := 106) rfl, List.forall_mem_cons.mpr ⟨List.mem_of_getElem? (i := 33) rfl, List.forall_mem_cons.mpr ⟨List.mem_of_getElem? (i := 161) rfl, List.forall_mem_cons.mpr ⟨List.mem_of_getElem? (i := 163) rfl, List.forall_mem_cons.mpr ⟨List.mem_of_getElem? (i := 200) rfl, List.forall_mem_cons.mpr ⟨List.mem_of_getElem? (i := 165) rfl, List.forall_mem_cons.mpr ⟨List.mem_of_getElem? (i := 167) rfl, fun _ h => absurd h List.not_mem_nil⟩⟩⟩⟩⟩⟩⟩⟩⟩⟩⟩⟩⟩⟩⟩⟩⟩⟩⟩⟩⟩⟩⟩⟩
set_option maxRecDepth 20000 in
theorem wsL_law_r3_in : ∀ w ∈ wsL_law_r3, w ∈ lw_tbl := List.forall_mem_cons.mpr ⟨List.mem_of_getElem? (i := 169) rfl, List.forall_mem_cons.mpr ⟨List.mem_of_getElem? (i := 171) rfl, List.forall_mem_cons.mpr ⟨List.mem_of_getElem? (i := 173) rfl, List.forall_mem_cons.mpr ⟨List.mem_of_getElem? (i := 175) rfl, List.forall_mem_cons.mpr ⟨List.mem_of_getElem? (i := 177) rfl, List.forall_mem_cons.mpr ⟨List.mem_of_getElem? (i := 159) rfl, List.forall_mem_cons.mpr ⟨List.mem_of_getElem? (i := 108) rfl, List.forall_mem_cons.mpr ⟨List.mem_of_getElem? (i := 109) rfl, List.forall_mem_cons.mpr ⟨List.mem_of_getElem? (i := 110) rfl, List.forall_mem_cons.mpr ⟨List.mem_of_getElem? (i := 201) rfl, List.forall_mem_cons.mpr ⟨List.mem_of_getElem? (i := 203) rfl, List.forall_mem_cons.mpr ⟨List.mem_of_getElem? (i := 0) rfl, List.forall_mem_cons.mpr ⟨List.mem_of_getElem? (i := 204) rfl, List.forall_mem_cons.mpr ⟨List.mem_of_getElem? (i := 232) rfl, List.forall_mem_cons.mpr ⟨List.mem_of_getElem? (i := 94) rfl, List.forall_mem_cons.mpr ⟨List.mem_of_getElem? (i := 205) rfl, List.forall_mem_cons.mpr ⟨List.mem_of_getElem? (i := 206) rfl, List.forall_mem_cons.mpr ⟨List.mem_of_getElem? (i := 207) rfl, List.forall_mem_cons.mpr ⟨List.mem_of_getElem? (i := 208) rfl, List.forall_mem_cons.mpr ⟨List.mem_of_getElem? (i := 220) rfl, List.forall_mem_cons.mpr ⟨List.mem_of_getElem? (i := 221) rfl, List.forall_mem_cons.mpr ⟨List.mem_of_getElem? (i := 35) rfl, List.forall_mem_cons.mpr ⟨List.mem_of_getElem? (i := 222) rfl, List.forall_mem_cons.mpr ⟨List.mem_of_getElem? (i := 209) rfl, fun _ h => absurd h List.not_mem_nil⟩⟩⟩⟩⟩⟩⟩⟩⟩⟩⟩⟩⟩⟩⟩⟩⟩⟩⟩⟩⟩⟩⟩⟩
set_option maxRecDepth 20000 in
theorem wsL_law_r4_in : ∀ w ∈ wsL_law_r4, w ∈ lw_tbl := List.forall_mem_cons.mpr ⟨List.mem_of_getElem? (i := 210) rfl, List.forall_mem_cons.mpr ⟨List.mem_of_getElem? (i := 211) rfl, List.forall_mem_cons.mpr ⟨List.mem_of_getElem? (i := 212) rfl, List.forall_mem_cons.mpr ⟨List.mem_of_getElem? (i := 111) rfl, List.forall_mem_cons.mpr ⟨List.mem_of_getElem? (i := 113) rfl, List.forall_mem_cons.mpr ⟨List.mem_of_getElem? (i := 131) rfl, List.forall_mem_cons.mpr ⟨List.mem_of_getElem? (i := 134) rfl, List.forall_mem_cons.mpr ⟨List.mem_of_getElem? (i := 213) rfl, List.forall_mem_cons.mpr ⟨List.mem_of_getElem? (i := 214) rfl, List.forall_mem_cons.mpr ⟨List.mem_of_getElem? (i := 215) rfl, List.forall_mem_cons.mpr ⟨List.mem_of_getElem? (i := 216) rfl, List.forall_mem_cons.mpr ⟨List.mem_of_getElem? (i := 116) rfl, List.forall_mem_cons.mpr ⟨List.mem_of_getElem? (i := 119) rfl, List.forall_mem_cons.mpr ⟨List.mem_of_getElem? (i := 122) rfl, List.forall_mem_cons.mpr ⟨List.mem_of_getElem? (i := 125) rfl, List.forall_mem_cons.mpr ⟨List.mem_of_getElem? (i := 127) rfl, List.forall_mem_cons.mpr ⟨List.mem_of_getElem? (i := 129) rfl, List.forall_mem_cons.mpr ⟨List.mem_of_getElem? (i := 217) rfl, List.forall_mem_cons.mpr ⟨List.mem_of_getElem? (i := 218) rfl, List.forall_mem_cons.mpr ⟨List.mem_of_getElem? (i := 34) rfl, List.forall_mem_cons.mpr ⟨List.mem_of_getElem? (i := 219) rfl, List.forall_mem_cons.mpr ⟨List.mem_of_getElem? (i := 223) rfl, List.forall_mem_cons.mpr ⟨List.mem_of_getElem? (i := 224) rfl, List.forall_mem_cons.mpr ⟨List.mem_of_getElem? (i := 35) rfl, fun _ h => absurd h List.not_mem_nil⟩⟩⟩⟩⟩⟩⟩⟩⟩⟩⟩⟩⟩⟩⟩⟩⟩⟩⟩⟩⟩⟩⟩⟩
set_option maxRecDepth 20000 in
theorem wsL_law_r5_in : ∀ w ∈ wsL_law_r5, w ∈ lw_tbl := List.forall_mem_cons.mpr ⟨List.mem_of_getElem? (i := 225) rfl, List.forall_mem_cons.mpr ⟨List.mem_of_getElem? (i := 226) rfl, List.forall_mem_cons.mpr ⟨List.mem_of_getElem? (i := 227) rfl, List.forall_mem_cons.mpr ⟨List.mem_of_getElem? (i := 228) rfl, List.forall_mem_cons.mpr ⟨List.mem_of_getElem? (i := 420) rfl, List.forall_mem_cons.mpr ⟨List.mem_of_getElem? (i := 421) rfl, List.forall_mem_cons.mpr ⟨List.mem_of_getElem? (i := 422) rfl, List.forall_mem_cons.mpr ⟨List.mem_of_getElem? (i := 423) rfl, List.forall_mem_cons.mpr ⟨List.mem_of_getElem? (i := 429) rfl, List.forall_mem_cons.mpr ⟨List.mem_of_getElem? (i := 430) rfl, List.forall_mem_cons.mpr ⟨List.mem_of_getElem? (i := 431) rfl, List.forall_mem_cons.mpr ⟨List.mem_of_getElem? (i := 432) rfl, List.forall_mem_cons.mpr ⟨List.mem_of_getElem? (i := 433) rfl, List.forall_mem_cons.mpr ⟨List.mem_of_getElem? (i := 434) rfl, List.forall_mem_cons.mpr ⟨List.mem_of_getElem? (i := 435) rfl, List.forall_mem_cons.mpr ⟨List.mem_of_getElem? (i := 436) rfl, List.forall_mem_cons.mpr ⟨List.mem_of_getElem? (i := 437) rfl, List.forall_mem_cons.mpr ⟨List.mem_of_getElem? (i := 438) rfl, List.forall_mem_cons.mpr ⟨List.mem_of_getElem? (i := 439) rfl, List.forall_mem_cons.mpr ⟨List.mem_of_getElem? (i := 440) rfl, List.forall_mem_cons.mpr ⟨List.mem_of_getElem? (i := 441) rfl, List.forall_mem_cons.mpr ⟨List.mem_of_getElem? (i := 442) rfl, List.forall_mem_cons.mpr ⟨List.mem_of_getElem? (i := 443) rfl, List.forall_mem_cons.mpr ⟨List.mem_of_getElem? (i := 444) rfl, fun _ h => absurd h List.not_mem_nil⟩⟩⟩⟩⟩⟩⟩⟩⟩⟩⟩⟩⟩⟩⟩⟩⟩⟩⟩⟩⟩⟩⟩⟩
set_option maxRecDepth 20000 in
theorem wsL_law_r6_in : ∀ w ∈ wsL_law_r6, w ∈ lw_tbl := List.forall_mem_cons.mpr ⟨List.mem_of_getElem? (i := 445) rfl, List.forall_mem_cons.mpr ⟨List.mem_of_getElem? (i := 446) rfl, List.forall_mem_cons.mpr ⟨List.mem_of_getElem? (i := 447) rfl, List.forall_mem_cons.mpr ⟨List.mem_of_getElem? (i := 449) rfl, List.forall_mem_cons.mpr ⟨List.mem_of_getElem? (i := 450) rfl, List.forall_mem_cons.mpr ⟨List.mem_of_getElem? (i := 451) rfl, List.forall_mem_cons.mpr ⟨List.mem_of_getElem? (i := 452) rfl, List.forall_mem_cons.mpr ⟨List.mem_of_getElem? (i := 424) rfl, List.forall_mem_cons.mpr ⟨List.mem_of_getElem? (i := 425) rfl, List.forall_mem_cons.mpr ⟨List.mem_of_getElem? (i := 426) rfl, List.forall_mem_cons.mpr ⟨List.mem_of_getElem? (i := 427) rfl, List.forall_mem_cons.mpr ⟨List.mem_of_getElem? (i := 428) rfl, List.forall_mem_cons.mpr ⟨List.mem_of_getElem? (i := 448) rfl, List.forall_mem_cons.mpr ⟨List.mem_of_getElem? (i := 242) rfl, List.forall_mem_cons.mpr ⟨List.mem_of_getElem? (i := 243) rfl, List.forall_mem_cons.mpr ⟨List.mem_of_getElem? (i := 244) rfl, List.forall_mem_cons.mpr ⟨List.mem_of_getElem? (i := 245) rfl, List.forall_mem_cons.mpr ⟨List.mem_of_getElem? (i := 504) rfl, List.forall_mem_cons.mpr ⟨List.mem_of_getElem? (i := 246) rfl, List.forall_mem_cons.mpr ⟨List.mem_of_getElem? (i := 247) rfl, List.forall_mem_cons.mpr ⟨List.mem_of_getElem? (i := 248) rfl, List.forall_mem_cons.mpr ⟨List.mem_of_getElem? (i := 249) rfl, List.forall_mem_cons.mpr ⟨List.mem_of_getElem? (i := 162) rfl, List.forall_mem_cons.mpr ⟨List.mem_of_getElem? (i := 164) rfl, fun _ h => absurd h List.not_mem_nil⟩⟩⟩⟩⟩⟩⟩⟩⟩⟩⟩⟩⟩⟩⟩⟩⟩⟩⟩⟩⟩⟩⟩⟩
set_option maxRecDepth 20000 in
theorem wsL_law_r7_in : ∀ w ∈ wsL_law_r7, w ∈ lw_tbl := List.forall_mem_cons.mpr ⟨List.mem_of_getElem? (i := 250) rfl, List.forall_mem_cons.mpr ⟨List.mem_of_getElem? (i := 252) rfl, List.forall_mem_cons.mpr ⟨List.mem_of_getElem? (i := 1) rfl, List.forall_mem_cons.mpr ⟨List.mem_of_getElem? (i := 253) rfl, List.forall_mem_cons.mpr ⟨List.mem_of_getElem? (i := 115) rfl, List.forall_mem_cons.mpr ⟨List.mem_of_getElem? (i := 254) rfl, List.forall_mem_cons.mpr ⟨List.mem_of_getElem? (i := 256) rfl, List.forall_mem_cons.mpr ⟨List.mem_of_getElem? (i := 2) rfl, List.forall_mem_cons.mpr ⟨List.mem_of_getElem? (i := 257) rfl, List.forall_mem_cons.mpr ⟨List.mem_of_getElem? (i := 258) rfl, List.forall_mem_cons.mpr ⟨List.mem_of_getElem? (i := 259) rfl, List.forall_mem_cons.mpr ⟨List.mem_of_getElem? (i := 260) rfl, List.forall_mem_cons.mpr ⟨List.mem_of_getElem? (i := 261) rfl, List.forall_mem_cons.mpr ⟨List.mem_of_getElem? (i := 262) rfl, List.forall_mem_cons.mpr ⟨List.mem_of_getElem? (i := 263) rfl, List.forall_mem_cons.mpr ⟨List.mem_of_getElem? (i := 264) rfl, List.forall_mem_cons.mpr ⟨List.mem_of_getElem? (i := 265) rfl, List.forall_mem_cons.mpr ⟨List.mem_of_getElem? (i := 267) rfl, List.forall_mem_cons.mpr ⟨List.mem_of_getElem? (i := 3) rfl, List.forall_mem_cons.mpr ⟨List.mem_of_getElem? (i := 268) rfl, List.forall_mem_cons.mpr ⟨List.mem_of_getElem? (i := 118) rfl, List.forall_mem_cons.mpr ⟨List.mem_of_getElem? (i := 160) rfl, List.forall_mem_cons.mpr ⟨List.mem_of_getElem? (i := 168) rfl, List.forall_mem_cons.mpr ⟨List.mem_of_getElem? (i := 70) rfl, fun _ h => absurd h List.not_mem_nil⟩⟩⟩⟩⟩⟩⟩⟩⟩⟩⟩⟩⟩⟩⟩⟩⟩⟩⟩⟩⟩⟩⟩⟩
set_option maxRecDepth 20000 in
theorem wsL_law_r8_in : ∀ w ∈ wsL_law_r8, w ∈ lw_tbl := List.forall_mem_cons.mpr ⟨List.mem_of_getElem? (i := 269) rfl, List.forall_mem_cons.mpr ⟨List.mem_of_getElem? (i := 271) rfl, List.forall_mem_cons.mpr ⟨List.mem_of_getElem? (i := 4) rfl, List.forall_mem_cons.mpr ⟨List.mem_of_getElem? (i := 272) rfl, List.forall_mem_cons.mpr ⟨List.mem_of_getElem? (i := 273) rfl, List.forall_mem_cons.mpr ⟨List.mem_of_getElem? (i := 274) rfl, List.forall_mem_cons.mpr ⟨List.mem_of_getElem? (i := 275) rfl, List.forall_mem_cons.mpr ⟨List.mem_of_getElem? (i := 276) rfl, List.forall_mem_cons.mpr ⟨List.mem_of_getElem? (i := 93) rfl, List.forall_mem_cons.mpr ⟨List.mem_of_getElem? (i := 277) rfl, List.forall_mem_cons.mpr ⟨List.mem_of_getElem? (i := 278) rfl, List.forall_mem_cons.mpr ⟨List.mem_of_getElem? (i := 279) rfl, List.forall_mem_cons.mpr ⟨List.mem_of_getElem? (i := 61) rfl, List.forall_mem_cons.mpr ⟨List.mem_of_getElem? (i := 63) rfl, List.forall_mem_cons.mpr ⟨List.mem_of_getElem? (i := 65) rfl, List.forall_mem_cons.mpr ⟨List.mem_of_getElem? (i := 67) rfl, List.forall_mem_cons.mpr ⟨List.mem_of_getElem? (i := 69) rfl, List.forall_mem_cons.mpr ⟨List.mem_of_getElem? (i := 71) rfl, List.forall_mem_cons.mpr ⟨List.mem_of_getElem? (i := 280) rfl, List.forall_mem_cons.mpr ⟨List.mem_of_getElem? (i := 282) rfl, List.forall_mem_cons.mpr ⟨List.mem_of_getElem? (i := 5) rfl, List.forall_mem_cons.mpr ⟨List.mem_of_getElem? (i := 283) rfl, List.forall_mem_cons.mpr ⟨List.mem_of_getElem? (i := 284) rfl, List.forall_mem_cons.mpr ⟨List.mem_of_getElem? (i := 285) rfl, fun _ h => absurd h List.not_mem_nil⟩⟩⟩⟩⟩⟩⟩⟩⟩⟩⟩⟩⟩⟩⟩⟩⟩⟩⟩⟩⟩⟩⟩⟩
set_option maxRecDepth 20000 in
theorem wsL_law_r9_in : ∀ w ∈ wsL_law_r9, w ∈ lw_tbl := List.forall_mem_cons.mpr ⟨List.mem_of_getElem? (i := 286) rfl, List.forall_mem_cons.mpr ⟨List.mem_of_getElem? (i := 287) rfl, List.forall_mem_cons.mpr ⟨List.mem_of_getElem? (i := 117) rfl, List.forall_mem_cons.mpr ⟨List.mem_of_getElem? (i := 120) rfl, List.forall_mem_cons.mpr ⟨List.mem_of_getElem? (i := 123) rfl, List.forall_mem_cons.mpr ⟨List.mem_of_getElem? (i := 126) rfl, List.forall_mem_cons.mpr ⟨List.mem_of_getElem? (i := 135) rfl, List.forall_mem_cons.mpr ⟨List.mem_of_getElem? (i := 114) rfl, List.forall_mem_cons.mpr ⟨List.mem_of_getElem? (i := 132) rfl, List.forall_mem_cons.mpr ⟨List.mem_of_getElem? (i := 288) rfl, List.forall_mem_cons.mpr ⟨List.mem_of_getElem? (i := 290) rfl, List.forall_mem_cons.mpr ⟨List.mem_of_getElem? (i := 6) rfl, List.forall_mem_cons.mpr ⟨List.mem_of_getElem? (i := 291) rfl, List.forall_mem_cons.mpr ⟨List.mem_of_getElem? (i := 505) rfl, List.forall_mem_cons.mpr ⟨List.mem_of_getElem? (i := 506) rfl, List.forall_mem_cons.mpr ⟨List.mem_of_getElem? (i := 507) rfl, List.forall_mem_cons.mpr ⟨List.mem_of_getElem? (i := 508) rfl, List.forall_mem_cons.mpr ⟨List.mem_of_getElem? (i := 509) rfl, List.forall_mem_cons.mpr ⟨List.mem_of_getElem? (i := 511) rfl, List.forall_mem_cons.mpr ⟨List.mem_of_getElem? (i := 17) rfl, List.forall_mem_cons.mpr ⟨List.mem_of_getElem? (i := 512) rfl, List.forall_mem_cons.mpr ⟨List.mem_of_getElem? (i := 513) rfl, List.forall_mem_cons.mpr ⟨List.mem_of_getElem? (i := 515) rfl, List.forall_mem_cons.mpr ⟨List.mem_of_getElem? (i := 18) rfl, fun _ h => absurd h List.not_mem_nil⟩⟩⟩⟩⟩⟩⟩⟩⟩⟩⟩⟩⟩⟩⟩⟩⟩⟩⟩⟩⟩⟩⟩⟩
set_option maxRecDepth 20000 in
theorem wsL_law_r10_in : ∀ w ∈ wsL_law_r10, w ∈ lw_tbl := List.forall_mem_cons.mpr ⟨List.mem_of_getElem? (i := 516) rfl, List.forall_mem_cons.mpr ⟨List.mem_of_getElem? (i := 517) rfl, List.forall_mem_cons.mpr ⟨List.mem_of_getElem? (i := 518) rfl, List.forall_mem_cons.mpr ⟨List.mem_of_getElem? (i := 519) rfl, List.forall_mem_cons.mpr ⟨List.mem_of_getElem? (i := 520) rfl, List.forall_mem_cons.mpr ⟨List.mem_of_getElem? (i := 522) rfl, List.forall_mem_cons.mpr ⟨List.mem_of_getElem? (i := 19) rfl, List.forall_mem_cons.mpr ⟨List.mem_of_getElem? (i := 523) rfl, List.forall_mem_cons.mpr ⟨List.mem_of_getElem? (i := 524) rfl, List.forall_mem_cons.mpr ⟨List.mem_of_getElem? (i := 525) rfl, List.forall_mem_cons.mpr ⟨List.mem_of_getElem? (i := 526) rfl, List.forall_mem_cons.mpr ⟨List.mem_of_getElem? (i := 527) rfl, List.forall_mem_cons.mpr ⟨List.mem_of_getElem? (i := 529) rfl, List.forall_mem_cons.mpr ⟨List.mem_of_getElem? (i := 20) rfl, List.forall_mem_cons.mpr ⟨List.mem_of_getElem? (i := 530) rfl, List.forall_mem_cons.mpr ⟨List.mem_of_getElem? (i := 531) rfl, List.forall_mem_cons.mpr ⟨List.mem_of_getElem? (i := 533) rfl, List.forall_mem_cons.mpr ⟨List.mem_of_getElem? (i := 21) rfl, List.forall_mem_cons.mpr ⟨List.mem_of_getElem? (i := 534) rfl, List.forall_mem_cons.mpr ⟨List.mem_of_getElem? (i := 535) rfl, List.forall_mem_cons.mpr ⟨List.mem_of_getElem? (i := 537) rfl, List.forall_mem_cons.mpr ⟨List.mem_of_getElem? (i := 22) rfl, List.forall_mem_cons.mpr ⟨List.mem_of_getElem? (i := 538) rfl, List.forall_mem_cons.mpr ⟨List.mem_of_getElem? (i := 292) rfl, fun _ h => absurd h List.not_mem_nil⟩⟩⟩⟩⟩⟩⟩⟩⟩⟩⟩⟩⟩⟩⟩⟩⟩⟩⟩⟩⟩⟩⟩⟩
set_option maxRecDepth 20000 in
theorem wsL_law_r11_in : ∀ w ∈ wsL_law_r11, w ∈ lw_tbl := List.forall_mem_cons.mpr ⟨List.mem_of_getElem? (i := 293) rfl, List.forall_mem_cons.mpr ⟨List.mem_of_getElem? (i := 294) rfl, List.forall_mem_cons.mpr ⟨List.mem_of_getElem? (i := 295) rfl, List.forall_mem_cons.mpr ⟨List.mem_of_getElem? (i := 166) rfl, List.forall_mem_cons.mpr ⟨List.mem_of_getElem? (i := 296) rfl, List.forall_mem_cons.mpr ⟨List.mem_of_getElem? (i := 298) rfl, List.forall_mem_cons.mpr ⟨List.mem_of_getElem? (i := 7) rfl, List.forall_mem_cons.mpr ⟨List.mem_of_getElem? (i := 299) rfl, List.forall_mem_cons.mpr ⟨List.mem_of_getElem? (i := 170) rfl, List.forall_mem_cons.mpr ⟨List.mem_of_getElem? (i := 128) rfl, List.forall_mem_cons.mpr ⟨List.mem_of_getElem? (i := 300) rfl, List.forall_mem_cons.mpr ⟨List.mem_of_getElem? (i := 302) rfl, List.forall_mem_cons.mpr ⟨List.mem_of_getElem? (i := 8) rfl, List.forall_mem_cons.mpr ⟨List.mem_of_getElem? (i := 303) rfl, List.forall_mem_cons.mpr ⟨List.mem_of_getElem? (i := 304) rfl, List.forall_mem_cons.mpr ⟨List.mem_of_getElem? (i := 306) rfl, List.forall_mem_cons.mpr ⟨List.mem_of_getElem? (i := 9) rfl, List.forall_mem_cons.mpr ⟨List.mem_of_getElem? (i := 307) rfl, List.forall_mem_cons.mpr ⟨List.mem_of_getElem? (i := 174) rfl, List.forall_mem_cons.mpr ⟨List.mem_of_getElem? (i := 176) rfl, List.forall_mem_cons.mpr ⟨List.mem_of_getElem? (i := 178) rfl, List.forall_mem_cons.mpr ⟨List.mem_of_getElem? (i := 308) rfl, List.forall_mem_cons.mpr ⟨List.mem_of_getElem? (i := 310) rfl, List.forall_mem_cons.mpr ⟨List.mem_of_getElem? (i := 10) rfl, fun _ h => absurd h List.not_mem_nil⟩⟩⟩⟩⟩⟩⟩⟩⟩⟩⟩⟩⟩⟩⟩⟩⟩⟩⟩⟩⟩⟩⟩⟩
set_option maxRecDepth 20000 in
theorem wsL_law_r12_in : ∀ w ∈ wsL_law_r12, w ∈ lw_tbl := List.forall_mem_cons.mpr ⟨List.mem_of_getElem? (i := 311) rfl, List.forall_mem_cons.mpr ⟨List.mem_of_getElem? (i := 312) rfl, List.forall_mem_cons.mpr ⟨List.mem_of_getElem? (i := 313) rfl, List.forall_mem_cons.mpr ⟨List.mem_of_getElem? (i := 314) rfl, List.forall_mem_cons.mpr ⟨List.mem_of_getElem? (i := 315) rfl, List.forall_mem_cons.mpr ⟨List.mem_of_getElem? (i := 316) rfl, List.forall_mem_cons.mpr ⟨List.mem_of_getElem? (i := 317) rfl, List.forall_mem_cons.mpr ⟨List.mem_of_getElem? (i := 318) rfl, List.forall_mem_cons.mpr ⟨List.mem_of_getElem? (i := 319) rfl, List.forall_mem_cons.mpr ⟨List.mem_of_getElem? (i := 320) rfl, List.forall_mem_cons.mpr ⟨List.mem_of_getElem? (i := 322) rfl, List.forall_mem_cons.mpr ⟨List.mem_of_getElem? (i := 11) rfl, List.forall_mem_cons.mpr ⟨List.mem_of_getElem? (i := 323) rfl, List.forall_mem_cons.mpr ⟨List.mem_of_getElem? (i := 324) rfl, List.forall_mem_cons.mpr ⟨List.mem_of_getElem? (i := 326) rfl, List.forall_mem_cons.mpr ⟨List.mem_of_getElem? (i := 12) rfl, List.forall_mem_cons.mpr ⟨List.mem_of_getElem? (i := 327) rfl, List.forall_mem_cons.mpr ⟨List.mem_of_getElem? (i := 172) rfl, List.forall_mem_cons.mpr ⟨List.mem_of_getElem? (i := 74) rfl, List.forall_mem_cons.mpr ⟨List.mem_of_getElem? (i := 328) rfl, List.forall_mem_cons.mpr ⟨List.mem_of_getElem? (i := 330) rfl, List.forall_mem_cons.mpr ⟨List.mem_of_getElem? (i := 329) rfl, List.forall_mem_cons.mpr ⟨List.mem_of_getElem? (i := 37) rfl, List.forall_mem_cons.mpr ⟨List.mem_of_getElem? (i := 331) rfl, fun _ h => absurd h List.not_mem_nil⟩⟩⟩⟩⟩⟩⟩⟩⟩⟩⟩⟩⟩⟩⟩⟩⟩⟩⟩⟩⟩⟩⟩⟩
set_option maxRecDepth 20000 in
theorem wsL_law_r13_in : ∀ w ∈ wsL_law_r13, w ∈ lw_tbl := List.forall_mem_cons.mpr ⟨List.mem_of_getElem? (i := 333) rfl, List.forall_mem_cons.mpr ⟨List.mem_of_getElem? (i := 13) rfl, List.forall_mem_cons.mpr ⟨List.mem_of_getElem? (i := 334) rfl, List.forall_mem_cons.mpr ⟨List.mem_of_getElem? (i := 72) rfl, List.forall_mem_cons.mpr ⟨List.mem_of_getElem? (i := 539) rfl, List.forall_mem_cons.mpr ⟨List.mem_of_getElem? (i := 540) rfl, List.forall_mem_cons.mpr ⟨List.mem_of_getElem? (i := 541) rfl, List.forall_mem_cons.mpr ⟨List.mem_of_getElem? (i := 542) rfl, List.forall_mem_cons.mpr ⟨List.mem_of_getElem? (i := 335) rfl, List.forall_mem_cons.mpr ⟨List.mem_of_getElem? (i := 336) rfl, List.forall_mem_cons.mpr ⟨List.mem_of_getElem? (i := 337) rfl, List.forall_mem_cons.mpr ⟨List.mem_of_getElem? (i := 338) rfl, List.forall_mem_cons.mpr ⟨List.mem_of_getElem? (i := 66) rfl, List.forall_mem_cons.mpr ⟨List.mem_of_getElem? (i := 62) rfl, List.forall_mem_cons.mpr ⟨List.mem_of_getElem? (i := 68) rfl, List.forall_mem_cons.mpr ⟨List.mem_of_getElem? (i := 64) rfl, List.forall_mem_cons.mpr ⟨List.mem_of_getElem? (i := 339) rfl, List.forall_mem_cons.mpr ⟨List.mem_of_getElem? (i := 340) rfl, List.forall_mem_cons.mpr ⟨List.mem_of_getElem? (i := 341) rfl, List.forall_mem_cons.mpr ⟨List.mem_of_getElem? (i := 342) rfl, List.forall_mem_cons.mpr ⟨List.mem_of_getElem? (i := 343) rfl, List.forall_mem_cons.mpr ⟨List.mem_of_getElem? (i := 344) rfl, List.forall_mem_cons.mpr ⟨List.mem_of_getElem? (i := 345) rfl, List.forall_mem_cons.mpr ⟨List.mem_of_getElem? (i := 346) rfl, fun _ h => absurd h List.not_mem_nil⟩⟩⟩⟩⟩⟩⟩⟩⟩⟩⟩⟩⟩⟩⟩⟩⟩⟩⟩⟩⟩⟩⟩⟩
set_option maxRecDepth 20000 in
theorem wsL_law_r14_in : ∀ w ∈ wsL_law_r14, w ∈ lw_tbl := List.forall_mem_cons.mpr ⟨List.mem_of_getElem? (i := 347) rfl, List.forall_mem_cons.mpr ⟨List.mem_of_getElem? (i := 349) rfl, List.forall_mem_cons.mpr ⟨List.mem_of_getElem? (i := 14) rfl, List.forall_mem_cons.mpr ⟨List.mem_of_getElem? (i := 350) rfl, List.forall_mem_cons.mpr ⟨List.mem_of_getElem? (i := 130) rfl, List.forall_mem_cons.mpr ⟨List.mem_of_getElem? (i := 351) rfl, List.forall_mem_cons.mpr ⟨List.mem_of_getElem? (i := 353) rfl, List.forall_mem_cons.mpr ⟨List.mem_of_getElem? (i := 15) rfl, List.forall_mem_cons.mpr ⟨List.mem_of_getElem? (i := 354) rfl, List.forall_mem_cons.mpr ⟨List.mem_of_getElem? (i := 355) rfl, List.forall_mem_cons.mpr ⟨List.mem_of_getElem? (i := 357) rfl, List.forall_mem_cons.mpr ⟨List.mem_of_getElem? (i := 16) rfl, List.forall_mem_cons.mpr ⟨List.mem_of_getElem? (i := 358) rfl, List.forall_mem_cons.mpr ⟨List.mem_of_getElem? (i := 543) rfl, List.forall_mem_cons.mpr ⟨List.mem_of_getElem? (i := 544) rfl, List.forall_mem_cons.mpr ⟨List.mem_of_getElem? (i := 545) rfl, List.forall_mem_cons.mpr ⟨List.mem_of_getElem? (i := 546) rfl, List.forall_mem_cons.mpr ⟨List.mem_of_getElem? (i := 547) rfl, List.forall_mem_cons.mpr ⟨List.mem_of_getElem? (i := 549) rfl, List.forall_mem_cons.mpr ⟨List.mem_of_getElem? (i := 23) rfl, List.forall_mem_cons.mpr ⟨List.mem_of_getElem? (i := 550) rfl, List.forall_mem_cons.mpr ⟨List.mem_of_getElem? (i := 551) rfl, List.forall_mem_cons.mpr ⟨List.mem_of_getElem? (i := 553) rfl, List.forall_mem_cons.mpr ⟨List.mem_of_getElem? (i := 24) rfl, fun _ h => absurd h List.not_mem_nil⟩⟩⟩⟩⟩⟩⟩⟩⟩⟩⟩⟩⟩⟩⟩⟩⟩⟩⟩⟩⟩⟩⟩⟩
set_option maxRecDepth 20000 in
theorem wsL_law_r15_in : ∀ w ∈ wsL_law_r15, w ∈ lw_tbl := List.forall_mem_cons.mpr ⟨List.mem_of_getElem? (i := 554) rfl, List.forall_mem_cons.mpr ⟨List.mem_of_getElem? (i := 555) rfl, List.forall_mem_cons.mpr ⟨List.mem_of_getElem? (i := 557) rfl, List.forall_mem_cons.mpr ⟨List.mem_of_getElem? (i := 25) rfl, List.forall_mem_cons.mpr ⟨List.mem_of_getElem? (i := 558) rfl, List.forall_mem_cons.mpr ⟨List.mem_of_getElem? (i := 559) rfl, List.forall_mem_cons.mpr ⟨List.mem_of_getElem? (i := 561) rfl, List.forall_mem_cons.mpr ⟨List.mem_of_getElem? (i := 26) rfl, List.forall_mem_cons.mpr ⟨List.mem_of_getElem? (i := 562) rfl, List.forall_mem_cons.mpr ⟨List.mem_of_getElem? (i := 359) rfl, List.forall_mem_cons.mpr ⟨List.mem_of_getElem? (i := 360) rfl, List.forall_mem_cons.mpr ⟨List.mem_of_getElem? (i := 361) rfl, List.forall_mem_cons.mpr ⟨List.mem_of_getElem? (i := 362) rfl, List.forall_mem_cons.mpr ⟨List.mem_of_getElem? (i := 563) rfl, List.forall_mem_cons.mpr ⟨List.mem_of_getElem? (i := 564) rfl, List.forall_mem_cons.mpr ⟨List.mem_of_getElem? (i := 565) rfl, List.forall_mem_cons.mpr ⟨List.mem_of_getElem? (i := 566) rfl, List.forall_mem_cons.mpr ⟨List.mem_of_getElem? (i := 363) rfl, List.forall_mem_cons.mpr ⟨List.mem_of_getElem? (i := 364) rfl, List.forall_mem_cons.mpr ⟨List.mem_of_getElem? (i := 365) rfl, List.forall_mem_cons.mpr ⟨List.mem_of_getElem? (i := 366) rfl, List.forall_mem_cons.mpr ⟨List.mem_of_getElem? (i := 133) rfl, List.forall_mem_cons.mpr ⟨List.mem_of_getElem? (i := 112) rfl, List.forall_mem_cons.mpr ⟨List.mem_of_getElem? (i := 121) rfl, fun _ h => absurd h List.not_mem_nil⟩⟩⟩⟩⟩⟩⟩⟩⟩⟩⟩⟩⟩⟩⟩⟩⟩⟩⟩⟩⟩⟩⟩⟩
set_option maxRecDepth 20000 in
theorem wsL_law_r16_in : ∀ w ∈ wsL_law_r16, w ∈ lw_tbl := List.forall_mem_cons.mpr ⟨List.mem_of_getElem? (i := 124) rfl, List.forall_mem_cons.mpr ⟨List.mem_of_getElem? (i := 567) rfl, List.forall_mem_cons.mpr ⟨List.mem_of_getElem? (i := 568) rfl, List.forall_mem_cons.mpr ⟨List.mem_of_getElem? (i := 569) rfl, List.forall_mem_cons.mpr ⟨List.mem_of_getElem? (i := 570) rfl, List.forall_mem_cons.mpr ⟨List.mem_of_getElem? (i := 367) rfl, List.forall_mem_cons.mpr ⟨List.mem_of_getElem? (i := 368) rfl, List.forall_mem_cons.mpr ⟨List.mem_of_getElem? (i := 369) rfl, List.forall_mem_cons.mpr ⟨List.mem_of_getElem? (i := 370) rfl, List.forall_mem_cons.mpr ⟨List.mem_of_getElem? (i := 136) rfl, List.forall_mem_cons.mpr ⟨List.mem_of_getElem? (i := 571) rfl, List.forall_mem_cons.mpr ⟨List.mem_of_getElem? (i := 572) rfl, List.forall_mem_cons.mpr ⟨List.mem_of_getElem? (i := 573) rfl, List.forall_mem_cons.mpr ⟨List.mem_of_getElem? (i := 574) rfl, List.forall_mem_cons.mpr ⟨List.mem_of_getElem? (i := 371) rfl, List.forall_mem_cons.mpr ⟨List.mem_of_getElem? (i := 372) rfl, List.forall_mem_cons.mpr ⟨List.mem_of_getElem? (i := 373) rfl, List.forall_mem_cons.mpr ⟨List.mem_of_getElem? (i := 374) rfl, List.forall_mem_cons.mpr ⟨List.mem_of_getElem? (i := 575) rfl, List.forall_mem_cons.mpr ⟨List.mem_of_getElem? (i := 576) rfl, List.forall_mem_cons.mpr ⟨List.mem_of_getElem? (i := 577) rfl, List.forall_mem_cons.mpr ⟨List.mem_of_getElem? (i := 578) rfl, List.forall_mem_cons.mpr ⟨List.mem_of_getElem? (i := 579) rfl, List.forall_mem_cons.mpr ⟨List.mem_of_getElem? (i := 581) rfl, fun _ h => absurd h List.not_mem_nil⟩⟩⟩⟩⟩⟩⟩⟩⟩⟩⟩⟩⟩⟩⟩⟩⟩⟩⟩⟩⟩⟩⟩⟩
set_option maxRecDepth 20000 in
theorem wsL_law_r17_in : ∀ w ∈ wsL_law_r17, w ∈ lw_tbl := List.forall_mem_cons.mpr ⟨List.mem_of_getElem? (i := 27) rfl, List.forall_mem_cons.mpr ⟨List.mem_of_getElem? (i := 582) rfl, List.forall_mem_cons.mpr ⟨List.mem_of_getElem? (i := 375) rfl, List.forall_mem_cons.mpr ⟨List.mem_of_getElem? (i := 376) rfl, List.forall_mem_cons.mpr ⟨List.mem_of_getElem? (i := 377) rfl, List.forall_mem_cons.mpr ⟨List.mem_of_getElem? (i := 378) rfl, List.forall_mem_cons.mpr ⟨List.mem_of_getElem? (i := 583) rfl, List.forall_mem_cons.mpr ⟨List.mem_of_getElem? (i := 584) rfl, List.forall_mem_cons.mpr ⟨List.mem_of_getElem? (i := 585) rfl, List.forall_mem_cons.mpr ⟨List.mem_of_getElem? (i := 586) rfl, List.forall_mem_cons.mpr ⟨List.mem_of_getElem? (i := 379) rfl, List.forall_mem_cons.mpr ⟨List.mem_of_getElem? (i := 380) rfl, List.forall_mem_cons.mpr ⟨List.mem_of_getElem? (i := 381) rfl, List.forall_mem_cons.mpr ⟨List.mem_of_getElem? (i := 382) rfl, List.forall_mem_cons.mpr ⟨List.mem_of_getElem? (i := 587) rfl, List.forall_mem_cons.mpr ⟨List.mem_of_getElem? (i := 588) rfl, List.forall_mem_cons.mpr ⟨List.mem_of_getElem? (i := 589) rfl, List.forall_mem_cons.mpr ⟨List.mem_of_getElem? (i := 590) rfl, List.forall_mem_cons.mpr ⟨List.mem_of_getElem? (i := 383) rfl, List.forall_mem_cons.mpr ⟨List.mem_of_getElem? (i := 384) rfl, List.forall_mem_cons.mpr ⟨List.mem_of_getElem? (i := 385) rfl, List.forall_mem_cons.mpr ⟨List.mem_of_getElem? (i := 386) rfl, List.forall_mem_cons.mpr ⟨List.mem_of_getElem? (i := 591) rfl, List.forall_mem_cons.mpr ⟨List.mem_of_getElem? (i := 592) rfl, fun _ h => absurd h List.not_mem_nil⟩⟩⟩⟩⟩⟩⟩⟩⟩⟩⟩⟩⟩⟩⟩⟩⟩⟩⟩⟩⟩⟩⟩⟩
set_option maxRecDepth 20000 in
theorem wsL_law_r18_in : ∀ w ∈ wsL_law_r18, w ∈ lw_tbl := List.forall_mem_cons.mpr ⟨List.mem_of_getElem? (i := 593) rfl, List.forall_mem_cons.mpr ⟨List.mem_of_getElem? (i := 594) rfl, List.forall_mem_cons.mpr ⟨List.mem_of_getElem? (i := 387) rfl, List.forall_mem_cons.mpr ⟨List.mem_of_getElem? (i := 388) rfl, List.forall_mem_cons.mpr ⟨List.mem_of_getElem? (i := 389) rfl, List.forall_mem_cons.mpr ⟨List.mem_of_getElem? (i := 390) rfl, List.forall_mem_cons.mpr ⟨List.mem_of_getElem? (i := 595) rfl, List.forall_mem_cons.mpr ⟨List.mem_of_getElem? (i := 596) rfl, List.forall_mem_cons.mpr ⟨List.mem_of_getElem? (i := 597) rfl, List.forall_mem_cons.mpr ⟨List.mem_of_getElem? (i := 598) rfl, List.forall_mem_cons.mpr ⟨List.mem_of_getElem? (i := 391) rfl, List.forall_mem_cons.mpr ⟨List.mem_of_getElem? (i := 392) rfl, List.forall_mem_cons.mpr ⟨List.mem_of_getElem? (i := 393) rfl, List.forall_mem_cons.mpr ⟨List.mem_of_getElem? (i := 394) rfl, List.forall_mem_cons.mpr ⟨List.mem_of_getElem? (i := 599) rfl, List.forall_mem_cons.mpr ⟨List.mem_of_getElem? (i := 600) rfl, List.forall_mem_cons.mpr ⟨List.mem_of_getElem? (i := 601) rfl, List.forall_mem_cons.mpr ⟨List.mem_of_getElem? (i := 602) rfl, List.forall_mem_cons.mpr ⟨List.mem_of_getElem? (i := 395) rfl, List.forall_mem_cons.mpr ⟨List.mem_of_getElem? (i := 396) rfl, List.forall_mem_cons.mpr ⟨List.mem_of_getElem? (i := 397) rfl, List.forall_mem_cons.mpr ⟨List.mem_of_getElem? (i := 398) rfl, List.forall_mem_cons.mpr ⟨List.mem_of_getElem? (i := 399) rfl, List.forall_mem_cons.mpr ⟨List.mem_of_getElem? (i := 400) rfl, fun _ h => absurd h List.not_mem_nil⟩⟩⟩⟩⟩⟩⟩⟩⟩⟩⟩⟩⟩⟩⟩⟩⟩⟩⟩⟩⟩⟩⟩⟩
set_option maxRecDepth 20000 in
theorem wsL_law_r19_in : ∀ w ∈ wsL_law_r19, w ∈ lw_tbl := List.forall_mem_cons.mpr ⟨List.mem_of_getElem? (i := 401) rfl, List.forall_mem_cons.mpr ⟨List.mem_of_getElem? (i := 603) rfl, List.forall_mem_cons.mpr ⟨List.mem_of_getElem? (i := 604) rfl, List.forall_mem_cons.mpr ⟨List.mem_of_getElem? (i := 605) rfl, List.forall_mem_cons.mpr ⟨List.mem_of_getElem? (i := 606) rfl, List.forall_mem_cons.mpr ⟨List.mem_of_getElem? (i := 607) rfl, List.forall_mem_cons.mpr ⟨List.mem_of_getElem? (i := 402) rfl, List.forall_mem_cons.mpr ⟨List.mem_of_getElem? (i := 403) rfl, List.forall_mem_cons.mpr ⟨List.mem_of_getElem? (i := 404) rfl, List.forall_mem_cons.mpr ⟨List.mem_of_getElem? (i := 405) rfl, List.forall_mem_cons.mpr ⟨List.mem_of_getElem? (i := 608) rfl, List.forall_mem_cons.mpr ⟨List.mem_of_getElem? (i := 609) rfl, List.forall_mem_cons.mpr ⟨List.mem_of_getElem? (i := 610) rfl, List.forall_mem_cons.mpr ⟨List.mem_of_getElem? (i := 611) rfl, List.forall_mem_cons.mpr ⟨List.mem_of_getElem? (i := 406) rfl, List.forall_mem_cons.mpr ⟨List.mem_of_getElem? (i := 407) rfl, List.forall_mem_cons.mpr ⟨List.mem_of_getElem? (i := 408) rfl, List.forall_mem_cons.mpr ⟨List.mem_of_getElem? (i := 409) rfl, List.forall_mem_cons.mpr ⟨List.mem_of_getElem? (i := 92) rfl, List.forall_mem_cons.mpr ⟨List.mem_of_getElem? (i := 612) rfl, List.forall_mem_cons.mpr ⟨List.mem_of_getElem? (i := 613) rfl, List.forall_mem_cons.mpr ⟨List.mem_of_getElem? (i := 614) rfl, List.forall_mem_cons.mpr ⟨List.mem_of_getElem? (i := 615) rfl, List.forall_mem_cons.mpr ⟨List.mem_of_getElem? (i := 410) rfl, fun _ h => absurd h List.not_mem_nil⟩⟩⟩⟩⟩⟩⟩⟩⟩⟩⟩⟩⟩⟩⟩⟩⟩⟩⟩⟩⟩⟩⟩⟩
set_option maxRecDepth 20000 in
theorem wsL_law_r20_in : ∀ w ∈ wsL_law_r20, w ∈ lw_tbl := List.forall_mem_cons.mpr ⟨List.mem_of_getElem? (i := 411) rfl, List.forall_mem_cons.mpr ⟨List.mem_of_getElem? (i := 412) rfl, List.forall_mem_cons.mpr ⟨List.mem_of_getElem? (i := 413) rfl, List.forall_mem_cons.mpr ⟨List.mem_of_getElem? (i := 616) rfl, List.forall_mem_cons.mpr ⟨List.mem_of_getElem? (i := 617) rfl, List.forall_mem_cons.mpr ⟨List.mem_of_getElem? (i := 618) rfl, List.forall_mem_cons.mpr ⟨List.mem_of_getElem? (i := 619) rfl, List.forall_mem_cons.mpr ⟨List.mem_of_getElem? (i := 414) rfl, List.forall_mem_cons.mpr ⟨List.mem_of_getElem? (i := 415) rfl, List.forall_mem_cons.mpr ⟨List.mem_of_getElem? (i := 416) rfl, List.forall_mem_cons.mpr ⟨List.mem_of_getElem? (i := 417) rfl, List.forall_mem_cons.mpr ⟨List.mem_of_getElem? (i := 620) rfl, List.forall_mem_cons.mpr ⟨List.mem_of_getElem? (i := 621) rfl, List.forall_mem_cons.mpr ⟨List.mem_of_getElem? (i := 622) rfl, List.forall_mem_cons.mpr ⟨List.mem_of_getElem? (i := 623) rfl, fun _ h => absurd h List.not_mem_nil⟩⟩⟩⟩⟩⟩⟩⟩⟩⟩⟩⟩⟩⟩⟩
set_option maxRecDepth 20000 in
theorem inxX4 : ∀ w ∈ wsX40, w ∈ lw_tbl := by decide +kernel
set_option maxRecDepth 20000 in
theorem inxX5 : ∀ w ∈ wsX50, w ∈ lw_tbl := by decide +kernel
set_option maxRecDepth 20000 in
theorem inxX2 : ∀ w ∈ wsX20, w ∈ lw_tbl := by decide +kernel
set_option maxRecDepth 20000 in
theorem inxX3 : ∀ w ∈ wsX30, w ∈ lw_tbl := by decide +kernel
set_option maxRecDepth 20000 in
theorem inxX1 : ∀ w ∈ wsX10, w ∈ lw_tbl := by decide +kernel
set_option maxRecDepth 20000 in
theorem inxX0 : ∀ w ∈ wsX00, w ∈ lw_tbl := by decide +kernel
set_option maxRecDepth 20000 in
theorem wsL_law_in : ∀ w ∈ wsL_law, w ∈ lw_tbl := List.forall_mem_append.mpr ⟨List.forall_mem_append.mpr ⟨List.forall_mem_append.mpr ⟨List.forall_mem_append.mpr ⟨List.forall_mem_append.mpr ⟨List.forall_mem_append.mpr ⟨List.forall_mem_append.mpr ⟨List.forall_mem_append.mpr ⟨wsL_law_r1_in, List.forall_mem_append.mpr ⟨wsL_law_r2_in, List.forall_mem_append.mpr ⟨wsL_law_r3_in, List.forall_mem_append.mpr ⟨wsL_law_r4_in, List.forall_mem_append.mpr ⟨wsL_law_r5_in, List.forall_mem_append.mpr ⟨wsL_law_r6_in, List.forall_mem_append.mpr ⟨wsL_law_r7_in, List.forall_mem_append.mpr ⟨wsL_law_r8_in, List.forall_mem_append.mpr ⟨wsL_law_r9_in, List.forall_mem_append.mpr ⟨wsL_law_r10_in, List.forall_mem_append.mpr ⟨wsL_law_r11_in, List.forall_mem_append.mpr ⟨wsL_law_r12_in, List.forall_mem_append.mpr ⟨wsL_law_r13_in, List.forall_mem_append.mpr ⟨wsL_law_r14_in, List.forall_mem_append.mpr ⟨wsL_law_r15_in, List.forall_mem_append.mpr ⟨wsL_law_r16_in, List.forall_mem_append.mpr ⟨wsL_law_r17_in, List.forall_mem_append.mpr ⟨wsL_law_r18_in, List.forall_mem_append.mpr ⟨wsL_law_r19_in, wsL_law_r20_in⟩⟩⟩⟩⟩⟩⟩⟩⟩⟩⟩⟩⟩⟩⟩⟩⟩⟩⟩, inxX4⟩, inxX5⟩, inxX2⟩, inxX3⟩, inxX1⟩, inxX0⟩, fun _ h => absurd h List.not_mem_nil⟩
end
section
theorem inlX0 : ∀ w ∈ wsX00, w ∈ wsL_law := fun _ h => List.mem_append_left _ (List.mem_append_right _ h)
theorem inX0 : ∀ w ∈ wsX00, w ∈ lw_tbl := fun w h => wsL_law_in w (inlX0 w h)
theorem inlX1 : ∀ w ∈ wsX10, w ∈ wsL_law := fun _ h => List.mem_append_left _ (List.mem_append_left _ (List.mem_append_right _ h))
theorem inX1 : ∀ w ∈ wsX10, w ∈ lw_tbl := fun w h => wsL_law_in w (inlX1 w h)
theorem inlX2 : ∀ w ∈ wsX20, w ∈ wsL_law := fun _ h => List.mem_append_left _ (List.mem_append_left _ (List.mem_append_left _ (List.mem_append_left _ (List.mem_append_right _ h))))
theorem inX2 : ∀ w ∈ wsX20, w ∈ lw_tbl := fun w h => wsL_law_in w (inlX2 w h)
theorem inlX3 : ∀ w ∈ wsX30, w ∈ wsL_law := fun _ h => List.mem_append_left _ (List.mem_append_left _ (List.mem_append_left _ (List.mem_append_right _ h)))
theorem inX3 : ∀ w ∈ wsX30, w ∈ lw_tbl := fun w h => wsL_law_in w (inlX3 w h)
theorem inlX4 : ∀ w ∈ wsX40, w ∈ wsL_law := fun _ h => List.mem_append_left _ (List.mem_append_left _ (List.mem_append_left _ (List.mem_append_left _ (List.mem_append_left _ (List.mem_append_left _ (List.mem_append_right _ h))))))
theorem inX4 : ∀ w ∈ wsX40, w ∈ lw_tbl := fun w h => wsL_law_in w (inlX4 w h)
theorem inlX5 : ∀ w ∈ wsX50, w ∈ wsL_law := fun _ h => List.mem_append_left _ (List.mem_append_left _ (List.mem_append_left _ (List.mem_append_left _ (List.mem_append_left _ (List.mem_append_right _ h)))))
theorem inX5 : ∀ w ∈ wsX50, w ∈ lw_tbl := fun w h => wsL_law_in w (inlX5 w h)
theorem inJ9 : ∀ w ∈ wsJ90, w ∈ lw_tbl := by decide +kernel
theorem inJ10 : ∀ w ∈ wsJ100, w ∈ lw_tbl := by decide +kernel
theorem inJ7 : ∀ w ∈ wsJ70, w ∈ lw_tbl := by decide +kernel
theorem dX0_init_0 : decode cX0_init 0 = .ok (.aload_n 0, 1) := by decide +kernel
theorem dX0_init_1 : decode cX0_init 1 = .ok (.invokespecial 3, 3) := by decide +kernel
theorem dX0_init_4 : decode cX0_init 4 = .ok (.return_, 1) := by decide +kernel
set_option maxRecDepth 20000 in
theorem ggX0_startAnew_X0_take : GoodIn wsX0_startAnew wsX0_take := goodIn_r _ [9, 1, 10, 11, 12, 13, 14, 15, 16, 17, 18, 19, 20, 21, 22, 23, 24, 25] (by decide +kernel) (by decide +kernel)
set_option maxRecDepth 20000 in
theorem gX0_startAnew_X0_take : GoodIn wsX0_startAnew (wsV RX0 9 RX0 yX0_take wsX0_take) := goodIn_app (goodIn_of _ (by decide +kernel)) ggX0_startAnew_X0_take
theorem dX0_startAnew_0 : decode cX0_startAnew 0 = .ok (.aload_n 0, 1) := by decide +kernel
theorem dX0_startAnew_1 : decode cX0_startAnew 1 = .ok (.iconst 0, 1) := by decide +kernel
theorem dX0_startAnew_2 : decode cX0_startAnew 2 = .ok (.iconst 0, 1) := by decide +kernel
theorem dX0_startAnew_3 : decode cX0_startAnew 3 = .ok (.iconst 0, 1) := by decide +kernel
theorem dX0_startAnew_4 : decode cX0_startAnew 4 = .ok (.lconst 0, 1) := by decide +kernel
theorem dX0_startAnew_5 : decode cX0_startAnew 5 = .ok (.invokevirtual 9, 3) := by decide +kernel
theorem dX0_startAnew_8 : decode cX0_startAnew 8 = .ok (.aload_n 0, 1) := by decide +kernel
theorem dX0_startAnew_9 : decode cX0_startAnew 9 = .ok (.iconst 0, 1) := by decide +kernel
theorem dX0_startAnew_10 : decode cX0_startAnew 10 = .ok (.putfield 15, 3) := by decide +kernel
theorem dX0_startAnew_13 : decode cX0_startAnew 13 = .ok (.aload_n 0, 1) := by decide +kernel
theorem dX0_startAnew_14 : decode cX0_startAnew 14 = .ok (.iconst 0, 1) := by decide +kernel
theorem dX0_startAnew_15 : decode cX0_startAnew 15 = .ok (.putfield 19, 3) := by decide +kernel
theorem dX0_startAnew_18 : decode cX0_startAnew 18 = .ok (.aload_n 0, 1) := by decide +kernel
theorem dX0_startAnew_19 : decode cX0_startAnew 19 = .ok (.iconst 0, 1) := by decide +kernel
theorem dX0_startAnew_20 : decode cX0_startAnew 20 = .ok (.putfield 23, 3) := by decide +kernel
theorem dX0_startAnew_23 : decode cX0_startAnew 23 = .ok (.aload_n 0, 1) := by decide +kernel
theorem dX0_startAnew_24 : decode cX0_startAnew 24 = .ok (.lconst 0, 1) := by decide +kernel
theorem dX0_startAnew_25 : decode cX0_startAnew 25 = .ok (.putfield 26, 3) := by decide +kernel
theorem dX0_startAnew_28 : decode cX0_startAnew 28 = .ok (.return_, 1) := by decide +kernel
theorem dX0_take_0 : decode cX0_take 0 = .ok (.aload_n 0, 1) := by decide +kernel
theorem dX0_take_1 : decode cX0_take 1 = .ok (.iconst 1, 1) := by decide +kernel
theorem dX0_take_2 : decode cX0_take 2 = .ok (.putfield 15, 3) := by decide +kernel
theorem dX0_take_5 : decode cX0_take 5 = .ok (.aload_n 0, 1) := by decide +kernel
theorem dX0_take_6 : decode cX0_take 6 = .ok (.iload_n 1, 1) := by decide +kernel
theorem dX0_take_7 : decode cX0_take 7 = .ok (.putfield 30, 3) := by decide +kernel
theorem dX0_take_10 : decode cX0_take 10 = .ok (.aload_n 0, 1) := by decide +kernel
theorem dX0_take_11 : decode cX0_take 11 = .ok (.iload_n 2, 1) := by decide +kernel
theorem dX0_take_12 : decode cX0_take 12 = .ok (.putfield 33, 3) := by decide +kernel
theorem dX0_take_15 : decode cX0_take 15 = .ok (.aload_n 0, 1) := by decide +kernel
theorem dX0_take_16 : decode cX0_take 16 = .ok (.iload_n 3, 1) := by decide +kernel
theorem dX0_take_17 : decode cX0_take 17 = .ok (.putfield 36, 3) := by decide +kernel
theorem dX0_take_20 : decode cX0_take 20 = .ok (.aload_n 0, 1) := by decide +kernel
theorem dX0_take_21 : decode cX0_take 21 = .ok (.lload 4, 2) := by decide +kernel
theorem dX0_take_23 : decode cX0_take 23 = .ok (.putfield 39, 3) := by decide +kernel
theorem dX0_take_26 : decode cX0_take 26 = .ok (.aload_n 0, 1) := by decide +kernel
theorem dX0_take_27 : decode cX0_take 27 = .ok (.iconst 0, 1) := by decide +kernel
theorem dX0_take_28 : decode cX0_take 28 = .ok (.putfield 42, 3) := by decide +kernel
theorem dX0_take_31 : decode cX0_take 31 = .ok (.aload_n 0, 1) := by decide +kernel
theorem dX0_take_32 : decode cX0_take 32 = .ok (.iconst 0, 1) := by decide +kernel
theorem dX0_take_33 : decode cX0_take 33 = .ok (.putfield 45, 3) := by decide +kernel
theorem dX0_take_36 : decode cX0_take 36 = .ok (.return_, 1) := by decide +kernel
theorem dX0_awaits_0 : decode cX0_awaits 0 = .ok (.aload_n 0, 1) := by decide +kernel
theorem dX0_awaits_1 : decode cX0_awaits 1 = .ok (.getfield 19, 3) := by decide +kernel
theorem dX0_awaits_4 : decode cX0_awaits 4 = .ok (.iload_n 1, 1) := by decide +kernel
theorem dX0_awaits_5 : decode cX0_awaits 5 = .ok (.if_icmp .ne 15, 3) := by decide +kernel
theorem dX0_awaits_8 : decode cX0_awaits 8 = .ok (.aload_n 0, 1) := by decide +kernel
theorem dX0_awaits_9 : decode cX0_awaits 9 = .ok (.getfield 30, 3) := by decide +kernel
theorem dX0_awaits_12 : decode cX0_awaits 12 = .ok (.iload_n 2, 1) := by decide +kernel
theorem dX0_awaits_13 : decode cX0_awaits 13 = .ok (.if_icmp .ne 7, 3) := by decide +kernel
theorem dX0_awaits_16 : decode cX0_awaits 16 = .ok (.iconst 1, 1) := by decide +kernel
theorem dX0_awaits_17 : decode cX0_awaits 17 = .ok (.goto 4, 3) := by decide +kernel
theorem dX0_awaits_20 : decode cX0_awaits 20 = .ok (.iconst 0, 1) := by decide +kernel
theorem dX0_awaits_21 : decode cX0_awaits 21 = .ok (.ireturn, 1) := by decide +kernel
theorem dX1_init_0 : decode cX1_init 0 = .ok (.aload_n 0, 1) := by decide +kernel
theorem dX1_init_1 : decode cX1_init 1 = .ok (.invokespecial 3, 3) := by decide +kernel
theorem dX1_init_4 : decode cX1_init 4 = .ok (.aload_n 0, 1) := by decide +kernel
theorem dX1_init_5 : decode cX1_init 5 = .ok (.iconst 4, 1) := by decide +kernel
theorem dX1_init_6 : decode cX1_init 6 = .ok (.newarray .long, 2) := by decide +kernel
theorem dX1_init_8 : decode cX1_init 8 = .ok (.putfield 9, 3) := by decide +kernel
theorem dX1_init_11 : decode cX1_init 11 = .ok (.return_, 1) := by decide +kernel
set_option maxRecDepth 20000 in
theorem ggX2_init_X1_init : GoodIn wsX2_init wsX1_init := goodIn_r _ [9, 10, 2, 3, 11, 12, 15, 16, 17, 18, 19, 20, 21] (by decide +kernel) (by decide +kernel)
set_option maxRecDepth 20000 in
theorem gX2_init_X1_init_n17 : GoodIn wsX2_init (wsX1_init) := ggX2_init_X1_init
theorem dX2_init_0 : decode cX2_init 0 = .ok (.aload_n 0, 1) := by decide +kernel
theorem dX2_init_1 : decode cX2_init 1 = .ok (.invokespecial 3, 3) := by decide +kernel
theorem dX2_init_4 : decode cX2_init 4 = .ok (.aload_n 0, 1) := by decide +kernel
theorem dX2_init_5 : decode cX2_init 5 = .ok (.bipush 32, 2) := by decide +kernel
theorem dX2_init_7 : decode cX2_init 7 = .ok (.anewarray 11, 3) := by decide +kernel
theorem dX2_init_10 : decode cX2_init 10 = .ok (.putfield 13, 3) := by decide +kernel
theorem dX2_init_13 : decode cX2_init 13 = .ok (.iconst 0, 1) := by decide +kernel
theorem dX2_init_14 : decode cX2_init 14 = .ok (.istore_n 1, 1) := by decide +kernel
theorem dX2_init_15 : decode cX2_init 15 = .ok (.iload_n 1, 1) := by decide +kernel
theorem dX2_init_16 : decode cX2_init 16 = .ok (.bipush 32, 2) := by decide +kernel
theorem dX2_init_18 : decode cX2_init 18 = .ok (.if_icmp .ge 22, 3) := by decide +kernel
theorem dX2_init_21 : decode cX2_init 21 = .ok (.aload_n 0, 1) := by decide +kernel
theorem dX2_init_22 : decode cX2_init 22 = .ok (.getfield 13, 3) := by decide +kernel
theorem dX2_init_25 : decode cX2_init 25 = .ok (.iload_n 1, 1) := by decide +kernel
theorem dX2_init_26 : decode cX2_init 26 = .ok (.new 11, 3) := by decide +kernel
theorem dX2_init_29 : decode cX2_init 29 = .ok (.dup, 1) := by decide +kernel
theorem dX2_init_30 : decode cX2_init 30 = .ok (.invokespecial 17, 3) := by decide +kernel
theorem dX2_init_33 : decode cX2_init 33 = .ok (.aastore, 1) := by decide +kernel
theorem dX2_init_34 : decode cX2_init 34 = .ok (.iinc 1 1, 3) := by decide +kernel
theorem dX2_init_37 : decode cX2_init 37 = .ok (.goto (-22), 3) := by decide +kernel
theorem dX2_init_40 : decode cX2_init 40 = .ok (.return_, 1) := by decide +kernel
theorem dX2_has_0 : decode cX2_has 0 = .ok (.iload_n 1, 1) := by decide +kernel
theorem dX2_has_1 : decode cX2_has 1 = .ok (.ifCond .lt 15, 3) := by decide +kernel
theorem dX2_has_4 : decode cX2_has 4 = .ok (.iload_n 1, 1) := by decide +kernel
theorem dX2_has_5 : decode cX2_has 5 = .ok (.aload_n 0, 1) := by decide +kernel
theorem dX2_has_6 : decode cX2_has 6 = .ok (.getfield 18, 3) := by decide +kernel
theorem dX2_has_9 : decode cX2_has 9 = .ok (.if_icmp .ge 7, 3) := by decide +kernel
theorem dX2_has_12 : decode cX2_has 12 = .ok (.iconst 1, 1) := by decide +kernel
theorem dX2_has_13 : decode cX2_has 13 = .ok (.goto 4, 3) := by decide +kernel
theorem dX2_has_16 : decode cX2_has 16 = .ok (.iconst 0, 1) := by decide +kernel
theorem dX2_has_17 : decode cX2_has 17 = .ok (.ireturn, 1) := by decide +kernel
theorem dX2_putIn_0 : decode cX2_putIn 0 = .ok (.aload_n 0, 1) := by decide +kernel
theorem dX2_putIn_1 : decode cX2_putIn 1 = .ok (.getfield 18, 3) := by decide +kernel
theorem dX2_putIn_4 : decode cX2_putIn 4 = .ok (.bipush 31, 2) := by decide +kernel
theorem dX2_putIn_6 : decode cX2_putIn 6 = .ok (.invokestatic 22, 3) := by decide +kernel
theorem dX2_putIn_9 : decode cX2_putIn 9 = .ok (.istore 5, 2) := by decide +kernel
theorem dX2_putIn_11 : decode cX2_putIn 11 = .ok (.aload_n 0, 1) := by decide +kernel
theorem dX2_putIn_12 : decode cX2_putIn 12 = .ok (.iload 5, 2) := by decide +kernel
theorem dX2_putIn_14 : decode cX2_putIn 14 = .ok (.iconst 1, 1) := by decide +kernel
theorem dX2_putIn_15 : decode cX2_putIn 15 = .ok (.iadd, 1) := by decide +kernel
theorem dX2_putIn_16 : decode cX2_putIn 16 = .ok (.putfield 18, 3) := by decide +kernel
theorem dX2_putIn_19 : decode cX2_putIn 19 = .ok (.aload_n 0, 1) := by decide +kernel
theorem dX2_putIn_20 : decode cX2_putIn 20 = .ok (.getfield 13, 3) := by decide +kernel
theorem dX2_putIn_23 : decode cX2_putIn 23 = .ok (.iload 5, 2) := by decide +kernel
theorem dX2_putIn_25 : decode cX2_putIn 25 = .ok (.aaload, 1) := by decide +kernel
theorem dX2_putIn_26 : decode cX2_putIn 26 = .ok (.astore 6, 2) := by decide +kernel
theorem dX2_putIn_28 : decode cX2_putIn 28 = .ok (.aload 6, 2) := by decide +kernel
theorem dX2_putIn_30 : decode cX2_putIn 30 = .ok (.iload_n 1, 1) := by decide +kernel
theorem dX2_putIn_31 : decode cX2_putIn 31 = .ok (.putfield 28, 3) := by decide +kernel
theorem dX2_putIn_34 : decode cX2_putIn 34 = .ok (.aload 6, 2) := by decide +kernel
theorem dX2_putIn_36 : decode cX2_putIn 36 = .ok (.iload_n 2, 1) := by decide +kernel
theorem dX2_putIn_37 : decode cX2_putIn 37 = .ok (.putfield 31, 3) := by decide +kernel
theorem dX2_putIn_40 : decode cX2_putIn 40 = .ok (.aload 6, 2) := by decide +kernel
theorem dX2_putIn_42 : decode cX2_putIn 42 = .ok (.iload_n 3, 1) := by decide +kernel
theorem dX2_putIn_43 : decode cX2_putIn 43 = .ok (.putfield 34, 3) := by decide +kernel
theorem dX2_putIn_46 : decode cX2_putIn 46 = .ok (.aload 6, 2) := by decide +kernel
theorem dX2_putIn_48 : decode cX2_putIn 48 = .ok (.iload 4, 2) := by decide +kernel
theorem dX2_putIn_50 : decode cX2_putIn 50 = .ok (.putfield 37, 3) := by decide +kernel
theorem dX2_putIn_53 : decode cX2_putIn 53 = .ok (.aload 6, 2) := by decide +kernel
theorem dX2_putIn_55 : decode cX2_putIn 55 = .ok (.iconst (-1), 1) := by decide +kernel
theorem dX2_putIn_56 : decode cX2_putIn 56 = .ok (.putfield 40, 3) := by decide +kernel
theorem dX2_putIn_59 : decode cX2_putIn 59 = .ok (.aload 6, 2) := by decide +kernel
theorem dX2_putIn_61 : decode cX2_putIn 61 = .ok (.iconst 0, 1) := by decide +kernel
theorem dX2_putIn_62 : decode cX2_putIn 62 = .ok (.putfield 43, 3) := by decide +kernel
theorem dX2_putIn_65 : decode cX2_putIn 65 = .ok (.aload 6, 2) := by decide +kernel
theorem dX2_putIn_67 : decode cX2_putIn 67 = .ok (.areturn, 1) := by decide +kernel
theorem dX2_takeOut_0 : decode cX2_takeOut 0 = .ok (.aload_n 0, 1) := by decide +kernel
theorem dX2_takeOut_1 : decode cX2_takeOut 1 = .ok (.getfield 13, 3) := by decide +kernel
theorem dX2_takeOut_4 : decode cX2_takeOut 4 = .ok (.iload_n 1, 1) := by decide +kernel
theorem dX2_takeOut_5 : decode cX2_takeOut 5 = .ok (.aaload, 1) := by decide +kernel
theorem dX2_takeOut_6 : decode cX2_takeOut 6 = .ok (.astore_n 2, 1) := by decide +kernel
theorem dX2_takeOut_7 : decode cX2_takeOut 7 = .ok (.iload_n 1, 1) := by decide +kernel
theorem dX2_takeOut_8 : decode cX2_takeOut 8 = .ok (.istore_n 3, 1) := by decide +kernel
theorem dX2_takeOut_9 : decode cX2_takeOut 9 = .ok (.iload_n 3, 1) := by decide +kernel
theorem dX2_takeOut_10 : decode cX2_takeOut 10 = .ok (.iconst 1, 1) := by decide +kernel
theorem dX2_takeOut_11 : decode cX2_takeOut 11 = .ok (.iadd, 1) := by decide +kernel
theorem dX2_takeOut_12 : decode cX2_takeOut 12 = .ok (.bipush 32, 2) := by decide +kernel
theorem dX2_takeOut_14 : decode cX2_takeOut 14 = .ok (.if_icmp .ge 23, 3) := by decide +kernel
theorem dX2_takeOut_17 : decode cX2_takeOut 17 = .ok (.aload_n 0, 1) := by decide +kernel
theorem dX2_takeOut_18 : decode cX2_takeOut 18 = .ok (.getfield 13, 3) := by decide +kernel
theorem dX2_takeOut_21 : decode cX2_takeOut 21 = .ok (.iload_n 3, 1) := by decide +kernel
theorem dX2_takeOut_22 : decode cX2_takeOut 22 = .ok (.aload_n 0, 1) := by decide +kernel
theorem dX2_takeOut_23 : decode cX2_takeOut 23 = .ok (.getfield 13, 3) := by decide +kernel
theorem dX2_takeOut_26 : decode cX2_takeOut 26 = .ok (.iload_n 3, 1) := by decide +kernel
theorem dX2_takeOut_27 : decode cX2_takeOut 27 = .ok (.iconst 1, 1) := by decide +kernel
theorem dX2_takeOut_28 : decode cX2_takeOut 28 = .ok (.iadd, 1) := by decide +kernel
theorem dX2_takeOut_29 : decode cX2_takeOut 29 = .ok (.aaload, 1) := by decide +kernel
theorem dX2_takeOut_30 : decode cX2_takeOut 30 = .ok (.aastore, 1) := by decide +kernel
theorem dX2_takeOut_31 : decode cX2_takeOut 31 = .ok (.iinc 3 1, 3) := by decide +kernel
theorem dX2_takeOut_34 : decode cX2_takeOut 34 = .ok (.goto (-25), 3) := by decide +kernel
theorem dX2_takeOut_37 : decode cX2_takeOut 37 = .ok (.aload_n 0, 1) := by decide +kernel
theorem dX2_takeOut_38 : decode cX2_takeOut 38 = .ok (.getfield 13, 3) := by decide +kernel
theorem dX2_takeOut_41 : decode cX2_takeOut 41 = .ok (.bipush 31, 2) := by decide +kernel
theorem dX2_takeOut_43 : decode cX2_takeOut 43 = .ok (.aload_n 2, 1) := by decide +kernel
theorem dX2_takeOut_44 : decode cX2_takeOut 44 = .ok (.aastore, 1) := by decide +kernel
theorem dX2_takeOut_45 : decode cX2_takeOut 45 = .ok (.aload_n 0, 1) := by decide +kernel
theorem dX2_takeOut_46 : decode cX2_takeOut 46 = .ok (.dup, 1) := by decide +kernel
theorem dX2_takeOut_47 : decode cX2_takeOut 47 = .ok (.getfield 18, 3) := by decide +kernel
theorem dX2_takeOut_50 : decode cX2_takeOut 50 = .ok (.iconst 1, 1) := by decide +kernel
theorem dX2_takeOut_51 : decode cX2_takeOut 51 = .ok (.isub, 1) := by decide +kernel
theorem dX2_takeOut_52 : decode cX2_takeOut 52 = .ok (.putfield 18, 3) := by decide +kernel
theorem dX2_takeOut_55 : decode cX2_takeOut 55 = .ok (.aload_n 2, 1) := by decide +kernel
theorem dX2_takeOut_56 : decode cX2_takeOut 56 = .ok (.areturn, 1) := by decide +kernel
set_option maxRecDepth 20000 in
theorem ggX3_init_X0_init : GoodIn wsX3_init wsX0_init := goodIn_r _ [21, 22, 2, 3] (by decide +kernel) (by decide +kernel)
set_option maxRecDepth 20000 in
theorem gX3_init_X0_init_n11 : GoodIn wsX3_init (wsX0_init) := ggX3_init_X0_init
theorem dX3_init_0 : decode cX3_init 0 = .ok (.aload_n 0, 1) := by decide +kernel
theorem dX3_init_1 : decode cX3_init 1 = .ok (.invokespecial 3, 3) := by decide +kernel
theorem dX3_init_4 : decode cX3_init 4 = .ok (.aload_n 0, 1) := by decide +kernel
theorem dX3_init_5 : decode cX3_init 5 = .ok (.new 9, 3) := by decide +kernel
theorem dX3_init_8 : decode cX3_init 8 = .ok (.dup, 1) := by decide +kernel
theorem dX3_init_9 : decode cX3_init 9 = .ok (.invokespecial 11, 3) := by decide +kernel
theorem dX3_init_12 : decode cX3_init 12 = .ok (.putfield 12, 3) := by decide +kernel
theorem dX3_init_15 : decode cX3_init 15 = .ok (.aload_n 0, 1) := by decide +kernel
theorem dX3_init_16 : decode cX3_init 16 = .ok (.bipush 8, 2) := by decide +kernel
theorem dX3_init_18 : decode cX3_init 18 = .ok (.newarray .int, 2) := by decide +kernel
theorem dX3_init_20 : decode cX3_init 20 = .ok (.putfield 18, 3) := by decide +kernel
theorem dX3_init_23 : decode cX3_init 23 = .ok (.aload_n 0, 1) := by decide +kernel
theorem dX3_init_24 : decode cX3_init 24 = .ok (.bipush 8, 2) := by decide +kernel
theorem dX3_init_26 : decode cX3_init 26 = .ok (.newarray .boolean, 2) := by decide +kernel
theorem dX3_init_28 : decode cX3_init 28 = .ok (.putfield 22, 3) := by decide +kernel
theorem dX3_init_31 : decode cX3_init 31 = .ok (.aload_n 0, 1) := by decide +kernel
theorem dX3_init_32 : decode cX3_init 32 = .ok (.bipush 8, 2) := by decide +kernel
theorem dX3_init_34 : decode cX3_init 34 = .ok (.newarray .int, 2) := by decide +kernel
theorem dX3_init_36 : decode cX3_init 36 = .ok (.putfield 26, 3) := by decide +kernel
theorem dX3_init_39 : decode cX3_init 39 = .ok (.aload_n 0, 1) := by decide +kernel
theorem dX3_init_40 : decode cX3_init 40 = .ok (.bipush 8, 2) := by decide +kernel
theorem dX3_init_42 : decode cX3_init 42 = .ok (.newarray .int, 2) := by decide +kernel
theorem dX3_init_44 : decode cX3_init 44 = .ok (.putfield 29, 3) := by decide +kernel
theorem dX3_init_47 : decode cX3_init 47 = .ok (.aload_n 0, 1) := by decide +kernel
theorem dX3_init_48 : decode cX3_init 48 = .ok (.bipush 32, 2) := by decide +kernel
theorem dX3_init_50 : decode cX3_init 50 = .ok (.newarray .long, 2) := by decide +kernel
theorem dX3_init_52 : decode cX3_init 52 = .ok (.putfield 32, 3) := by decide +kernel
theorem dX3_init_55 : decode cX3_init 55 = .ok (.aload_n 0, 1) := by decide +kernel
theorem dX3_init_56 : decode cX3_init 56 = .ok (.bipush 8, 2) := by decide +kernel
theorem dX3_init_58 : decode cX3_init 58 = .ok (.newarray .int, 2) := by decide +kernel
theorem dX3_init_60 : decode cX3_init 60 = .ok (.putfield 36, 3) := by decide +kernel
theorem dX3_init_63 : decode cX3_init 63 = .ok (.aload_n 0, 1) := by decide +kernel
theorem dX3_init_64 : decode cX3_init 64 = .ok (.bipush 48, 2) := by decide +kernel
theorem dX3_init_66 : decode cX3_init 66 = .ok (.newarray .int, 2) := by decide +kernel
theorem dX3_init_68 : decode cX3_init 68 = .ok (.putfield 39, 3) := by decide +kernel
theorem dX3_init_71 : decode cX3_init 71 = .ok (.aload_n 0, 1) := by decide +kernel
theorem dX3_init_72 : decode cX3_init 72 = .ok (.bipush 48, 2) := by decide +kernel
theorem dX3_init_74 : decode cX3_init 74 = .ok (.newarray .int, 2) := by decide +kernel
theorem dX3_init_76 : decode cX3_init 76 = .ok (.putfield 42, 3) := by decide +kernel
theorem dX3_init_79 : decode cX3_init 79 = .ok (.aload_n 0, 1) := by decide +kernel
theorem dX3_init_80 : decode cX3_init 80 = .ok (.iload_n 1, 1) := by decide +kernel
theorem dX3_init_81 : decode cX3_init 81 = .ok (.putfield 45, 3) := by decide +kernel
theorem dX3_init_84 : decode cX3_init 84 = .ok (.return_, 1) := by decide +kernel
set_option maxRecDepth 20000 in
theorem ggX3_startAnew_X0_startAnew : GoodIn wsX3_startAnew wsX0_startAnew := goodIn_r _ [17, 18, 19, 20, 21, 22, 23, 24, 16, 25, 26, 27, 28, 29, 30, 31, 50, 51, 52, 53, 54, 55, 56, 57, 58, 59] (by decide +kernel) (by decide +kernel)
set_option maxRecDepth 20000 in
theorem gX3_startAnew_X0_startAnew : GoodIn wsX3_startAnew (wsV RX3 49 RX0 yX0_startAnew wsX0_startAnew) := goodIn_app (goodIn_of _ (by decide +kernel)) ggX3_startAnew_X0_startAnew
set_option maxRecDepth 20000 in
theorem ggX3_startAnew_J7_fill_d0a16 : GoodIn wsX3_startAnew wsJ7_fill_d0a16 := goodIn_r _ [35] (by decide +kernel) (by decide +kernel)
set_option maxRecDepth 20000 in
theorem gX3_startAnew_J7_fill_d0a16 : GoodIn wsX3_startAnew (va_wsS RX3 52 yJ7_fill_d0a16 wsJ7_fill_d0a16) := goodIn_app (goodIn_of _ (by decide +kernel)) ggX3_startAnew_J7_fill_d0a16
set_option maxRecDepth 20000 in
theorem ggX3_startAnew_J9_floorMod_7cf53 : GoodIn wsX3_startAnew wsJ9_floorMod_7cf53 := goodIn_r _ [39] (by decide +kernel) (by decide +kernel)
set_option maxRecDepth 20000 in
theorem gX3_startAnew_J9_floorMod_7cf53 : GoodIn wsX3_startAnew (va_wsS RX3 64 yJ9_floorMod_7cf53 wsJ9_floorMod_7cf53) := goodIn_app (goodIn_of _ (by decide +kernel)) ggX3_startAnew_J9_floorMod_7cf53
theorem dX3_startAnew_0 : decode cX3_startAnew 0 = .ok (.aload_n 0, 1) := by decide +kernel
theorem dX3_startAnew_1 : decode cX3_startAnew 1 = .ok (.getfield 12, 3) := by decide +kernel
theorem dX3_startAnew_4 : decode cX3_startAnew 4 = .ok (.invokevirtual 49, 3) := by decide +kernel
theorem dX3_startAnew_7 : decode cX3_startAnew 7 = .ok (.aload_n 0, 1) := by decide +kernel
theorem dX3_startAnew_8 : decode cX3_startAnew 8 = .ok (.getfield 32, 3) := by decide +kernel
theorem dX3_startAnew_11 : decode cX3_startAnew 11 = .ok (.lconst 0, 1) := by decide +kernel
theorem dX3_startAnew_12 : decode cX3_startAnew 12 = .ok (.invokestatic 52, 3) := by decide +kernel
theorem dX3_startAnew_15 : decode cX3_startAnew 15 = .ok (.iconst 0, 1) := by decide +kernel
theorem dX3_startAnew_16 : decode cX3_startAnew 16 = .ok (.istore_n 2, 1) := by decide +kernel
theorem dX3_startAnew_17 : decode cX3_startAnew 17 = .ok (.iload_n 2, 1) := by decide +kernel
theorem dX3_startAnew_18 : decode cX3_startAnew 18 = .ok (.bipush 8, 2) := by decide +kernel
theorem dX3_startAnew_20 : decode cX3_startAnew 20 = .ok (.if_icmp .ge 79, 3) := by decide +kernel
theorem dX3_startAnew_23 : decode cX3_startAnew 23 = .ok (.iload_n 2, 1) := by decide +kernel
theorem dX3_startAnew_24 : decode cX3_startAnew 24 = .ok (.iload_n 1, 1) := by decide +kernel
theorem dX3_startAnew_25 : decode cX3_startAnew 25 = .ok (.iconst 1, 1) := by decide +kernel
theorem dX3_startAnew_26 : decode cX3_startAnew 26 = .ok (.invokestatic 58, 3) := by decide +kernel
theorem dX3_startAnew_29 : decode cX3_startAnew 29 = .ok (.invokestatic 64, 3) := by decide +kernel
theorem dX3_startAnew_32 : decode cX3_startAnew 32 = .ok (.istore_n 3, 1) := by decide +kernel
theorem dX3_startAnew_33 : decode cX3_startAnew 33 = .ok (.aload_n 0, 1) := by decide +kernel
theorem dX3_startAnew_34 : decode cX3_startAnew 34 = .ok (.getfield 22, 3) := by decide +kernel
theorem dX3_startAnew_37 : decode cX3_startAnew 37 = .ok (.iload_n 2, 1) := by decide +kernel
theorem dX3_startAnew_38 : decode cX3_startAnew 38 = .ok (.iload_n 3, 1) := by decide +kernel
theorem dX3_startAnew_39 : decode cX3_startAnew 39 = .ok (.aload_n 0, 1) := by decide +kernel
theorem dX3_startAnew_40 : decode cX3_startAnew 40 = .ok (.getfield 45, 3) := by decide +kernel
theorem dX3_startAnew_43 : decode cX3_startAnew 43 = .ok (.if_icmp .ne 7, 3) := by decide +kernel
theorem dX3_startAnew_46 : decode cX3_startAnew 46 = .ok (.iconst 1, 1) := by decide +kernel
theorem dX3_startAnew_47 : decode cX3_startAnew 47 = .ok (.goto 4, 3) := by decide +kernel
theorem dX3_startAnew_50 : decode cX3_startAnew 50 = .ok (.iconst 0, 1) := by decide +kernel
theorem dX3_startAnew_51 : decode cX3_startAnew 51 = .ok (.bastore, 1) := by decide +kernel
theorem dX3_startAnew_52 : decode cX3_startAnew 52 = .ok (.aload_n 0, 1) := by decide +kernel
theorem dX3_startAnew_53 : decode cX3_startAnew 53 = .ok (.getfield 18, 3) := by decide +kernel
theorem dX3_startAnew_56 : decode cX3_startAnew 56 = .ok (.iload_n 2, 1) := by decide +kernel
theorem dX3_startAnew_57 : decode cX3_startAnew 57 = .ok (.aload_n 0, 1) := by decide +kernel
theorem dX3_startAnew_58 : decode cX3_startAnew 58 = .ok (.getfield 22, 3) := by decide +kernel
theorem dX3_startAnew_61 : decode cX3_startAnew 61 = .ok (.iload_n 2, 1) := by decide +kernel
theorem dX3_startAnew_62 : decode cX3_startAnew 62 = .ok (.baload, 1) := by decide +kernel
theorem dX3_startAnew_63 : decode cX3_startAnew 63 = .ok (.ifCond .eq 7, 3) := by decide +kernel
theorem dX3_startAnew_66 : decode cX3_startAnew 66 = .ok (.iconst 2, 1) := by decide +kernel
theorem dX3_startAnew_67 : decode cX3_startAnew 67 = .ok (.goto 4, 3) := by decide +kernel
theorem dX3_startAnew_70 : decode cX3_startAnew 70 = .ok (.iconst 0, 1) := by decide +kernel
theorem dX3_startAnew_71 : decode cX3_startAnew 71 = .ok (.iastore, 1) := by decide +kernel
theorem dX3_startAnew_72 : decode cX3_startAnew 72 = .ok (.aload_n 0, 1) := by decide +kernel
theorem dX3_startAnew_73 : decode cX3_startAnew 73 = .ok (.getfield 26, 3) := by decide +kernel
theorem dX3_startAnew_76 : decode cX3_startAnew 76 = .ok (.iload_n 2, 1) := by decide +kernel
theorem dX3_startAnew_77 : decode cX3_startAnew 77 = .ok (.iload_n 3, 1) := by decide +kernel
theorem dX3_startAnew_78 : decode cX3_startAnew 78 = .ok (.iastore, 1) := by decide +kernel
theorem dX3_startAnew_79 : decode cX3_startAnew 79 = .ok (.aload_n 0, 1) := by decide +kernel
theorem dX3_startAnew_80 : decode cX3_startAnew 80 = .ok (.getfield 29, 3) := by decide +kernel
theorem dX3_startAnew_83 : decode cX3_startAnew 83 = .ok (.iload_n 2, 1) := by decide +kernel
theorem dX3_startAnew_84 : decode cX3_startAnew 84 = .ok (.iconst 0, 1) := by decide +kernel
theorem dX3_startAnew_85 : decode cX3_startAnew 85 = .ok (.iastore, 1) := by decide +kernel
theorem dX3_startAnew_86 : decode cX3_startAnew 86 = .ok (.aload_n 0, 1) := by decide +kernel
theorem dX3_startAnew_87 : decode cX3_startAnew 87 = .ok (.getfield 36, 3) := by decide +kernel
theorem dX3_startAnew_90 : decode cX3_startAnew 90 = .ok (.iload_n 2, 1) := by decide +kernel
theorem dX3_startAnew_91 : decode cX3_startAnew 91 = .ok (.iconst 0, 1) := by decide +kernel
theorem dX3_startAnew_92 : decode cX3_startAnew 92 = .ok (.iastore, 1) := by decide +kernel
theorem dX3_startAnew_93 : decode cX3_startAnew 93 = .ok (.iinc 2 1, 3) := by decide +kernel
theorem dX3_startAnew_96 : decode cX3_startAnew 96 = .ok (.goto (-79), 3) := by decide +kernel
theorem dX3_startAnew_99 : decode cX3_startAnew 99 = .ok (.return_, 1) := by decide +kernel
theorem dX3_putInQueue_0 : decode cX3_putInQueue 0 = .ok (.aload_n 0, 1) := by decide +kernel
theorem dX3_putInQueue_1 : decode cX3_putInQueue 1 = .ok (.getfield 36, 3) := by decide +kernel
theorem dX3_putInQueue_4 : decode cX3_putInQueue 4 = .ok (.iload_n 2, 1) := by decide +kernel
theorem dX3_putInQueue_5 : decode cX3_putInQueue 5 = .ok (.iaload, 1) := by decide +kernel
theorem dX3_putInQueue_6 : decode cX3_putInQueue 6 = .ok (.bipush 6, 2) := by decide +kernel
theorem dX3_putInQueue_8 : decode cX3_putInQueue 8 = .ok (.if_icmp .lt 4, 3) := by decide +kernel
theorem dX3_putInQueue_11 : decode cX3_putInQueue 11 = .ok (.return_, 1) := by decide +kernel
theorem dX3_putInQueue_12 : decode cX3_putInQueue 12 = .ok (.iload_n 2, 1) := by decide +kernel
theorem dX3_putInQueue_13 : decode cX3_putInQueue 13 = .ok (.bipush 6, 2) := by decide +kernel
theorem dX3_putInQueue_15 : decode cX3_putInQueue 15 = .ok (.imul, 1) := by decide +kernel
theorem dX3_putInQueue_16 : decode cX3_putInQueue 16 = .ok (.aload_n 0, 1) := by decide +kernel
theorem dX3_putInQueue_17 : decode cX3_putInQueue 17 = .ok (.getfield 36, 3) := by decide +kernel
theorem dX3_putInQueue_20 : decode cX3_putInQueue 20 = .ok (.iload_n 2, 1) := by decide +kernel
theorem dX3_putInQueue_21 : decode cX3_putInQueue 21 = .ok (.iaload, 1) := by decide +kernel
theorem dX3_putInQueue_22 : decode cX3_putInQueue 22 = .ok (.iadd, 1) := by decide +kernel
theorem dX3_putInQueue_23 : decode cX3_putInQueue 23 = .ok (.istore 4, 2) := by decide +kernel
theorem dX3_putInQueue_25 : decode cX3_putInQueue 25 = .ok (.aload_n 0, 1) := by decide +kernel
theorem dX3_putInQueue_26 : decode cX3_putInQueue 26 = .ok (.getfield 39, 3) := by decide +kernel
theorem dX3_putInQueue_29 : decode cX3_putInQueue 29 = .ok (.iload 4, 2) := by decide +kernel
theorem dX3_putInQueue_31 : decode cX3_putInQueue 31 = .ok (.iload_n 1, 1) := by decide +kernel
theorem dX3_putInQueue_32 : decode cX3_putInQueue 32 = .ok (.iastore, 1) := by decide +kernel
theorem dX3_putInQueue_33 : decode cX3_putInQueue 33 = .ok (.aload_n 0, 1) := by decide +kernel
theorem dX3_putInQueue_34 : decode cX3_putInQueue 34 = .ok (.getfield 42, 3) := by decide +kernel
theorem dX3_putInQueue_37 : decode cX3_putInQueue 37 = .ok (.iload 4, 2) := by decide +kernel
theorem dX3_putInQueue_39 : decode cX3_putInQueue 39 = .ok (.iload_n 3, 1) := by decide +kernel
theorem dX3_putInQueue_40 : decode cX3_putInQueue 40 = .ok (.iastore, 1) := by decide +kernel
theorem dX3_putInQueue_41 : decode cX3_putInQueue 41 = .ok (.aload_n 0, 1) := by decide +kernel
theorem dX3_putInQueue_42 : decode cX3_putInQueue 42 = .ok (.getfield 36, 3) := by decide +kernel
theorem dX3_putInQueue_45 : decode cX3_putInQueue 45 = .ok (.iload_n 2, 1) := by decide +kernel
theorem dX3_putInQueue_46 : decode cX3_putInQueue 46 = .ok (.dup2, 1) := by decide +kernel
theorem dX3_putInQueue_47 : decode cX3_putInQueue 47 = .ok (.iaload, 1) := by decide +kernel
theorem dX3_putInQueue_48 : decode cX3_putInQueue 48 = .ok (.iconst 1, 1) := by decide +kernel
theorem dX3_putInQueue_49 : decode cX3_putInQueue 49 = .ok (.iadd, 1) := by decide +kernel
theorem dX3_putInQueue_50 : decode cX3_putInQueue 50 = .ok (.iastore, 1) := by decide +kernel
theorem dX3_putInQueue_51 : decode cX3_putInQueue 51 = .ok (.return_, 1) := by decide +kernel
theorem dX3_doWhatIsAtHand_0 : decode cX3_doWhatIsAtHand 0 = .ok (.aload_n 0, 1) := by decide +kernel
theorem dX3_doWhatIsAtHand_1 : decode cX3_doWhatIsAtHand 1 = .ok (.getfield 12, 3) := by decide +kernel
theorem dX3_doWhatIsAtHand_4 : decode cX3_doWhatIsAtHand 4 = .ok (.getfield 67, 3) := by decide +kernel
theorem dX3_doWhatIsAtHand_7 : decode cX3_doWhatIsAtHand 7 = .ok (.iconst 4, 1) := by decide +kernel
theorem dX3_doWhatIsAtHand_8 : decode cX3_doWhatIsAtHand 8 = .ok (.imul, 1) := by decide +kernel
theorem dX3_doWhatIsAtHand_9 : decode cX3_doWhatIsAtHand 9 = .ok (.aload_n 0, 1) := by decide +kernel
theorem dX3_doWhatIsAtHand_10 : decode cX3_doWhatIsAtHand 10 = .ok (.getfield 12, 3) := by decide +kernel
theorem dX3_doWhatIsAtHand_13 : decode cX3_doWhatIsAtHand 13 = .ok (.getfield 70, 3) := by decide +kernel
theorem dX3_doWhatIsAtHand_16 : decode cX3_doWhatIsAtHand 16 = .ok (.iadd, 1) := by decide +kernel
theorem dX3_doWhatIsAtHand_17 : decode cX3_doWhatIsAtHand 17 = .ok (.istore_n 1, 1) := by decide +kernel
theorem dX3_doWhatIsAtHand_18 : decode cX3_doWhatIsAtHand 18 = .ok (.aload_n 0, 1) := by decide +kernel
theorem dX3_doWhatIsAtHand_19 : decode cX3_doWhatIsAtHand 19 = .ok (.getfield 12, 3) := by decide +kernel
theorem dX3_doWhatIsAtHand_22 : decode cX3_doWhatIsAtHand 22 = .ok (.getfield 73, 3) := by decide +kernel
theorem dX3_doWhatIsAtHand_25 : decode cX3_doWhatIsAtHand 25 = .ok (.ifCond .eq 16, 3) := by decide +kernel
theorem dX3_doWhatIsAtHand_28 : decode cX3_doWhatIsAtHand 28 = .ok (.aload_n 0, 1) := by decide +kernel
theorem dX3_doWhatIsAtHand_29 : decode cX3_doWhatIsAtHand 29 = .ok (.getfield 32, 3) := by decide +kernel
theorem dX3_doWhatIsAtHand_32 : decode cX3_doWhatIsAtHand 32 = .ok (.iload_n 1, 1) := by decide +kernel
theorem dX3_doWhatIsAtHand_33 : decode cX3_doWhatIsAtHand 33 = .ok (.aload_n 0, 1) := by decide +kernel
theorem dX3_doWhatIsAtHand_34 : decode cX3_doWhatIsAtHand 34 = .ok (.getfield 12, 3) := by decide +kernel
theorem dX3_doWhatIsAtHand_37 : decode cX3_doWhatIsAtHand 37 = .ok (.getfield 77, 3) := by decide +kernel
theorem dX3_doWhatIsAtHand_40 : decode cX3_doWhatIsAtHand 40 = .ok (.lastore, 1) := by decide +kernel
theorem dX3_doWhatIsAtHand_41 : decode cX3_doWhatIsAtHand 41 = .ok (.aload_n 0, 1) := by decide +kernel
theorem dX3_doWhatIsAtHand_42 : decode cX3_doWhatIsAtHand 42 = .ok (.getfield 12, 3) := by decide +kernel
theorem dX3_doWhatIsAtHand_45 : decode cX3_doWhatIsAtHand 45 = .ok (.aload_n 0, 1) := by decide +kernel
theorem dX3_doWhatIsAtHand_46 : decode cX3_doWhatIsAtHand 46 = .ok (.getfield 32, 3) := by decide +kernel
theorem dX3_doWhatIsAtHand_49 : decode cX3_doWhatIsAtHand 49 = .ok (.iload_n 1, 1) := by decide +kernel
theorem dX3_doWhatIsAtHand_50 : decode cX3_doWhatIsAtHand 50 = .ok (.laload, 1) := by decide +kernel
theorem dX3_doWhatIsAtHand_51 : decode cX3_doWhatIsAtHand 51 = .ok (.putfield 81, 3) := by decide +kernel
theorem dX3_doWhatIsAtHand_54 : decode cX3_doWhatIsAtHand 54 = .ok (.aload_n 0, 1) := by decide +kernel
theorem dX3_doWhatIsAtHand_55 : decode cX3_doWhatIsAtHand 55 = .ok (.getfield 12, 3) := by decide +kernel
theorem dX3_doWhatIsAtHand_58 : decode cX3_doWhatIsAtHand 58 = .ok (.iconst 0, 1) := by decide +kernel
theorem dX3_doWhatIsAtHand_59 : decode cX3_doWhatIsAtHand 59 = .ok (.putfield 84, 3) := by decide +kernel
theorem dX3_doWhatIsAtHand_62 : decode cX3_doWhatIsAtHand 62 = .ok (.aload_n 0, 1) := by decide +kernel
theorem dX3_doWhatIsAtHand_63 : decode cX3_doWhatIsAtHand 63 = .ok (.getfield 12, 3) := by decide +kernel
theorem dX3_doWhatIsAtHand_66 : decode cX3_doWhatIsAtHand 66 = .ok (.dup, 1) := by decide +kernel
theorem dX3_doWhatIsAtHand_67 : decode cX3_doWhatIsAtHand 67 = .ok (.getfield 87, 3) := by decide +kernel
theorem dX3_doWhatIsAtHand_70 : decode cX3_doWhatIsAtHand 70 = .ok (.iconst 1, 1) := by decide +kernel
theorem dX3_doWhatIsAtHand_71 : decode cX3_doWhatIsAtHand 71 = .ok (.iadd, 1) := by decide +kernel
theorem dX3_doWhatIsAtHand_72 : decode cX3_doWhatIsAtHand 72 = .ok (.putfield 87, 3) := by decide +kernel
theorem dX3_doWhatIsAtHand_75 : decode cX3_doWhatIsAtHand 75 = .ok (.return_, 1) := by decide +kernel
set_option maxRecDepth 20000 in
theorem ggX4_init_X2_init : GoodIn wsX4_init wsX2_init := goodIn_r _ [16, 17, 2, 3, 18, 19, 20, 21, 22, 23, 24, 25, 26, 96, 97, 108, 109, 110, 111, 112, 113, 114] (by decide +kernel) (by decide +kernel)
set_option maxRecDepth 20000 in
theorem gX4_init_X2_init : GoodIn wsX4_init (wsX2_init) := ggX4_init_X2_init
set_option maxRecDepth 20000 in
theorem ggX4_init_X3_init : GoodIn wsX4_init wsX3_init := goodIn_r _ [29, 30, 2, 3, 31, 32, 33, 34, 10, 35, 36, 37, 38, 39, 25, 40, 41, 42, 43, 44, 45, 46, 47, 115, 116, 117, 118, 119, 120, 121, 122, 123, 124, 98, 99, 100, 101, 102, 103, 104, 105, 106, 107] (by decide +kernel) (by decide +kernel)
set_option maxRecDepth 20000 in
theorem gX4_init_X3_init : GoodIn wsX4_init (wsX3_init) := ggX4_init_X3_init
set_option maxRecDepth 20000 in
theorem ggX4_init_X4_startAnew : GoodIn wsX4_init wsX4_startAnew := goodIn_r _ [52, 53, 5, 9, 54, 11, 55, 56, 57, 13, 58, 34, 40, 59, 60, 61, 62, 37, 44, 35, 38, 39, 41, 63, 64, 65, 33, 66, 67, 68, 69, 70, 71, 72, 73, 74, 75, 76, 77, 78, 79, 80, 81, 82, 83, 84, 85, 86, 87, 88, 89, 90, 91, 92, 93, 94, 95, 96, 97, 98, 99, 100, 101, 102, 103, 104, 105, 106, 107, 115, 116, 117, 118, 119, 120, 121, 122, 123, 124] (by decide +kernel) (by decide +kernel)
set_option maxRecDepth 20000 in
theorem gX4_init_X4_startAnew : GoodIn wsX4_init (wsV RX4 29 RX4 yX4_startAnew wsX4_startAnew) := goodIn_app (goodIn_of _ (by decide +kernel)) ggX4_init_X4_startAnew
end
section
theorem dX4_init_0 : decode cX4_init 0 = .ok (.aload_n 0, 1) := by decide +kernel
theorem dX4_init_1 : decode cX4_init 1 = .ok (.invokespecial 1, 3) := by decide +kernel
theorem dX4_init_4 : decode cX4_init 4 = .ok (.aload_n 0, 1) := by decide +kernel
theorem dX4_init_5 : decode cX4_init 5 = .ok (.bipush 6, 2) := by decide +kernel
theorem dX4_init_7 : decode cX4_init 7 = .ok (.anewarray 9, 3) := by decide +kernel
theorem dX4_init_10 : decode cX4_init 10 = .ok (.putfield 11, 3) := by decide +kernel
theorem dX4_init_13 : decode cX4_init 13 = .ok (.aload_n 0, 1) := by decide +kernel
theorem dX4_init_14 : decode cX4_init 14 = .ok (.new 15, 3) := by decide +kernel
theorem dX4_init_17 : decode cX4_init 17 = .ok (.dup, 1) := by decide +kernel
theorem dX4_init_18 : decode cX4_init 18 = .ok (.invokespecial 17, 3) := by decide +kernel
theorem dX4_init_21 : decode cX4_init 21 = .ok (.putfield 18, 3) := by decide +kernel
theorem dX4_init_24 : decode cX4_init 24 = .ok (.aload_n 0, 1) := by decide +kernel
theorem dX4_init_25 : decode cX4_init 25 = .ok (.bipush 8, 2) := by decide +kernel
theorem dX4_init_27 : decode cX4_init 27 = .ok (.newarray .int, 2) := by decide +kernel
theorem dX4_init_29 : decode cX4_init 29 = .ok (.putfield 22, 3) := by decide +kernel
theorem dX4_init_32 : decode cX4_init 32 = .ok (.iconst 0, 1) := by decide +kernel
theorem dX4_init_33 : decode cX4_init 33 = .ok (.istore_n 1, 1) := by decide +kernel
theorem dX4_init_34 : decode cX4_init 34 = .ok (.iload_n 1, 1) := by decide +kernel
theorem dX4_init_35 : decode cX4_init 35 = .ok (.bipush 6, 2) := by decide +kernel
theorem dX4_init_37 : decode cX4_init 37 = .ok (.if_icmp .ge 23, 3) := by decide +kernel
theorem dX4_init_40 : decode cX4_init 40 = .ok (.aload_n 0, 1) := by decide +kernel
theorem dX4_init_41 : decode cX4_init 41 = .ok (.getfield 11, 3) := by decide +kernel
theorem dX4_init_44 : decode cX4_init 44 = .ok (.iload_n 1, 1) := by decide +kernel
theorem dX4_init_45 : decode cX4_init 45 = .ok (.new 9, 3) := by decide +kernel
theorem dX4_init_48 : decode cX4_init 48 = .ok (.dup, 1) := by decide +kernel
theorem dX4_init_49 : decode cX4_init 49 = .ok (.iload_n 1, 1) := by decide +kernel
theorem dX4_init_50 : decode cX4_init 50 = .ok (.invokespecial 26, 3) := by decide +kernel
theorem dX4_init_53 : decode cX4_init 53 = .ok (.aastore, 1) := by decide +kernel
theorem dX4_init_54 : decode cX4_init 54 = .ok (.iinc 1 1, 3) := by decide +kernel
theorem dX4_init_57 : decode cX4_init 57 = .ok (.goto (-23), 3) := by decide +kernel
theorem dX4_init_60 : decode cX4_init 60 = .ok (.aload_n 0, 1) := by decide +kernel
theorem dX4_init_61 : decode cX4_init 61 = .ok (.iconst 4, 1) := by decide +kernel
theorem dX4_init_62 : decode cX4_init 62 = .ok (.invokevirtual 29, 3) := by decide +kernel
theorem dX4_init_65 : decode cX4_init 65 = .ok (.return_, 1) := by decide +kernel
set_option maxRecDepth 20000 in
theorem ggX4_begin_X4_startAnew : GoodIn wsX4_begin wsX4_startAnew := goodIn_r _ [5, 6, 7, 8, 9, 10, 11, 12, 13, 14, 15, 16, 17, 18, 19, 20, 21, 22, 23, 24, 25, 26, 27, 28, 29, 30, 31, 32, 33, 34, 35, 36, 37, 38, 39, 40, 41, 42, 43, 44, 45, 46, 47, 48, 49, 50, 51, 52, 53, 54, 55, 56, 57, 58, 59, 60, 61, 62, 63, 64, 65, 66, 67, 68, 69, 70, 71, 72, 73, 74, 75, 76, 77, 78, 79, 80, 81, 82, 83] (by decide +kernel) (by decide +kernel)
set_option maxRecDepth 20000 in
theorem gX4_begin_X4_startAnew : GoodIn wsX4_begin (wsV RX4 29 RX4 yX4_startAnew wsX4_startAnew) := goodIn_app (goodIn_of _ (by decide +kernel)) ggX4_begin_X4_startAnew
theorem dX4_begin_0 : decode cX4_begin 0 = .ok (.iload_n 1, 1) := by decide +kernel
theorem dX4_begin_1 : decode cX4_begin 1 = .ok (.iconst 2, 1) := by decide +kernel
theorem dX4_begin_2 : decode cX4_begin 2 = .ok (.if_icmp .lt 9, 3) := by decide +kernel
theorem dX4_begin_5 : decode cX4_begin 5 = .ok (.iload_n 1, 1) := by decide +kernel
theorem dX4_begin_6 : decode cX4_begin 6 = .ok (.bipush 6, 2) := by decide +kernel
theorem dX4_begin_8 : decode cX4_begin 8 = .ok (.if_icmp .le 5, 3) := by decide +kernel
theorem dX4_begin_11 : decode cX4_begin 11 = .ok (.iconst 0, 1) := by decide +kernel
theorem dX4_begin_12 : decode cX4_begin 12 = .ok (.ireturn, 1) := by decide +kernel
theorem dX4_begin_13 : decode cX4_begin 13 = .ok (.aload_n 0, 1) := by decide +kernel
theorem dX4_begin_14 : decode cX4_begin 14 = .ok (.iload_n 1, 1) := by decide +kernel
theorem dX4_begin_15 : decode cX4_begin 15 = .ok (.invokevirtual 29, 3) := by decide +kernel
theorem dX4_begin_18 : decode cX4_begin 18 = .ok (.iconst 1, 1) := by decide +kernel
theorem dX4_begin_19 : decode cX4_begin 19 = .ok (.ireturn, 1) := by decide +kernel
set_option maxRecDepth 20000 in
theorem ggX4_read_X4_mayStart : GoodIn wsX4_read wsX4_mayStart := goodIn_r _ [8, 1, 2, 9, 10, 11, 12, 7, 13, 14, 15, 16, 17, 18, 19, 20, 86, 87, 88, 89, 90, 91, 92, 93, 94, 95, 96, 97, 98, 99, 100, 101, 102, 103, 104, 105, 106, 107, 108, 109] (by decide +kernel) (by decide +kernel)
set_option maxRecDepth 20000 in
theorem gX4_read_X4_mayStart : GoodIn wsX4_read (wsV RX4 32 RX4 yX4_mayStart wsX4_mayStart) := goodIn_app (goodIn_of _ (by decide +kernel)) ggX4_read_X4_mayStart
set_option maxRecDepth 20000 in
theorem ggX4_read_X0_take : GoodIn wsX4_read wsX0_take := goodIn_r _ [25, 26, 27, 28, 29, 30, 31, 32, 100, 101, 102, 103, 104, 105, 106, 107, 108, 109] (by decide +kernel) (by decide +kernel)
set_option maxRecDepth 20000 in
theorem gX4_read_X0_take : GoodIn wsX4_read (wsV RX4 40 RX0 yX0_take wsX0_take) := goodIn_app (goodIn_of _ (by decide +kernel)) ggX4_read_X0_take
set_option maxRecDepth 20000 in
theorem ggX4_read_X4_ask : GoodIn wsX4_read wsX4_ask := goodIn_r _ [36, 2, 37, 9, 38, 39, 40, 41, 42, 43, 7, 44, 45, 46, 47, 48, 49, 50, 51, 52, 53, 54, 55, 56, 57, 58, 59, 60, 61, 62, 63, 90, 91, 92, 93, 94, 95, 96, 97, 98, 99, 100, 101, 102, 103, 104, 105, 106, 107, 108, 109, 110, 111, 112, 113, 114, 115, 116, 86, 87, 88, 89, 117, 118] (by decide +kernel) (by decide +kernel)
set_option maxRecDepth 20000 in
theorem gX4_read_X4_ask : GoodIn wsX4_read (wsV RX4 49 RX4 yX4_ask wsX4_ask) := goodIn_app (goodIn_of _ (by decide +kernel)) ggX4_read_X4_ask
set_option maxRecDepth 20000 in
theorem ggX4_read_X4_finish : GoodIn wsX4_read wsX4_finish := goodIn_r _ [67, 45, 68, 69, 70, 71, 72, 73, 74, 75, 76, 77, 78, 79, 80, 81, 86, 87, 88, 89, 90, 91, 92, 93, 94, 95, 96, 97, 98, 99, 100, 101, 102, 103, 104, 105, 106, 107, 108, 109] (by decide +kernel) (by decide +kernel)
set_option maxRecDepth 20000 in
theorem gX4_read_X4_finish : GoodIn wsX4_read (wsV RX4 53 RX4 yX4_finish wsX4_finish) := goodIn_app (goodIn_of _ (by decide +kernel)) ggX4_read_X4_finish
set_option maxRecDepth 20000 in
theorem ggX4_read_X4_doneAtOnce : GoodIn wsX4_read wsX4_doneAtOnce := goodIn_r _ [85, 2, 9, 45, 90, 91, 92, 93, 94, 95, 96, 97, 98, 99, 100, 101, 102, 103, 104, 105, 106, 107, 108, 109, 86, 87, 88, 89] (by decide +kernel) (by decide +kernel)
set_option maxRecDepth 20000 in
theorem gX4_read_X4_doneAtOnce : GoodIn wsX4_read (wsV RX4 57 RX4 yX4_doneAtOnce wsX4_doneAtOnce) := goodIn_app (goodIn_of _ (by decide +kernel)) ggX4_read_X4_doneAtOnce
theorem dX4_read_0 : decode cX4_read 0 = .ok (.aload_n 0, 1) := by decide +kernel
theorem dX4_read_1 : decode cX4_read 1 = .ok (.iload_n 1, 1) := by decide +kernel
theorem dX4_read_2 : decode cX4_read 2 = .ok (.iload_n 2, 1) := by decide +kernel
theorem dX4_read_3 : decode cX4_read 3 = .ok (.iload_n 3, 1) := by decide +kernel
theorem dX4_read_4 : decode cX4_read 4 = .ok (.invokevirtual 32, 3) := by decide +kernel
theorem dX4_read_7 : decode cX4_read 7 = .ok (.ifCond .ne 5, 3) := by decide +kernel
theorem dX4_read_10 : decode cX4_read 10 = .ok (.iconst (-1), 1) := by decide +kernel
theorem dX4_read_11 : decode cX4_read 11 = .ok (.ireturn, 1) := by decide +kernel
theorem dX4_read_12 : decode cX4_read 12 = .ok (.aload_n 0, 1) := by decide +kernel
theorem dX4_read_13 : decode cX4_read 13 = .ok (.getfield 11, 3) := by decide +kernel
theorem dX4_read_16 : decode cX4_read 16 = .ok (.iload_n 1, 1) := by decide +kernel
theorem dX4_read_17 : decode cX4_read 17 = .ok (.aaload, 1) := by decide +kernel
theorem dX4_read_18 : decode cX4_read 18 = .ok (.astore 4, 2) := by decide +kernel
theorem dX4_read_20 : decode cX4_read 20 = .ok (.aload 4, 2) := by decide +kernel
theorem dX4_read_22 : decode cX4_read 22 = .ok (.getfield 36, 3) := by decide +kernel
theorem dX4_read_25 : decode cX4_read 25 = .ok (.iload_n 2, 1) := by decide +kernel
theorem dX4_read_26 : decode cX4_read 26 = .ok (.iload_n 3, 1) := by decide +kernel
theorem dX4_read_27 : decode cX4_read 27 = .ok (.iconst 0, 1) := by decide +kernel
theorem dX4_read_28 : decode cX4_read 28 = .ok (.lconst 0, 1) := by decide +kernel
theorem dX4_read_29 : decode cX4_read 29 = .ok (.invokevirtual 40, 3) := by decide +kernel
theorem dX4_read_32 : decode cX4_read 32 = .ok (.aload 4, 2) := by decide +kernel
theorem dX4_read_34 : decode cX4_read 34 = .ok (.getfield 46, 3) := by decide +kernel
theorem dX4_read_37 : decode cX4_read 37 = .ok (.iload_n 2, 1) := by decide +kernel
theorem dX4_read_38 : decode cX4_read 38 = .ok (.iaload, 1) := by decide +kernel
theorem dX4_read_39 : decode cX4_read 39 = .ok (.ifCond .ne 14, 3) := by decide +kernel
theorem dX4_read_42 : decode cX4_read 42 = .ok (.aload_n 0, 1) := by decide +kernel
theorem dX4_read_43 : decode cX4_read 43 = .ok (.aload 4, 2) := by decide +kernel
theorem dX4_read_45 : decode cX4_read 45 = .ok (.iconst 1, 1) := by decide +kernel
theorem dX4_read_46 : decode cX4_read 46 = .ok (.iconst 1, 1) := by decide +kernel
theorem dX4_read_47 : decode cX4_read 47 = .ok (.invokevirtual 49, 3) := by decide +kernel
theorem dX4_read_50 : decode cX4_read 50 = .ok (.goto 9, 3) := by decide +kernel
theorem dX4_read_53 : decode cX4_read 53 = .ok (.aload_n 0, 1) := by decide +kernel
theorem dX4_read_54 : decode cX4_read 54 = .ok (.aload 4, 2) := by decide +kernel
theorem dX4_read_56 : decode cX4_read 56 = .ok (.invokevirtual 53, 3) := by decide +kernel
theorem dX4_read_59 : decode cX4_read 59 = .ok (.aload_n 0, 1) := by decide +kernel
theorem dX4_read_60 : decode cX4_read 60 = .ok (.aload 4, 2) := by decide +kernel
theorem dX4_read_62 : decode cX4_read 62 = .ok (.invokevirtual 57, 3) := by decide +kernel
theorem dX4_read_65 : decode cX4_read 65 = .ok (.ireturn, 1) := by decide +kernel
set_option maxRecDepth 20000 in
theorem ggX4_write_X4_mayStart : GoodIn wsX4_write wsX4_mayStart := goodIn_r _ [9, 1, 2, 10, 11, 12, 13, 8, 14, 15, 16, 17, 18, 19, 20, 21, 139, 140, 141, 142, 143, 144, 145, 146, 147, 148, 149, 150, 151, 152, 153, 154, 155, 156, 157, 158, 159, 160, 161, 162] (by decide +kernel) (by decide +kernel)
set_option maxRecDepth 20000 in
theorem gX4_write_X4_mayStart : GoodIn wsX4_write (wsV RX4 32 RX4 yX4_mayStart wsX4_mayStart) := goodIn_app (goodIn_of _ (by decide +kernel)) ggX4_write_X4_mayStart
set_option maxRecDepth 20000 in
theorem ggX4_write_X0_take : GoodIn wsX4_write wsX0_take := goodIn_r _ [26, 27, 28, 29, 30, 31, 32, 33, 153, 154, 155, 156, 157, 158, 159, 160, 161, 162] (by decide +kernel) (by decide +kernel)
set_option maxRecDepth 20000 in
theorem gX4_write_X0_take : GoodIn wsX4_write (wsV RX4 40 RX0 yX0_take wsX0_take) := goodIn_app (goodIn_of _ (by decide +kernel)) ggX4_write_X0_take
set_option maxRecDepth 20000 in
theorem ggX4_write_X4_finish : GoodIn wsX4_write wsX4_finish := goodIn_r _ [37, 38, 39, 40, 41, 42, 43, 44, 45, 46, 47, 48, 49, 50, 51, 52, 139, 140, 141, 142, 143, 144, 145, 146, 147, 148, 149, 150, 151, 152, 153, 154, 155, 156, 157, 158, 159, 160, 161, 162] (by decide +kernel) (by decide +kernel)
set_option maxRecDepth 20000 in
theorem gX4_write_X4_finish : GoodIn wsX4_write (wsV RX4 53 RX4 yX4_finish wsX4_finish) := goodIn_app (goodIn_of _ (by decide +kernel)) ggX4_write_X4_finish
set_option maxRecDepth 20000 in
theorem ggX4_write_X4_callBack : GoodIn wsX4_write wsX4_callBack := goodIn_r _ [56, 2, 57, 58, 10, 15, 59, 38, 60, 61, 62, 63, 8, 64, 65, 66, 67, 68, 69, 70, 71, 72, 73, 74, 75, 76, 77, 78, 79, 80, 81, 82, 143, 144, 145, 146, 147, 148, 149, 150, 151, 152, 153, 154, 155, 156, 157, 158, 159, 160, 161, 162, 139, 140, 141, 142, 163, 164, 165, 166, 167, 168, 169, 170, 171] (by decide +kernel) (by decide +kernel)
set_option maxRecDepth 20000 in
theorem gX4_write_X4_callBack : GoodIn wsX4_write (wsV RX4 65 RX4 yX4_callBack wsX4_callBack) := goodIn_app (goodIn_of _ (by decide +kernel)) ggX4_write_X4_callBack
set_option maxRecDepth 20000 in
theorem ggX4_write_X4_finishIfAllAnswered : GoodIn wsX4_write wsX4_finishIfAllAnswered := goodIn_r _ [86, 2, 10, 60, 57, 3, 34, 35, 36, 8, 37, 38, 39, 40, 41, 42, 43, 44, 45, 46, 47, 48, 49, 50, 51, 52, 87, 88, 89, 90, 91, 92, 93, 94, 95, 96, 97, 4, 98, 99, 100, 25, 101, 102, 28, 103, 104, 105, 106, 107, 108, 109, 110, 111, 112, 113, 59, 114, 115, 61, 62, 63, 64, 65, 66, 67, 68, 69, 70, 71, 72, 73, 74, 75, 76, 77, 78, 79, 80, 81, 82, 116, 117, 118, 119, 58, 120, 121, 122, 123, 124, 125, 126, 127, 128, 129, 130, 143, 144, 145, 146, 147, 148, 149, 150, 151, 152, 153, 154, 155, 156, 157, 158, 159, 160, 161, 162, 139, 140, 141, 142, 165, 166, 167, 168, 169, 170, 171, 163, 164] (by decide +kernel) (by decide +kernel)
set_option maxRecDepth 20000 in
theorem gX4_write_X4_finishIfAllAnswered : GoodIn wsX4_write (wsV RX4 68 RX4 yX4_finishIfAllAnswered wsX4_finishIfAllAnswered) := goodIn_app (goodIn_of _ (by decide +kernel)) ggX4_write_X4_finishIfAllAnswered
set_option maxRecDepth 20000 in
theorem ggX4_write_X4_ask : GoodIn wsX4_write wsX4_ask := goodIn_r _ [134, 2, 57, 10, 59, 114, 115, 61, 62, 63, 8, 64, 38, 65, 66, 67, 68, 69, 70, 71, 72, 73, 74, 75, 76, 77, 78, 79, 80, 81, 82, 143, 144, 145, 146, 147, 148, 149, 150, 151, 152, 153, 154, 155, 156, 157, 158, 159, 160, 161, 162, 165, 166, 167, 168, 169, 170, 171, 139, 140, 141, 142, 163, 164] (by decide +kernel) (by decide +kernel)
set_option maxRecDepth 20000 in
theorem gX4_write_X4_ask : GoodIn wsX4_write (wsV RX4 49 RX4 yX4_ask wsX4_ask) := goodIn_app (goodIn_of _ (by decide +kernel)) ggX4_write_X4_ask
set_option maxRecDepth 20000 in
theorem ggX4_write_X4_doneAtOnce : GoodIn wsX4_write wsX4_doneAtOnce := goodIn_r _ [138, 2, 10, 38, 143, 144, 145, 146, 147, 148, 149, 150, 151, 152, 153, 154, 155, 156, 157, 158, 159, 160, 161, 162, 139, 140, 141, 142] (by decide +kernel) (by decide +kernel)
set_option maxRecDepth 20000 in
theorem gX4_write_X4_doneAtOnce : GoodIn wsX4_write (wsV RX4 57 RX4 yX4_doneAtOnce wsX4_doneAtOnce) := goodIn_app (goodIn_of _ (by decide +kernel)) ggX4_write_X4_doneAtOnce
theorem dX4_write_0 : decode cX4_write 0 = .ok (.aload_n 0, 1) := by decide +kernel
theorem dX4_write_1 : decode cX4_write 1 = .ok (.iload_n 1, 1) := by decide +kernel
theorem dX4_write_2 : decode cX4_write 2 = .ok (.iload_n 2, 1) := by decide +kernel
theorem dX4_write_3 : decode cX4_write 3 = .ok (.iload_n 3, 1) := by decide +kernel
theorem dX4_write_4 : decode cX4_write 4 = .ok (.invokevirtual 32, 3) := by decide +kernel
theorem dX4_write_7 : decode cX4_write 7 = .ok (.ifCond .ne 5, 3) := by decide +kernel
theorem dX4_write_10 : decode cX4_write 10 = .ok (.iconst (-1), 1) := by decide +kernel
theorem dX4_write_11 : decode cX4_write 11 = .ok (.ireturn, 1) := by decide +kernel
theorem dX4_write_12 : decode cX4_write 12 = .ok (.aload_n 0, 1) := by decide +kernel
theorem dX4_write_13 : decode cX4_write 13 = .ok (.getfield 11, 3) := by decide +kernel
theorem dX4_write_16 : decode cX4_write 16 = .ok (.iload_n 1, 1) := by decide +kernel
theorem dX4_write_17 : decode cX4_write 17 = .ok (.aaload, 1) := by decide +kernel
theorem dX4_write_18 : decode cX4_write 18 = .ok (.astore 6, 2) := by decide +kernel
theorem dX4_write_20 : decode cX4_write 20 = .ok (.aload 6, 2) := by decide +kernel
theorem dX4_write_22 : decode cX4_write 22 = .ok (.getfield 36, 3) := by decide +kernel
theorem dX4_write_25 : decode cX4_write 25 = .ok (.iload_n 2, 1) := by decide +kernel
theorem dX4_write_26 : decode cX4_write 26 = .ok (.iload_n 3, 1) := by decide +kernel
theorem dX4_write_27 : decode cX4_write 27 = .ok (.iconst 1, 1) := by decide +kernel
theorem dX4_write_28 : decode cX4_write 28 = .ok (.lload 4, 2) := by decide +kernel
theorem dX4_write_30 : decode cX4_write 30 = .ok (.invokevirtual 40, 3) := by decide +kernel
theorem dX4_write_33 : decode cX4_write 33 = .ok (.aload 6, 2) := by decide +kernel
theorem dX4_write_35 : decode cX4_write 35 = .ok (.getfield 46, 3) := by decide +kernel
theorem dX4_write_38 : decode cX4_write 38 = .ok (.iload_n 2, 1) := by decide +kernel
theorem dX4_write_39 : decode cX4_write 39 = .ok (.iaload, 1) := by decide +kernel
theorem dX4_write_40 : decode cX4_write 40 = .ok (.iconst 2, 1) := by decide +kernel
theorem dX4_write_41 : decode cX4_write 41 = .ok (.if_icmp .ne 12, 3) := by decide +kernel
theorem dX4_write_44 : decode cX4_write 44 = .ok (.aload_n 0, 1) := by decide +kernel
theorem dX4_write_45 : decode cX4_write 45 = .ok (.aload 6, 2) := by decide +kernel
theorem dX4_write_47 : decode cX4_write 47 = .ok (.invokevirtual 53, 3) := by decide +kernel
theorem dX4_write_50 : decode cX4_write 50 = .ok (.goto 36, 3) := by decide +kernel
theorem dX4_write_53 : decode cX4_write 53 = .ok (.aload 6, 2) := by decide +kernel
theorem dX4_write_55 : decode cX4_write 55 = .ok (.getfield 61, 3) := by decide +kernel
theorem dX4_write_58 : decode cX4_write 58 = .ok (.iload_n 2, 1) := by decide +kernel
theorem dX4_write_59 : decode cX4_write 59 = .ok (.baload, 1) := by decide +kernel
theorem dX4_write_60 : decode cX4_write 60 = .ok (.ifCond .eq 18, 3) := by decide +kernel
theorem dX4_write_63 : decode cX4_write 63 = .ok (.aload_n 0, 1) := by decide +kernel
theorem dX4_write_64 : decode cX4_write 64 = .ok (.aload 6, 2) := by decide +kernel
theorem dX4_write_66 : decode cX4_write 66 = .ok (.invokevirtual 65, 3) := by decide +kernel
theorem dX4_write_69 : decode cX4_write 69 = .ok (.aload_n 0, 1) := by decide +kernel
theorem dX4_write_70 : decode cX4_write 70 = .ok (.aload 6, 2) := by decide +kernel
theorem dX4_write_72 : decode cX4_write 72 = .ok (.invokevirtual 68, 3) := by decide +kernel
theorem dX4_write_75 : decode cX4_write 75 = .ok (.goto 11, 3) := by decide +kernel
theorem dX4_write_78 : decode cX4_write 78 = .ok (.aload_n 0, 1) := by decide +kernel
theorem dX4_write_79 : decode cX4_write 79 = .ok (.aload 6, 2) := by decide +kernel
theorem dX4_write_81 : decode cX4_write 81 = .ok (.iconst 2, 1) := by decide +kernel
theorem dX4_write_82 : decode cX4_write 82 = .ok (.iconst 2, 1) := by decide +kernel
theorem dX4_write_83 : decode cX4_write 83 = .ok (.invokevirtual 49, 3) := by decide +kernel
theorem dX4_write_86 : decode cX4_write 86 = .ok (.aload_n 0, 1) := by decide +kernel
theorem dX4_write_87 : decode cX4_write 87 = .ok (.aload 6, 2) := by decide +kernel
theorem dX4_write_89 : decode cX4_write 89 = .ok (.invokevirtual 57, 3) := by decide +kernel
theorem dX4_write_92 : decode cX4_write 92 = .ok (.ireturn, 1) := by decide +kernel
set_option maxRecDepth 20000 in
theorem ggX4_deliver_X2_has : GoodIn wsX4_deliver wsX2_has := goodIn_r _ [14, 15, 163, 164] (by decide +kernel) (by decide +kernel)
set_option maxRecDepth 20000 in
theorem gX4_deliver_X2_has : GoodIn wsX4_deliver (wsV RX4 71 RX2 yX2_has wsX2_has) := goodIn_app (goodIn_of _ (by decide +kernel)) ggX4_deliver_X2_has
set_option maxRecDepth 20000 in
theorem ggX4_deliver_X2_takeOut : GoodIn wsX4_deliver wsX2_takeOut := goodIn_r _ [19, 20, 15, 163, 164] (by decide +kernel) (by decide +kernel)
set_option maxRecDepth 20000 in
theorem gX4_deliver_X2_takeOut : GoodIn wsX4_deliver (wsV RX4 75 RX2 yX2_takeOut wsX2_takeOut) := goodIn_app (goodIn_of _ (by decide +kernel)) ggX4_deliver_X2_takeOut
set_option maxRecDepth 20000 in
theorem ggX4_deliver_X4_askingComes : GoodIn wsX4_deliver wsX4_askingComes := goodIn_r _ [25, 8, 26, 27, 28, 29, 30, 31, 32, 33, 34, 35, 36, 37, 38, 39, 40, 41, 42, 43, 44, 24, 45, 46, 47, 6, 48, 49, 50, 51, 52, 1, 53, 54, 55, 13, 56, 15, 57, 58, 59, 60, 20, 61, 62, 63, 64, 65, 66, 67, 68, 69, 70, 71, 72, 73, 74, 75, 76, 77, 78, 79, 80, 81, 82, 83, 143, 144, 145, 146, 147, 148, 149, 150, 151, 152, 153, 154, 155, 156, 157, 158, 159, 160, 161, 162, 136, 137, 138, 139, 140, 141, 142, 132, 133, 134, 135, 163, 164] (by decide +kernel) (by decide +kernel)
set_option maxRecDepth 20000 in
theorem gX4_deliver_X4_askingComes : GoodIn wsX4_deliver (wsV RX4 94 RX4 yX4_askingComes wsX4_askingComes) := goodIn_app (goodIn_of _ (by decide +kernel)) ggX4_deliver_X4_askingComes
set_option maxRecDepth 20000 in
theorem ggX4_deliver_X4_givenToRead : GoodIn wsX4_deliver wsX4_givenToRead := goodIn_r _ [87, 5, 74, 73, 75, 76, 77, 78, 47, 7, 72, 8, 88, 89, 90, 91, 24, 92, 48, 93, 94, 95, 37, 96, 97, 98, 99, 100, 101, 102, 103, 104, 105, 136, 137, 138, 139, 140, 141, 142, 143, 144, 145, 146, 147, 148, 149, 150, 151, 152, 153, 154, 155, 156, 157, 158, 159, 160, 161, 162, 132, 133, 134, 135] (by decide +kernel) (by decide +kernel)
set_option maxRecDepth 20000 in
theorem gX4_deliver_X4_givenToRead : GoodIn wsX4_deliver (wsV RX4 98 RX4 yX4_givenToRead wsX4_givenToRead) := goodIn_app (goodIn_of _ (by decide +kernel)) ggX4_deliver_X4_givenToRead
set_option maxRecDepth 20000 in
theorem ggX4_deliver_X4_givenToWrite : GoodIn wsX4_deliver wsX4_givenToWrite := goodIn_r _ [109, 5, 74, 73, 75, 76, 77, 78, 71, 83, 46, 26, 47, 110, 111, 112, 24, 113, 8, 114, 115, 116, 48, 9, 49, 50, 51, 52, 1, 53, 54, 55, 13, 56, 15, 57, 58, 59, 60, 20, 61, 62, 63, 64, 65, 66, 136, 137, 138, 139, 140, 141, 142, 143, 144, 145, 146, 147, 148, 149, 150, 151, 152, 153, 154, 155, 156, 157, 158, 159, 160, 161, 162, 132, 133, 134, 135, 163, 164] (by decide +kernel) (by decide +kernel)
set_option maxRecDepth 20000 in
theorem gX4_deliver_X4_givenToWrite : GoodIn wsX4_deliver (wsV RX4 102 RX4 yX4_givenToWrite wsX4_givenToWrite) := goodIn_app (goodIn_of _ (by decide +kernel)) ggX4_deliver_X4_givenToWrite
set_option maxRecDepth 20000 in
theorem ggX4_deliver_X4_finishIfAllAnswered : GoodIn wsX4_deliver wsX4_finishIfAllAnswered := goodIn_r _ [120, 8, 115, 9, 114, 72, 89, 90, 91, 24, 92, 48, 93, 94, 95, 37, 96, 97, 98, 99, 100, 101, 102, 103, 104, 105, 121, 122, 123, 124, 125, 126, 127, 21, 22, 23, 25, 26, 27, 28, 29, 30, 31, 32, 33, 34, 35, 36, 38, 39, 40, 41, 42, 43, 44, 45, 46, 47, 6, 49, 50, 51, 52, 1, 53, 54, 55, 13, 56, 15, 57, 58, 59, 60, 20, 61, 62, 63, 64, 65, 66, 67, 68, 69, 70, 71, 73, 74, 75, 76, 77, 78, 79, 80, 81, 82, 83, 143, 144, 145, 146, 147, 148, 149, 150, 151, 152, 153, 154, 155, 156, 157, 158, 159, 160, 161, 162, 132, 133, 134, 135, 136, 137, 138, 139, 140, 141, 142, 163, 164] (by decide +kernel) (by decide +kernel)
set_option maxRecDepth 20000 in
theorem gX4_deliver_X4_finishIfAllAnswered : GoodIn wsX4_deliver (wsV RX4 68 RX4 yX4_finishIfAllAnswered wsX4_finishIfAllAnswered) := goodIn_app (goodIn_of _ (by decide +kernel)) ggX4_deliver_X4_finishIfAllAnswered
set_option maxRecDepth 20000 in
theorem ggX4_deliver_X4_calledBack : GoodIn wsX4_deliver wsX4_calledBack := goodIn_r _ [131, 72, 47, 8, 88, 46, 27, 28, 29, 30, 31, 32, 33, 49, 50, 51, 24, 52, 48, 1, 53, 54, 55, 13, 56, 15, 57, 58, 59, 60, 20, 61, 62, 63, 64, 65, 66, 143, 144, 145, 146, 147, 148, 149, 150, 151, 152, 153, 154, 155, 156, 157, 158, 159, 160, 161, 162, 132, 133, 134, 135, 163, 164, 136, 137, 138, 139, 140, 141, 142] (by decide +kernel) (by decide +kernel)
set_option maxRecDepth 20000 in
theorem gX4_deliver_X4_calledBack : GoodIn wsX4_deliver (wsV RX4 108 RX4 yX4_calledBack wsX4_calledBack) := goodIn_app (goodIn_of _ (by decide +kernel)) ggX4_deliver_X4_calledBack
theorem dX4_deliver_0 : decode cX4_deliver 0 = .ok (.aload_n 0, 1) := by decide +kernel
theorem dX4_deliver_1 : decode cX4_deliver 1 = .ok (.getfield 18, 3) := by decide +kernel
theorem dX4_deliver_4 : decode cX4_deliver 4 = .ok (.iload_n 1, 1) := by decide +kernel
theorem dX4_deliver_5 : decode cX4_deliver 5 = .ok (.invokevirtual 71, 3) := by decide +kernel
theorem dX4_deliver_8 : decode cX4_deliver 8 = .ok (.ifCond .ne 5, 3) := by decide +kernel
theorem dX4_deliver_11 : decode cX4_deliver 11 = .ok (.iconst (-1), 1) := by decide +kernel
theorem dX4_deliver_12 : decode cX4_deliver 12 = .ok (.ireturn, 1) := by decide +kernel
theorem dX4_deliver_13 : decode cX4_deliver 13 = .ok (.aload_n 0, 1) := by decide +kernel
theorem dX4_deliver_14 : decode cX4_deliver 14 = .ok (.getfield 18, 3) := by decide +kernel
theorem dX4_deliver_17 : decode cX4_deliver 17 = .ok (.iload_n 1, 1) := by decide +kernel
theorem dX4_deliver_18 : decode cX4_deliver 18 = .ok (.invokevirtual 75, 3) := by decide +kernel
theorem dX4_deliver_21 : decode cX4_deliver 21 = .ok (.astore_n 2, 1) := by decide +kernel
theorem dX4_deliver_22 : decode cX4_deliver 22 = .ok (.aload_n 0, 1) := by decide +kernel
theorem dX4_deliver_23 : decode cX4_deliver 23 = .ok (.getfield 11, 3) := by decide +kernel
theorem dX4_deliver_26 : decode cX4_deliver 26 = .ok (.aload_n 2, 1) := by decide +kernel
theorem dX4_deliver_27 : decode cX4_deliver 27 = .ok (.getfield 79, 3) := by decide +kernel
theorem dX4_deliver_30 : decode cX4_deliver 30 = .ok (.aaload, 1) := by decide +kernel
theorem dX4_deliver_31 : decode cX4_deliver 31 = .ok (.astore_n 3, 1) := by decide +kernel
theorem dX4_deliver_32 : decode cX4_deliver 32 = .ok (.aload_n 2, 1) := by decide +kernel
theorem dX4_deliver_33 : decode cX4_deliver 33 = .ok (.getfield 85, 3) := by decide +kernel
theorem dX4_deliver_36 : decode cX4_deliver 36 = .ok (.tableswitch 95 1 5 #[36, 36, 56, 65, 79], 36) := by decide +kernel
theorem dX4_deliver_72 : decode cX4_deliver 72 = .ok (.aload_n 0, 1) := by decide +kernel
theorem dX4_deliver_73 : decode cX4_deliver 73 = .ok (.aload_n 3, 1) := by decide +kernel
theorem dX4_deliver_74 : decode cX4_deliver 74 = .ok (.aload_n 2, 1) := by decide +kernel
theorem dX4_deliver_75 : decode cX4_deliver 75 = .ok (.getfield 85, 3) := by decide +kernel
theorem dX4_deliver_78 : decode cX4_deliver 78 = .ok (.aload_n 2, 1) := by decide +kernel
theorem dX4_deliver_79 : decode cX4_deliver 79 = .ok (.getfield 88, 3) := by decide +kernel
theorem dX4_deliver_82 : decode cX4_deliver 82 = .ok (.aload_n 2, 1) := by decide +kernel
theorem dX4_deliver_83 : decode cX4_deliver 83 = .ok (.getfield 91, 3) := by decide +kernel
theorem dX4_deliver_86 : decode cX4_deliver 86 = .ok (.invokevirtual 94, 3) := by decide +kernel
theorem dX4_deliver_89 : decode cX4_deliver 89 = .ok (.goto 60, 3) := by decide +kernel
theorem dX4_deliver_92 : decode cX4_deliver 92 = .ok (.aload_n 0, 1) := by decide +kernel
theorem dX4_deliver_93 : decode cX4_deliver 93 = .ok (.aload_n 3, 1) := by decide +kernel
theorem dX4_deliver_94 : decode cX4_deliver 94 = .ok (.aload_n 2, 1) := by decide +kernel
theorem dX4_deliver_95 : decode cX4_deliver 95 = .ok (.invokevirtual 98, 3) := by decide +kernel
theorem dX4_deliver_98 : decode cX4_deliver 98 = .ok (.goto 51, 3) := by decide +kernel
theorem dX4_deliver_101 : decode cX4_deliver 101 = .ok (.aload_n 0, 1) := by decide +kernel
theorem dX4_deliver_102 : decode cX4_deliver 102 = .ok (.aload_n 3, 1) := by decide +kernel
theorem dX4_deliver_103 : decode cX4_deliver 103 = .ok (.aload_n 2, 1) := by decide +kernel
theorem dX4_deliver_104 : decode cX4_deliver 104 = .ok (.invokevirtual 102, 3) := by decide +kernel
theorem dX4_deliver_107 : decode cX4_deliver 107 = .ok (.aload_n 0, 1) := by decide +kernel
theorem dX4_deliver_108 : decode cX4_deliver 108 = .ok (.aload_n 3, 1) := by decide +kernel
theorem dX4_deliver_109 : decode cX4_deliver 109 = .ok (.invokevirtual 68, 3) := by decide +kernel
theorem dX4_deliver_112 : decode cX4_deliver 112 = .ok (.goto 37, 3) := by decide +kernel
theorem dX4_deliver_115 : decode cX4_deliver 115 = .ok (.aload_n 0, 1) := by decide +kernel
theorem dX4_deliver_116 : decode cX4_deliver 116 = .ok (.aload_n 3, 1) := by decide +kernel
theorem dX4_deliver_117 : decode cX4_deliver 117 = .ok (.aload_n 2, 1) := by decide +kernel
theorem dX4_deliver_118 : decode cX4_deliver 118 = .ok (.getfield 88, 3) := by decide +kernel
theorem dX4_deliver_121 : decode cX4_deliver 121 = .ok (.aload_n 2, 1) := by decide +kernel
theorem dX4_deliver_122 : decode cX4_deliver 122 = .ok (.getfield 105, 3) := by decide +kernel
theorem dX4_deliver_125 : decode cX4_deliver 125 = .ok (.invokevirtual 108, 3) := by decide +kernel
theorem dX4_deliver_128 : decode cX4_deliver 128 = .ok (.goto 21, 3) := by decide +kernel
theorem dX4_deliver_131 : decode cX4_deliver 131 = .ok (.aload_n 3, 1) := by decide +kernel
theorem dX4_deliver_132 : decode cX4_deliver 132 = .ok (.getfield 36, 3) := by decide +kernel
theorem dX4_deliver_135 : decode cX4_deliver 135 = .ok (.dup, 1) := by decide +kernel
theorem dX4_deliver_136 : decode cX4_deliver 136 = .ok (.getfield 111, 3) := by decide +kernel
theorem dX4_deliver_139 : decode cX4_deliver 139 = .ok (.iconst 1, 1) := by decide +kernel
theorem dX4_deliver_140 : decode cX4_deliver 140 = .ok (.isub, 1) := by decide +kernel
theorem dX4_deliver_141 : decode cX4_deliver 141 = .ok (.putfield 111, 3) := by decide +kernel
theorem dX4_deliver_144 : decode cX4_deliver 144 = .ok (.aload_n 0, 1) := by decide +kernel
theorem dX4_deliver_145 : decode cX4_deliver 145 = .ok (.aload_n 3, 1) := by decide +kernel
theorem dX4_deliver_146 : decode cX4_deliver 146 = .ok (.invokevirtual 68, 3) := by decide +kernel
theorem dX4_deliver_149 : decode cX4_deliver 149 = .ok (.aload_n 2, 1) := by decide +kernel
theorem dX4_deliver_150 : decode cX4_deliver 150 = .ok (.getfield 85, 3) := by decide +kernel
theorem dX4_deliver_153 : decode cX4_deliver 153 = .ok (.ireturn, 1) := by decide +kernel
set_option maxRecDepth 20000 in
theorem ggX4_waits_X4_isNode : GoodIn wsX4_waits wsX4_isNode := goodIn_r _ [8, 9, 10, 11, 12, 13] (by decide +kernel) (by decide +kernel)
set_option maxRecDepth 20000 in
theorem gX4_waits_X4_isNode : GoodIn wsX4_waits (wsV RX4 114 RX4 yX4_isNode wsX4_isNode) := goodIn_app (goodIn_of _ (by decide +kernel)) ggX4_waits_X4_isNode
theorem dX4_waits_0 : decode cX4_waits 0 = .ok (.aload_n 0, 1) := by decide +kernel
theorem dX4_waits_1 : decode cX4_waits 1 = .ok (.iload_n 1, 1) := by decide +kernel
theorem dX4_waits_2 : decode cX4_waits 2 = .ok (.invokevirtual 114, 3) := by decide +kernel
theorem dX4_waits_5 : decode cX4_waits 5 = .ok (.ifCond .eq 18, 3) := by decide +kernel
theorem dX4_waits_8 : decode cX4_waits 8 = .ok (.aload_n 0, 1) := by decide +kernel
theorem dX4_waits_9 : decode cX4_waits 9 = .ok (.getfield 11, 3) := by decide +kernel
theorem dX4_waits_12 : decode cX4_waits 12 = .ok (.iload_n 1, 1) := by decide +kernel
theorem dX4_waits_13 : decode cX4_waits 13 = .ok (.aaload, 1) := by decide +kernel
theorem dX4_waits_14 : decode cX4_waits 14 = .ok (.getfield 36, 3) := by decide +kernel
theorem dX4_waits_17 : decode cX4_waits 17 = .ok (.getfield 117, 3) := by decide +kernel
theorem dX4_waits_20 : decode cX4_waits 20 = .ok (.goto 4, 3) := by decide +kernel
theorem dX4_waits_23 : decode cX4_waits 23 = .ok (.iconst (-1), 1) := by decide +kernel
theorem dX4_waits_24 : decode cX4_waits 24 = .ok (.ireturn, 1) := by decide +kernel
set_option maxRecDepth 20000 in
theorem ggX4_at_X4_isNode : GoodIn wsX4_at wsX4_isNode := goodIn_r _ [13, 14, 15, 16, 17, 18] (by decide +kernel) (by decide +kernel)
set_option maxRecDepth 20000 in
theorem gX4_at_X4_isNode : GoodIn wsX4_at (wsV RX4 114 RX4 yX4_isNode wsX4_isNode) := goodIn_app (goodIn_of _ (by decide +kernel)) ggX4_at_X4_isNode
theorem dX4_at_0 : decode cX4_at 0 = .ok (.aload_n 0, 1) := by decide +kernel
theorem dX4_at_1 : decode cX4_at 1 = .ok (.iload_n 1, 1) := by decide +kernel
theorem dX4_at_2 : decode cX4_at 2 = .ok (.invokevirtual 114, 3) := by decide +kernel
theorem dX4_at_5 : decode cX4_at 5 = .ok (.ifCond .ne 5, 3) := by decide +kernel
theorem dX4_at_8 : decode cX4_at 8 = .ok (.iconst (-1), 1) := by decide +kernel
theorem dX4_at_9 : decode cX4_at 9 = .ok (.ireturn, 1) := by decide +kernel
theorem dX4_at_10 : decode cX4_at 10 = .ok (.aload_n 0, 1) := by decide +kernel
theorem dX4_at_11 : decode cX4_at 11 = .ok (.getfield 11, 3) := by decide +kernel
theorem dX4_at_14 : decode cX4_at 14 = .ok (.iload_n 1, 1) := by decide +kernel
theorem dX4_at_15 : decode cX4_at 15 = .ok (.aaload, 1) := by decide +kernel
theorem dX4_at_16 : decode cX4_at 16 = .ok (.getfield 36, 3) := by decide +kernel
theorem dX4_at_19 : decode cX4_at 19 = .ok (.astore_n 3, 1) := by decide +kernel
theorem dX4_at_20 : decode cX4_at 20 = .ok (.iload_n 2, 1) := by decide +kernel
theorem dX4_at_21 : decode cX4_at 21 = .ok (.iconst 4, 1) := by decide +kernel
theorem dX4_at_22 : decode cX4_at 22 = .ok (.if_icmp .ne 8, 3) := by decide +kernel
theorem dX4_at_25 : decode cX4_at 25 = .ok (.aload_n 3, 1) := by decide +kernel
theorem dX4_at_26 : decode cX4_at 26 = .ok (.getfield 120, 3) := by decide +kernel
theorem dX4_at_29 : decode cX4_at 29 = .ok (.ireturn, 1) := by decide +kernel
theorem dX4_at_30 : decode cX4_at 30 = .ok (.aload_n 3, 1) := by decide +kernel
theorem dX4_at_31 : decode cX4_at 31 = .ok (.getfield 123, 3) := by decide +kernel
theorem dX4_at_34 : decode cX4_at 34 = .ok (.ifCond .ne 5, 3) := by decide +kernel
theorem dX4_at_37 : decode cX4_at 37 = .ok (.iconst (-1), 1) := by decide +kernel
theorem dX4_at_38 : decode cX4_at 38 = .ok (.ireturn, 1) := by decide +kernel
theorem dX4_at_39 : decode cX4_at 39 = .ok (.iload_n 2, 1) := by decide +kernel
theorem dX4_at_40 : decode cX4_at 40 = .ok (.tableswitch 60 0 3 #[32, 37, 42, 55], 32) := by decide +kernel
theorem dX4_at_72 : decode cX4_at 72 = .ok (.aload_n 3, 1) := by decide +kernel
theorem dX4_at_73 : decode cX4_at 73 = .ok (.getfield 127, 3) := by decide +kernel
theorem dX4_at_76 : decode cX4_at 76 = .ok (.ireturn, 1) := by decide +kernel
theorem dX4_at_77 : decode cX4_at 77 = .ok (.aload_n 3, 1) := by decide +kernel
theorem dX4_at_78 : decode cX4_at 78 = .ok (.getfield 128, 3) := by decide +kernel
theorem dX4_at_81 : decode cX4_at 81 = .ok (.ireturn, 1) := by decide +kernel
theorem dX4_at_82 : decode cX4_at 82 = .ok (.aload_n 3, 1) := by decide +kernel
theorem dX4_at_83 : decode cX4_at 83 = .ok (.getfield 131, 3) := by decide +kernel
theorem dX4_at_86 : decode cX4_at 86 = .ok (.ifCond .eq 7, 3) := by decide +kernel
theorem dX4_at_89 : decode cX4_at 89 = .ok (.iconst 1, 1) := by decide +kernel
theorem dX4_at_90 : decode cX4_at 90 = .ok (.goto 4, 3) := by decide +kernel
theorem dX4_at_93 : decode cX4_at 93 = .ok (.iconst 0, 1) := by decide +kernel
theorem dX4_at_94 : decode cX4_at 94 = .ok (.ireturn, 1) := by decide +kernel
theorem dX4_at_95 : decode cX4_at 95 = .ok (.aload_n 3, 1) := by decide +kernel
theorem dX4_at_96 : decode cX4_at 96 = .ok (.getfield 111, 3) := by decide +kernel
theorem dX4_at_99 : decode cX4_at 99 = .ok (.ireturn, 1) := by decide +kernel
theorem dX4_at_100 : decode cX4_at 100 = .ok (.iconst (-1), 1) := by decide +kernel
theorem dX4_at_101 : decode cX4_at 101 = .ok (.ireturn, 1) := by decide +kernel
set_option maxRecDepth 20000 in
theorem ggX4_result_X4_isNode : GoodIn wsX4_result wsX4_isNode := goodIn_r _ [8, 9, 10, 11, 12, 13] (by decide +kernel) (by decide +kernel)
set_option maxRecDepth 20000 in
theorem gX4_result_X4_isNode : GoodIn wsX4_result (wsV RX4 114 RX4 yX4_isNode wsX4_isNode) := goodIn_app (goodIn_of _ (by decide +kernel)) ggX4_result_X4_isNode
theorem dX4_result_0 : decode cX4_result 0 = .ok (.aload_n 0, 1) := by decide +kernel
theorem dX4_result_1 : decode cX4_result 1 = .ok (.iload_n 1, 1) := by decide +kernel
theorem dX4_result_2 : decode cX4_result 2 = .ok (.invokevirtual 114, 3) := by decide +kernel
theorem dX4_result_5 : decode cX4_result 5 = .ok (.ifCond .eq 18, 3) := by decide +kernel
theorem dX4_result_8 : decode cX4_result 8 = .ok (.aload_n 0, 1) := by decide +kernel
theorem dX4_result_9 : decode cX4_result 9 = .ok (.getfield 11, 3) := by decide +kernel
theorem dX4_result_12 : decode cX4_result 12 = .ok (.iload_n 1, 1) := by decide +kernel
theorem dX4_result_13 : decode cX4_result 13 = .ok (.aaload, 1) := by decide +kernel
theorem dX4_result_14 : decode cX4_result 14 = .ok (.getfield 36, 3) := by decide +kernel
theorem dX4_result_17 : decode cX4_result 17 = .ok (.getfield 134, 3) := by decide +kernel
theorem dX4_result_20 : decode cX4_result 20 = .ok (.goto 4, 3) := by decide +kernel
theorem dX4_result_23 : decode cX4_result 23 = .ok (.lconst 0, 1) := by decide +kernel
theorem dX4_result_24 : decode cX4_result 24 = .ok (.lreturn, 1) := by decide +kernel
set_option maxRecDepth 20000 in
theorem ggX4_access_X4_isNode : GoodIn wsX4_access wsX4_isNode := goodIn_r _ [7, 8, 12, 13, 14, 15] (by decide +kernel) (by decide +kernel)
set_option maxRecDepth 20000 in
theorem gX4_access_X4_isNode : GoodIn wsX4_access (wsV RX4 114 RX4 yX4_isNode wsX4_isNode) := goodIn_app (goodIn_of _ (by decide +kernel)) ggX4_access_X4_isNode
set_option maxRecDepth 20000 in
theorem ggX4_access_X4_isPage : GoodIn wsX4_access wsX4_isPage := goodIn_r _ [11] (by decide +kernel) (by decide +kernel)
set_option maxRecDepth 20000 in
theorem gX4_access_X4_isPage : GoodIn wsX4_access (va_wsS RX4 138 yX4_isPage wsX4_isPage) := goodIn_app (goodIn_of _ (by decide +kernel)) ggX4_access_X4_isPage
theorem dX4_access_0 : decode cX4_access 0 = .ok (.aload_n 0, 1) := by decide +kernel
theorem dX4_access_1 : decode cX4_access 1 = .ok (.iload_n 1, 1) := by decide +kernel
theorem dX4_access_2 : decode cX4_access 2 = .ok (.invokevirtual 114, 3) := by decide +kernel
theorem dX4_access_5 : decode cX4_access 5 = .ok (.ifCond .eq 24, 3) := by decide +kernel
theorem dX4_access_8 : decode cX4_access 8 = .ok (.iload_n 2, 1) := by decide +kernel
theorem dX4_access_9 : decode cX4_access 9 = .ok (.invokestatic 138, 3) := by decide +kernel
theorem dX4_access_12 : decode cX4_access 12 = .ok (.ifCond .eq 17, 3) := by decide +kernel
theorem dX4_access_15 : decode cX4_access 15 = .ok (.aload_n 0, 1) := by decide +kernel
theorem dX4_access_16 : decode cX4_access 16 = .ok (.getfield 11, 3) := by decide +kernel
theorem dX4_access_19 : decode cX4_access 19 = .ok (.iload_n 1, 1) := by decide +kernel
theorem dX4_access_20 : decode cX4_access 20 = .ok (.aaload, 1) := by decide +kernel
theorem dX4_access_21 : decode cX4_access 21 = .ok (.getfield 46, 3) := by decide +kernel
theorem dX4_access_24 : decode cX4_access 24 = .ok (.iload_n 2, 1) := by decide +kernel
theorem dX4_access_25 : decode cX4_access 25 = .ok (.iaload, 1) := by decide +kernel
theorem dX4_access_26 : decode cX4_access 26 = .ok (.goto 4, 3) := by decide +kernel
theorem dX4_access_29 : decode cX4_access 29 = .ok (.iconst (-1), 1) := by decide +kernel
theorem dX4_access_30 : decode cX4_access 30 = .ok (.ireturn, 1) := by decide +kernel
set_option maxRecDepth 20000 in
theorem ggX4_owner_X4_isPage : GoodIn wsX4_owner wsX4_isPage := goodIn_r _ [7] (by decide +kernel) (by decide +kernel)
set_option maxRecDepth 20000 in
theorem gX4_owner_X4_isPage : GoodIn wsX4_owner (va_wsS RX4 138 yX4_isPage wsX4_isPage) := goodIn_app (goodIn_of _ (by decide +kernel)) ggX4_owner_X4_isPage
theorem dX4_owner_0 : decode cX4_owner 0 = .ok (.iload_n 1, 1) := by decide +kernel
theorem dX4_owner_1 : decode cX4_owner 1 = .ok (.invokestatic 138, 3) := by decide +kernel
theorem dX4_owner_4 : decode cX4_owner 4 = .ok (.ifCond .ne 5, 3) := by decide +kernel
theorem dX4_owner_7 : decode cX4_owner 7 = .ok (.iconst (-1), 1) := by decide +kernel
theorem dX4_owner_8 : decode cX4_owner 8 = .ok (.ireturn, 1) := by decide +kernel
theorem dX4_owner_9 : decode cX4_owner 9 = .ok (.iconst 0, 1) := by decide +kernel
theorem dX4_owner_10 : decode cX4_owner 10 = .ok (.istore_n 2, 1) := by decide +kernel
theorem dX4_owner_11 : decode cX4_owner 11 = .ok (.iload_n 2, 1) := by decide +kernel
theorem dX4_owner_12 : decode cX4_owner 12 = .ok (.aload_n 0, 1) := by decide +kernel
theorem dX4_owner_13 : decode cX4_owner 13 = .ok (.getfield 141, 3) := by decide +kernel
theorem dX4_owner_16 : decode cX4_owner 16 = .ok (.if_icmp .ge 25, 3) := by decide +kernel
theorem dX4_owner_19 : decode cX4_owner 19 = .ok (.aload_n 0, 1) := by decide +kernel
theorem dX4_owner_20 : decode cX4_owner 20 = .ok (.getfield 11, 3) := by decide +kernel
theorem dX4_owner_23 : decode cX4_owner 23 = .ok (.iload_n 2, 1) := by decide +kernel
theorem dX4_owner_24 : decode cX4_owner 24 = .ok (.aaload, 1) := by decide +kernel
theorem dX4_owner_25 : decode cX4_owner 25 = .ok (.getfield 61, 3) := by decide +kernel
theorem dX4_owner_28 : decode cX4_owner 28 = .ok (.iload_n 1, 1) := by decide +kernel
theorem dX4_owner_29 : decode cX4_owner 29 = .ok (.baload, 1) := by decide +kernel
theorem dX4_owner_30 : decode cX4_owner 30 = .ok (.ifCond .eq 5, 3) := by decide +kernel
theorem dX4_owner_33 : decode cX4_owner 33 = .ok (.iload_n 2, 1) := by decide +kernel
theorem dX4_owner_34 : decode cX4_owner 34 = .ok (.ireturn, 1) := by decide +kernel
theorem dX4_owner_35 : decode cX4_owner 35 = .ok (.iinc 2 1, 3) := by decide +kernel
theorem dX4_owner_38 : decode cX4_owner 38 = .ok (.goto (-27), 3) := by decide +kernel
theorem dX4_owner_41 : decode cX4_owner 41 = .ok (.iconst (-1), 1) := by decide +kernel
theorem dX4_owner_42 : decode cX4_owner 42 = .ok (.ireturn, 1) := by decide +kernel
set_option maxRecDepth 20000 in
theorem ggX4_guess_X4_isNode : GoodIn wsX4_guess wsX4_isNode := goodIn_r _ [7, 8, 12, 13, 14, 15] (by decide +kernel) (by decide +kernel)
set_option maxRecDepth 20000 in
theorem gX4_guess_X4_isNode : GoodIn wsX4_guess (wsV RX4 114 RX4 yX4_isNode wsX4_isNode) := goodIn_app (goodIn_of _ (by decide +kernel)) ggX4_guess_X4_isNode
set_option maxRecDepth 20000 in
theorem ggX4_guess_X4_isPage : GoodIn wsX4_guess wsX4_isPage := goodIn_r _ [11] (by decide +kernel) (by decide +kernel)
set_option maxRecDepth 20000 in
theorem gX4_guess_X4_isPage : GoodIn wsX4_guess (va_wsS RX4 138 yX4_isPage wsX4_isPage) := goodIn_app (goodIn_of _ (by decide +kernel)) ggX4_guess_X4_isPage
theorem dX4_guess_0 : decode cX4_guess 0 = .ok (.aload_n 0, 1) := by decide +kernel
theorem dX4_guess_1 : decode cX4_guess 1 = .ok (.iload_n 1, 1) := by decide +kernel
theorem dX4_guess_2 : decode cX4_guess 2 = .ok (.invokevirtual 114, 3) := by decide +kernel
theorem dX4_guess_5 : decode cX4_guess 5 = .ok (.ifCond .eq 24, 3) := by decide +kernel
theorem dX4_guess_8 : decode cX4_guess 8 = .ok (.iload_n 2, 1) := by decide +kernel
theorem dX4_guess_9 : decode cX4_guess 9 = .ok (.invokestatic 138, 3) := by decide +kernel
theorem dX4_guess_12 : decode cX4_guess 12 = .ok (.ifCond .eq 17, 3) := by decide +kernel
theorem dX4_guess_15 : decode cX4_guess 15 = .ok (.aload_n 0, 1) := by decide +kernel
theorem dX4_guess_16 : decode cX4_guess 16 = .ok (.getfield 11, 3) := by decide +kernel
theorem dX4_guess_19 : decode cX4_guess 19 = .ok (.iload_n 1, 1) := by decide +kernel
theorem dX4_guess_20 : decode cX4_guess 20 = .ok (.aaload, 1) := by decide +kernel
theorem dX4_guess_21 : decode cX4_guess 21 = .ok (.getfield 144, 3) := by decide +kernel
theorem dX4_guess_24 : decode cX4_guess 24 = .ok (.iload_n 2, 1) := by decide +kernel
theorem dX4_guess_25 : decode cX4_guess 25 = .ok (.iaload, 1) := by decide +kernel
theorem dX4_guess_26 : decode cX4_guess 26 = .ok (.goto 4, 3) := by decide +kernel
theorem dX4_guess_29 : decode cX4_guess 29 = .ok (.iconst (-1), 1) := by decide +kernel
theorem dX4_guess_30 : decode cX4_guess 30 = .ok (.ireturn, 1) := by decide +kernel
set_option maxRecDepth 20000 in
theorem ggX4_copies_X4_isNode : GoodIn wsX4_copies wsX4_isNode := goodIn_r _ [7, 8, 12, 13, 14, 15] (by decide +kernel) (by decide +kernel)
set_option maxRecDepth 20000 in
theorem gX4_copies_X4_isNode : GoodIn wsX4_copies (wsV RX4 114 RX4 yX4_isNode wsX4_isNode) := goodIn_app (goodIn_of _ (by decide +kernel)) ggX4_copies_X4_isNode
set_option maxRecDepth 20000 in
theorem ggX4_copies_X4_isPage : GoodIn wsX4_copies wsX4_isPage := goodIn_r _ [11] (by decide +kernel) (by decide +kernel)
set_option maxRecDepth 20000 in
theorem gX4_copies_X4_isPage : GoodIn wsX4_copies (va_wsS RX4 138 yX4_isPage wsX4_isPage) := goodIn_app (goodIn_of _ (by decide +kernel)) ggX4_copies_X4_isPage
theorem dX4_copies_0 : decode cX4_copies 0 = .ok (.aload_n 0, 1) := by decide +kernel
theorem dX4_copies_1 : decode cX4_copies 1 = .ok (.iload_n 1, 1) := by decide +kernel
theorem dX4_copies_2 : decode cX4_copies 2 = .ok (.invokevirtual 114, 3) := by decide +kernel
theorem dX4_copies_5 : decode cX4_copies 5 = .ok (.ifCond .eq 24, 3) := by decide +kernel
theorem dX4_copies_8 : decode cX4_copies 8 = .ok (.iload_n 2, 1) := by decide +kernel
theorem dX4_copies_9 : decode cX4_copies 9 = .ok (.invokestatic 138, 3) := by decide +kernel
theorem dX4_copies_12 : decode cX4_copies 12 = .ok (.ifCond .eq 17, 3) := by decide +kernel
theorem dX4_copies_15 : decode cX4_copies 15 = .ok (.aload_n 0, 1) := by decide +kernel
theorem dX4_copies_16 : decode cX4_copies 16 = .ok (.getfield 11, 3) := by decide +kernel
theorem dX4_copies_19 : decode cX4_copies 19 = .ok (.iload_n 1, 1) := by decide +kernel
theorem dX4_copies_20 : decode cX4_copies 20 = .ok (.aaload, 1) := by decide +kernel
theorem dX4_copies_21 : decode cX4_copies 21 = .ok (.getfield 147, 3) := by decide +kernel
theorem dX4_copies_24 : decode cX4_copies 24 = .ok (.iload_n 2, 1) := by decide +kernel
theorem dX4_copies_25 : decode cX4_copies 25 = .ok (.iaload, 1) := by decide +kernel
theorem dX4_copies_26 : decode cX4_copies 26 = .ok (.goto 4, 3) := by decide +kernel
theorem dX4_copies_29 : decode cX4_copies 29 = .ok (.iconst (-1), 1) := by decide +kernel
theorem dX4_copies_30 : decode cX4_copies 30 = .ok (.ireturn, 1) := by decide +kernel
set_option maxRecDepth 20000 in
theorem ggX4_word_X4_isNode : GoodIn wsX4_word wsX4_isNode := goodIn_r _ [7, 8, 15, 16, 17, 18] (by decide +kernel) (by decide +kernel)
set_option maxRecDepth 20000 in
theorem gX4_word_X4_isNode : GoodIn wsX4_word (wsV RX4 114 RX4 yX4_isNode wsX4_isNode) := goodIn_app (goodIn_of _ (by decide +kernel)) ggX4_word_X4_isNode
set_option maxRecDepth 20000 in
theorem ggX4_word_X4_isPage : GoodIn wsX4_word wsX4_isPage := goodIn_r _ [11] (by decide +kernel) (by decide +kernel)
set_option maxRecDepth 20000 in
theorem gX4_word_X4_isPage : GoodIn wsX4_word (va_wsS RX4 138 yX4_isPage wsX4_isPage) := goodIn_app (goodIn_of _ (by decide +kernel)) ggX4_word_X4_isPage
set_option maxRecDepth 20000 in
theorem ggX4_word_X4_isWord : GoodIn wsX4_word wsX4_isWord := goodIn_r _ [14] (by decide +kernel) (by decide +kernel)
set_option maxRecDepth 20000 in
theorem gX4_word_X4_isWord : GoodIn wsX4_word (va_wsS RX4 150 yX4_isWord wsX4_isWord) := goodIn_app (goodIn_of _ (by decide +kernel)) ggX4_word_X4_isWord
theorem dX4_word_0 : decode cX4_word 0 = .ok (.aload_n 0, 1) := by decide +kernel
theorem dX4_word_1 : decode cX4_word 1 = .ok (.iload_n 1, 1) := by decide +kernel
theorem dX4_word_2 : decode cX4_word 2 = .ok (.invokevirtual 114, 3) := by decide +kernel
theorem dX4_word_5 : decode cX4_word 5 = .ok (.ifCond .eq 35, 3) := by decide +kernel
theorem dX4_word_8 : decode cX4_word 8 = .ok (.iload_n 2, 1) := by decide +kernel
theorem dX4_word_9 : decode cX4_word 9 = .ok (.invokestatic 138, 3) := by decide +kernel
theorem dX4_word_12 : decode cX4_word 12 = .ok (.ifCond .eq 28, 3) := by decide +kernel
theorem dX4_word_15 : decode cX4_word 15 = .ok (.iload_n 3, 1) := by decide +kernel
theorem dX4_word_16 : decode cX4_word 16 = .ok (.invokestatic 150, 3) := by decide +kernel
theorem dX4_word_19 : decode cX4_word 19 = .ok (.ifCond .eq 21, 3) := by decide +kernel
theorem dX4_word_22 : decode cX4_word 22 = .ok (.aload_n 0, 1) := by decide +kernel
theorem dX4_word_23 : decode cX4_word 23 = .ok (.getfield 11, 3) := by decide +kernel
theorem dX4_word_26 : decode cX4_word 26 = .ok (.iload_n 1, 1) := by decide +kernel
theorem dX4_word_27 : decode cX4_word 27 = .ok (.aaload, 1) := by decide +kernel
theorem dX4_word_28 : decode cX4_word 28 = .ok (.getfield 153, 3) := by decide +kernel
theorem dX4_word_31 : decode cX4_word 31 = .ok (.iload_n 2, 1) := by decide +kernel
theorem dX4_word_32 : decode cX4_word 32 = .ok (.iconst 4, 1) := by decide +kernel
theorem dX4_word_33 : decode cX4_word 33 = .ok (.imul, 1) := by decide +kernel
theorem dX4_word_34 : decode cX4_word 34 = .ok (.iload_n 3, 1) := by decide +kernel
theorem dX4_word_35 : decode cX4_word 35 = .ok (.iadd, 1) := by decide +kernel
theorem dX4_word_36 : decode cX4_word 36 = .ok (.laload, 1) := by decide +kernel
theorem dX4_word_37 : decode cX4_word 37 = .ok (.goto 4, 3) := by decide +kernel
theorem dX4_word_40 : decode cX4_word 40 = .ok (.lconst 0, 1) := by decide +kernel
theorem dX4_word_41 : decode cX4_word 41 = .ok (.lreturn, 1) := by decide +kernel
set_option maxRecDepth 20000 in
theorem ggX4_queue_X4_isNode : GoodIn wsX4_queue wsX4_isNode := goodIn_r _ [7, 8, 12, 13, 14, 15] (by decide +kernel) (by decide +kernel)
set_option maxRecDepth 20000 in
theorem gX4_queue_X4_isNode : GoodIn wsX4_queue (wsV RX4 114 RX4 yX4_isNode wsX4_isNode) := goodIn_app (goodIn_of _ (by decide +kernel)) ggX4_queue_X4_isNode
set_option maxRecDepth 20000 in
theorem ggX4_queue_X4_isPage : GoodIn wsX4_queue wsX4_isPage := goodIn_r _ [11] (by decide +kernel) (by decide +kernel)
set_option maxRecDepth 20000 in
theorem gX4_queue_X4_isPage : GoodIn wsX4_queue (va_wsS RX4 138 yX4_isPage wsX4_isPage) := goodIn_app (goodIn_of _ (by decide +kernel)) ggX4_queue_X4_isPage
theorem dX4_queue_0 : decode cX4_queue 0 = .ok (.aload_n 0, 1) := by decide +kernel
theorem dX4_queue_1 : decode cX4_queue 1 = .ok (.iload_n 1, 1) := by decide +kernel
theorem dX4_queue_2 : decode cX4_queue 2 = .ok (.invokevirtual 114, 3) := by decide +kernel
theorem dX4_queue_5 : decode cX4_queue 5 = .ok (.ifCond .eq 24, 3) := by decide +kernel
theorem dX4_queue_8 : decode cX4_queue 8 = .ok (.iload_n 2, 1) := by decide +kernel
theorem dX4_queue_9 : decode cX4_queue 9 = .ok (.invokestatic 138, 3) := by decide +kernel
theorem dX4_queue_12 : decode cX4_queue 12 = .ok (.ifCond .eq 17, 3) := by decide +kernel
theorem dX4_queue_15 : decode cX4_queue 15 = .ok (.aload_n 0, 1) := by decide +kernel
theorem dX4_queue_16 : decode cX4_queue 16 = .ok (.getfield 11, 3) := by decide +kernel
theorem dX4_queue_19 : decode cX4_queue 19 = .ok (.iload_n 1, 1) := by decide +kernel
theorem dX4_queue_20 : decode cX4_queue 20 = .ok (.aaload, 1) := by decide +kernel
theorem dX4_queue_21 : decode cX4_queue 21 = .ok (.getfield 157, 3) := by decide +kernel
theorem dX4_queue_24 : decode cX4_queue 24 = .ok (.iload_n 2, 1) := by decide +kernel
theorem dX4_queue_25 : decode cX4_queue 25 = .ok (.iaload, 1) := by decide +kernel
theorem dX4_queue_26 : decode cX4_queue 26 = .ok (.goto 4, 3) := by decide +kernel
theorem dX4_queue_29 : decode cX4_queue 29 = .ok (.iconst (-1), 1) := by decide +kernel
theorem dX4_queue_30 : decode cX4_queue 30 = .ok (.ireturn, 1) := by decide +kernel
set_option maxRecDepth 20000 in
theorem ggX4_chain_X4_isNode : GoodIn wsX4_chain wsX4_isNode := goodIn_r _ [8, 2, 24, 25, 26, 27] (by decide +kernel) (by decide +kernel)
set_option maxRecDepth 20000 in
theorem gX4_chain_X4_isNode : GoodIn wsX4_chain (wsV RX4 114 RX4 yX4_isNode wsX4_isNode) := goodIn_app (goodIn_of _ (by decide +kernel)) ggX4_chain_X4_isNode
set_option maxRecDepth 20000 in
theorem ggX4_chain_X4_isPage : GoodIn wsX4_chain wsX4_isPage := goodIn_r _ [11] (by decide +kernel) (by decide +kernel)
set_option maxRecDepth 20000 in
theorem gX4_chain_X4_isPage : GoodIn wsX4_chain (va_wsS RX4 138 yX4_isPage wsX4_isPage) := goodIn_app (goodIn_of _ (by decide +kernel)) ggX4_chain_X4_isPage
set_option maxRecDepth 20000 in
theorem ggX4_chain_X4_endsChain : GoodIn wsX4_chain wsX4_endsChain := goodIn_r _ [14, 15, 16, 17, 18, 19, 20, 21, 22, 23, 28, 29, 30, 31, 32, 33, 34, 35, 36, 37, 38, 39, 40, 41, 42, 43, 44, 45, 46, 47] (by decide +kernel) (by decide +kernel)
set_option maxRecDepth 20000 in
theorem gX4_chain_X4_endsChain : GoodIn wsX4_chain (va_wsS RX4 160 yX4_endsChain wsX4_endsChain) := goodIn_app (goodIn_of _ (by decide +kernel)) ggX4_chain_X4_endsChain
theorem dX4_chain_0 : decode cX4_chain 0 = .ok (.aload_n 0, 1) := by decide +kernel
theorem dX4_chain_1 : decode cX4_chain 1 = .ok (.iload_n 1, 1) := by decide +kernel
theorem dX4_chain_2 : decode cX4_chain 2 = .ok (.invokevirtual 114, 3) := by decide +kernel
theorem dX4_chain_5 : decode cX4_chain 5 = .ok (.ifCond .eq 10, 3) := by decide +kernel
theorem dX4_chain_8 : decode cX4_chain 8 = .ok (.iload_n 2, 1) := by decide +kernel
theorem dX4_chain_9 : decode cX4_chain 9 = .ok (.invokestatic 138, 3) := by decide +kernel
theorem dX4_chain_12 : decode cX4_chain 12 = .ok (.ifCond .ne 5, 3) := by decide +kernel
theorem dX4_chain_15 : decode cX4_chain 15 = .ok (.iconst (-1), 1) := by decide +kernel
theorem dX4_chain_16 : decode cX4_chain 16 = .ok (.ireturn, 1) := by decide +kernel
theorem dX4_chain_17 : decode cX4_chain 17 = .ok (.aload_n 0, 1) := by decide +kernel
theorem dX4_chain_18 : decode cX4_chain 18 = .ok (.getfield 11, 3) := by decide +kernel
theorem dX4_chain_21 : decode cX4_chain 21 = .ok (.iload_n 1, 1) := by decide +kernel
theorem dX4_chain_22 : decode cX4_chain 22 = .ok (.aaload, 1) := by decide +kernel
theorem dX4_chain_23 : decode cX4_chain 23 = .ok (.astore_n 3, 1) := by decide +kernel
theorem dX4_chain_24 : decode cX4_chain 24 = .ok (.iconst 0, 1) := by decide +kernel
theorem dX4_chain_25 : decode cX4_chain 25 = .ok (.istore 4, 2) := by decide +kernel
theorem dX4_chain_27 : decode cX4_chain 27 = .ok (.iload 4, 2) := by decide +kernel
theorem dX4_chain_29 : decode cX4_chain 29 = .ok (.aload_n 0, 1) := by decide +kernel
theorem dX4_chain_30 : decode cX4_chain 30 = .ok (.getfield 141, 3) := by decide +kernel
theorem dX4_chain_33 : decode cX4_chain 33 = .ok (.if_icmp .ge 32, 3) := by decide +kernel
theorem dX4_chain_36 : decode cX4_chain 36 = .ok (.aload_n 3, 1) := by decide +kernel
theorem dX4_chain_37 : decode cX4_chain 37 = .ok (.iload_n 2, 1) := by decide +kernel
theorem dX4_chain_38 : decode cX4_chain 38 = .ok (.invokestatic 160, 3) := by decide +kernel
theorem dX4_chain_41 : decode cX4_chain 41 = .ok (.ifCond .eq 6, 3) := by decide +kernel
theorem dX4_chain_44 : decode cX4_chain 44 = .ok (.iload 4, 2) := by decide +kernel
theorem dX4_chain_46 : decode cX4_chain 46 = .ok (.ireturn, 1) := by decide +kernel
theorem dX4_chain_47 : decode cX4_chain 47 = .ok (.aload_n 0, 1) := by decide +kernel
theorem dX4_chain_48 : decode cX4_chain 48 = .ok (.getfield 11, 3) := by decide +kernel
theorem dX4_chain_51 : decode cX4_chain 51 = .ok (.aload_n 3, 1) := by decide +kernel
theorem dX4_chain_52 : decode cX4_chain 52 = .ok (.getfield 144, 3) := by decide +kernel
theorem dX4_chain_55 : decode cX4_chain 55 = .ok (.iload_n 2, 1) := by decide +kernel
theorem dX4_chain_56 : decode cX4_chain 56 = .ok (.iaload, 1) := by decide +kernel
theorem dX4_chain_57 : decode cX4_chain 57 = .ok (.aaload, 1) := by decide +kernel
theorem dX4_chain_58 : decode cX4_chain 58 = .ok (.astore_n 3, 1) := by decide +kernel
theorem dX4_chain_59 : decode cX4_chain 59 = .ok (.iinc 4 1, 3) := by decide +kernel
theorem dX4_chain_62 : decode cX4_chain 62 = .ok (.goto (-35), 3) := by decide +kernel
theorem dX4_chain_65 : decode cX4_chain 65 = .ok (.iconst (-1), 1) := by decide +kernel
theorem dX4_chain_66 : decode cX4_chain 66 = .ok (.ireturn, 1) := by decide +kernel
theorem dX4_flying_0 : decode cX4_flying 0 = .ok (.aload_n 0, 1) := by decide +kernel
theorem dX4_flying_1 : decode cX4_flying 1 = .ok (.getfield 18, 3) := by decide +kernel
theorem dX4_flying_4 : decode cX4_flying 4 = .ok (.getfield 164, 3) := by decide +kernel
theorem dX4_flying_7 : decode cX4_flying 7 = .ok (.ireturn, 1) := by decide +kernel
set_option maxRecDepth 20000 in
theorem ggX4_letter_X2_has : GoodIn wsX4_letter wsX2_has := goodIn_r _ [13, 14, 19, 20] (by decide +kernel) (by decide +kernel)
set_option maxRecDepth 20000 in
theorem gX4_letter_X2_has : GoodIn wsX4_letter (wsV RX4 71 RX2 yX2_has wsX2_has) := goodIn_app (goodIn_of _ (by decide +kernel)) ggX4_letter_X2_has
theorem dX4_letter_0 : decode cX4_letter 0 = .ok (.aload_n 0, 1) := by decide +kernel
theorem dX4_letter_1 : decode cX4_letter 1 = .ok (.getfield 18, 3) := by decide +kernel
theorem dX4_letter_4 : decode cX4_letter 4 = .ok (.iload_n 1, 1) := by decide +kernel
theorem dX4_letter_5 : decode cX4_letter 5 = .ok (.invokevirtual 71, 3) := by decide +kernel
theorem dX4_letter_8 : decode cX4_letter 8 = .ok (.ifCond .ne 6, 3) := by decide +kernel
theorem dX4_letter_11 : decode cX4_letter 11 = .ok (.bipush (-2), 2) := by decide +kernel
theorem dX4_letter_13 : decode cX4_letter 13 = .ok (.ireturn, 1) := by decide +kernel
theorem dX4_letter_14 : decode cX4_letter 14 = .ok (.aload_n 0, 1) := by decide +kernel
theorem dX4_letter_15 : decode cX4_letter 15 = .ok (.getfield 18, 3) := by decide +kernel
theorem dX4_letter_18 : decode cX4_letter 18 = .ok (.getfield 167, 3) := by decide +kernel
theorem dX4_letter_21 : decode cX4_letter 21 = .ok (.iload_n 1, 1) := by decide +kernel
theorem dX4_letter_22 : decode cX4_letter 22 = .ok (.aaload, 1) := by decide +kernel
theorem dX4_letter_23 : decode cX4_letter 23 = .ok (.astore_n 3, 1) := by decide +kernel
theorem dX4_letter_24 : decode cX4_letter 24 = .ok (.iload_n 2, 1) := by decide +kernel
theorem dX4_letter_25 : decode cX4_letter 25 = .ok (.tableswitch 69 0 5 #[39, 44, 49, 54, 59, 64], 39) := by decide +kernel
theorem dX4_letter_64 : decode cX4_letter 64 = .ok (.aload_n 3, 1) := by decide +kernel
theorem dX4_letter_65 : decode cX4_letter 65 = .ok (.getfield 85, 3) := by decide +kernel
theorem dX4_letter_68 : decode cX4_letter 68 = .ok (.ireturn, 1) := by decide +kernel
theorem dX4_letter_69 : decode cX4_letter 69 = .ok (.aload_n 3, 1) := by decide +kernel
theorem dX4_letter_70 : decode cX4_letter 70 = .ok (.getfield 105, 3) := by decide +kernel
theorem dX4_letter_73 : decode cX4_letter 73 = .ok (.ireturn, 1) := by decide +kernel
theorem dX4_letter_74 : decode cX4_letter 74 = .ok (.aload_n 3, 1) := by decide +kernel
theorem dX4_letter_75 : decode cX4_letter 75 = .ok (.getfield 79, 3) := by decide +kernel
theorem dX4_letter_78 : decode cX4_letter 78 = .ok (.ireturn, 1) := by decide +kernel
theorem dX4_letter_79 : decode cX4_letter 79 = .ok (.aload_n 3, 1) := by decide +kernel
theorem dX4_letter_80 : decode cX4_letter 80 = .ok (.getfield 88, 3) := by decide +kernel
theorem dX4_letter_83 : decode cX4_letter 83 = .ok (.ireturn, 1) := by decide +kernel
theorem dX4_letter_84 : decode cX4_letter 84 = .ok (.aload_n 3, 1) := by decide +kernel
theorem dX4_letter_85 : decode cX4_letter 85 = .ok (.getfield 91, 3) := by decide +kernel
theorem dX4_letter_88 : decode cX4_letter 88 = .ok (.ireturn, 1) := by decide +kernel
theorem dX4_letter_89 : decode cX4_letter 89 = .ok (.aload_n 3, 1) := by decide +kernel
theorem dX4_letter_90 : decode cX4_letter 90 = .ok (.getfield 171, 3) := by decide +kernel
theorem dX4_letter_93 : decode cX4_letter 93 = .ok (.ireturn, 1) := by decide +kernel
theorem dX4_letter_94 : decode cX4_letter 94 = .ok (.bipush (-2), 2) := by decide +kernel
theorem dX4_letter_96 : decode cX4_letter 96 = .ok (.ireturn, 1) := by decide +kernel
set_option maxRecDepth 20000 in
theorem ggX4_letterWord_X2_has : GoodIn wsX4_letterWord wsX2_has := goodIn_r _ [9, 10, 19, 20] (by decide +kernel) (by decide +kernel)
set_option maxRecDepth 20000 in
theorem gX4_letterWord_X2_has : GoodIn wsX4_letterWord (wsV RX4 71 RX2 yX2_has wsX2_has) := goodIn_app (goodIn_of _ (by decide +kernel)) ggX4_letterWord_X2_has
set_option maxRecDepth 20000 in
theorem ggX4_letterWord_X4_isWord : GoodIn wsX4_letterWord wsX4_isWord := goodIn_r _ [14] (by decide +kernel) (by decide +kernel)
set_option maxRecDepth 20000 in
theorem gX4_letterWord_X4_isWord : GoodIn wsX4_letterWord (va_wsS RX4 150 yX4_isWord wsX4_isWord) := goodIn_app (goodIn_of _ (by decide +kernel)) ggX4_letterWord_X4_isWord
theorem dX4_letterWord_0 : decode cX4_letterWord 0 = .ok (.aload_n 0, 1) := by decide +kernel
theorem dX4_letterWord_1 : decode cX4_letterWord 1 = .ok (.getfield 18, 3) := by decide +kernel
theorem dX4_letterWord_4 : decode cX4_letterWord 4 = .ok (.iload_n 1, 1) := by decide +kernel
theorem dX4_letterWord_5 : decode cX4_letterWord 5 = .ok (.invokevirtual 71, 3) := by decide +kernel
theorem dX4_letterWord_8 : decode cX4_letterWord 8 = .ok (.ifCond .eq 10, 3) := by decide +kernel
theorem dX4_letterWord_11 : decode cX4_letterWord 11 = .ok (.iload_n 2, 1) := by decide +kernel
theorem dX4_letterWord_12 : decode cX4_letterWord 12 = .ok (.invokestatic 150, 3) := by decide +kernel
theorem dX4_letterWord_15 : decode cX4_letterWord 15 = .ok (.ifCond .ne 5, 3) := by decide +kernel
theorem dX4_letterWord_18 : decode cX4_letterWord 18 = .ok (.lconst 0, 1) := by decide +kernel
theorem dX4_letterWord_19 : decode cX4_letterWord 19 = .ok (.lreturn, 1) := by decide +kernel
theorem dX4_letterWord_20 : decode cX4_letterWord 20 = .ok (.aload_n 0, 1) := by decide +kernel
theorem dX4_letterWord_21 : decode cX4_letterWord 21 = .ok (.getfield 18, 3) := by decide +kernel
theorem dX4_letterWord_24 : decode cX4_letterWord 24 = .ok (.getfield 167, 3) := by decide +kernel
theorem dX4_letterWord_27 : decode cX4_letterWord 27 = .ok (.iload_n 1, 1) := by decide +kernel
theorem dX4_letterWord_28 : decode cX4_letterWord 28 = .ok (.aaload, 1) := by decide +kernel
theorem dX4_letterWord_29 : decode cX4_letterWord 29 = .ok (.astore_n 3, 1) := by decide +kernel
theorem dX4_letterWord_30 : decode cX4_letterWord 30 = .ok (.aload_n 3, 1) := by decide +kernel
theorem dX4_letterWord_31 : decode cX4_letterWord 31 = .ok (.getfield 85, 3) := by decide +kernel
theorem dX4_letterWord_34 : decode cX4_letterWord 34 = .ok (.iconst 3, 1) := by decide +kernel
theorem dX4_letterWord_35 : decode cX4_letterWord 35 = .ok (.if_icmp .eq 11, 3) := by decide +kernel
theorem dX4_letterWord_38 : decode cX4_letterWord 38 = .ok (.aload_n 3, 1) := by decide +kernel
theorem dX4_letterWord_39 : decode cX4_letterWord 39 = .ok (.getfield 85, 3) := by decide +kernel
theorem dX4_letterWord_42 : decode cX4_letterWord 42 = .ok (.iconst 4, 1) := by decide +kernel
theorem dX4_letterWord_43 : decode cX4_letterWord 43 = .ok (.if_icmp .ne 12, 3) := by decide +kernel
theorem dX4_letterWord_46 : decode cX4_letterWord 46 = .ok (.aload_n 3, 1) := by decide +kernel
theorem dX4_letterWord_47 : decode cX4_letterWord 47 = .ok (.getfield 173, 3) := by decide +kernel
theorem dX4_letterWord_50 : decode cX4_letterWord 50 = .ok (.iload_n 2, 1) := by decide +kernel
theorem dX4_letterWord_51 : decode cX4_letterWord 51 = .ok (.laload, 1) := by decide +kernel
theorem dX4_letterWord_52 : decode cX4_letterWord 52 = .ok (.goto 4, 3) := by decide +kernel
theorem dX4_letterWord_55 : decode cX4_letterWord 55 = .ok (.lconst 0, 1) := by decide +kernel
theorem dX4_letterWord_56 : decode cX4_letterWord 56 = .ok (.lreturn, 1) := by decide +kernel
theorem dX4_count_0 : decode cX4_count 0 = .ok (.iload_n 1, 1) := by decide +kernel
theorem dX4_count_1 : decode cX4_count 1 = .ok (.ifCond .lt 18, 3) := by decide +kernel
theorem dX4_count_4 : decode cX4_count 4 = .ok (.iload_n 1, 1) := by decide +kernel
theorem dX4_count_5 : decode cX4_count 5 = .ok (.bipush 8, 2) := by decide +kernel
theorem dX4_count_7 : decode cX4_count 7 = .ok (.if_icmp .ge 12, 3) := by decide +kernel
theorem dX4_count_10 : decode cX4_count 10 = .ok (.aload_n 0, 1) := by decide +kernel
theorem dX4_count_11 : decode cX4_count 11 = .ok (.getfield 22, 3) := by decide +kernel
theorem dX4_count_14 : decode cX4_count 14 = .ok (.iload_n 1, 1) := by decide +kernel
theorem dX4_count_15 : decode cX4_count 15 = .ok (.iaload, 1) := by decide +kernel
theorem dX4_count_16 : decode cX4_count 16 = .ok (.goto 4, 3) := by decide +kernel
theorem dX4_count_19 : decode cX4_count 19 = .ok (.iconst (-1), 1) := by decide +kernel
theorem dX4_count_20 : decode cX4_count 20 = .ok (.ireturn, 1) := by decide +kernel
set_option maxRecDepth 20000 in
theorem ggX4_startAnew_X3_startAnew : GoodIn wsX4_startAnew wsX3_startAnew := goodIn_r _ [10, 11, 12, 13, 14, 15, 16, 17, 18, 19, 20, 21, 22, 23, 24, 25, 26, 27, 28, 29, 30, 31, 32, 33, 34, 35, 36, 37, 38, 39, 40, 41, 42, 43, 44, 45, 46, 47, 48, 49, 59, 60, 61, 62, 63, 64, 65, 66, 67, 68, 69, 70, 71, 72, 73, 74, 75, 76, 77, 78] (by decide +kernel) (by decide +kernel)
set_option maxRecDepth 20000 in
theorem gX4_startAnew_X3_startAnew : GoodIn wsX4_startAnew (wsV RX4 174 RX3 yX3_startAnew wsX3_startAnew) := goodIn_app (goodIn_of _ (by decide +kernel)) ggX4_startAnew_X3_startAnew
set_option maxRecDepth 20000 in
theorem ggX4_startAnew_J7_fill_53178 : GoodIn wsX4_startAnew wsJ7_fill_53178 := goodIn_r _ [52] (by decide +kernel) (by decide +kernel)
set_option maxRecDepth 20000 in
theorem gX4_startAnew_J7_fill_53178 : GoodIn wsX4_startAnew (va_wsS RX4 175 yJ7_fill_53178 wsJ7_fill_53178) := goodIn_app (goodIn_of _ (by decide +kernel)) ggX4_startAnew_J7_fill_53178
theorem dX4_startAnew_0 : decode cX4_startAnew 0 = .ok (.aload_n 0, 1) := by decide +kernel
theorem dX4_startAnew_1 : decode cX4_startAnew 1 = .ok (.iload_n 1, 1) := by decide +kernel
theorem dX4_startAnew_2 : decode cX4_startAnew 2 = .ok (.putfield 141, 3) := by decide +kernel
theorem dX4_startAnew_5 : decode cX4_startAnew 5 = .ok (.iconst 0, 1) := by decide +kernel
theorem dX4_startAnew_6 : decode cX4_startAnew 6 = .ok (.istore_n 2, 1) := by decide +kernel
theorem dX4_startAnew_7 : decode cX4_startAnew 7 = .ok (.iload_n 2, 1) := by decide +kernel
theorem dX4_startAnew_8 : decode cX4_startAnew 8 = .ok (.bipush 6, 2) := by decide +kernel
theorem dX4_startAnew_10 : decode cX4_startAnew 10 = .ok (.if_icmp .ge 19, 3) := by decide +kernel
theorem dX4_startAnew_13 : decode cX4_startAnew 13 = .ok (.aload_n 0, 1) := by decide +kernel
theorem dX4_startAnew_14 : decode cX4_startAnew 14 = .ok (.getfield 11, 3) := by decide +kernel
theorem dX4_startAnew_17 : decode cX4_startAnew 17 = .ok (.iload_n 2, 1) := by decide +kernel
theorem dX4_startAnew_18 : decode cX4_startAnew 18 = .ok (.aaload, 1) := by decide +kernel
theorem dX4_startAnew_19 : decode cX4_startAnew 19 = .ok (.iload_n 1, 1) := by decide +kernel
theorem dX4_startAnew_20 : decode cX4_startAnew 20 = .ok (.invokevirtual 174, 3) := by decide +kernel
theorem dX4_startAnew_23 : decode cX4_startAnew 23 = .ok (.iinc 2 1, 3) := by decide +kernel
theorem dX4_startAnew_26 : decode cX4_startAnew 26 = .ok (.goto (-19), 3) := by decide +kernel
theorem dX4_startAnew_29 : decode cX4_startAnew 29 = .ok (.aload_n 0, 1) := by decide +kernel
theorem dX4_startAnew_30 : decode cX4_startAnew 30 = .ok (.getfield 18, 3) := by decide +kernel
theorem dX4_startAnew_33 : decode cX4_startAnew 33 = .ok (.iconst 0, 1) := by decide +kernel
theorem dX4_startAnew_34 : decode cX4_startAnew 34 = .ok (.putfield 164, 3) := by decide +kernel
theorem dX4_startAnew_37 : decode cX4_startAnew 37 = .ok (.aload_n 0, 1) := by decide +kernel
theorem dX4_startAnew_38 : decode cX4_startAnew 38 = .ok (.getfield 22, 3) := by decide +kernel
theorem dX4_startAnew_41 : decode cX4_startAnew 41 = .ok (.iconst 0, 1) := by decide +kernel
theorem dX4_startAnew_42 : decode cX4_startAnew 42 = .ok (.invokestatic 175, 3) := by decide +kernel
theorem dX4_startAnew_45 : decode cX4_startAnew 45 = .ok (.aload_n 0, 1) := by decide +kernel
theorem dX4_startAnew_46 : decode cX4_startAnew 46 = .ok (.getfield 22, 3) := by decide +kernel
theorem dX4_startAnew_49 : decode cX4_startAnew 49 = .ok (.iconst 0, 1) := by decide +kernel
theorem dX4_startAnew_50 : decode cX4_startAnew 50 = .ok (.iload_n 1, 1) := by decide +kernel
theorem dX4_startAnew_51 : decode cX4_startAnew 51 = .ok (.iastore, 1) := by decide +kernel
theorem dX4_startAnew_52 : decode cX4_startAnew 52 = .ok (.return_, 1) := by decide +kernel
theorem dX4_isNode_0 : decode cX4_isNode 0 = .ok (.iload_n 1, 1) := by decide +kernel
theorem dX4_isNode_1 : decode cX4_isNode 1 = .ok (.ifCond .lt 15, 3) := by decide +kernel
theorem dX4_isNode_4 : decode cX4_isNode 4 = .ok (.iload_n 1, 1) := by decide +kernel
theorem dX4_isNode_5 : decode cX4_isNode 5 = .ok (.aload_n 0, 1) := by decide +kernel
theorem dX4_isNode_6 : decode cX4_isNode 6 = .ok (.getfield 141, 3) := by decide +kernel
theorem dX4_isNode_9 : decode cX4_isNode 9 = .ok (.if_icmp .ge 7, 3) := by decide +kernel
theorem dX4_isNode_12 : decode cX4_isNode 12 = .ok (.iconst 1, 1) := by decide +kernel
theorem dX4_isNode_13 : decode cX4_isNode 13 = .ok (.goto 4, 3) := by decide +kernel
theorem dX4_isNode_16 : decode cX4_isNode 16 = .ok (.iconst 0, 1) := by decide +kernel
theorem dX4_isNode_17 : decode cX4_isNode 17 = .ok (.ireturn, 1) := by decide +kernel
theorem dX4_isPage_0 : decode cX4_isPage 0 = .ok (.iload_n 0, 1) := by decide +kernel
theorem dX4_isPage_1 : decode cX4_isPage 1 = .ok (.ifCond .lt 13, 3) := by decide +kernel
theorem dX4_isPage_4 : decode cX4_isPage 4 = .ok (.iload_n 0, 1) := by decide +kernel
theorem dX4_isPage_5 : decode cX4_isPage 5 = .ok (.bipush 8, 2) := by decide +kernel
theorem dX4_isPage_7 : decode cX4_isPage 7 = .ok (.if_icmp .ge 7, 3) := by decide +kernel
theorem dX4_isPage_10 : decode cX4_isPage 10 = .ok (.iconst 1, 1) := by decide +kernel
theorem dX4_isPage_11 : decode cX4_isPage 11 = .ok (.goto 4, 3) := by decide +kernel
theorem dX4_isPage_14 : decode cX4_isPage 14 = .ok (.iconst 0, 1) := by decide +kernel
theorem dX4_isPage_15 : decode cX4_isPage 15 = .ok (.ireturn, 1) := by decide +kernel
theorem dX4_isWord_0 : decode cX4_isWord 0 = .ok (.iload_n 0, 1) := by decide +kernel
theorem dX4_isWord_1 : decode cX4_isWord 1 = .ok (.ifCond .lt 12, 3) := by decide +kernel
theorem dX4_isWord_4 : decode cX4_isWord 4 = .ok (.iload_n 0, 1) := by decide +kernel
theorem dX4_isWord_5 : decode cX4_isWord 5 = .ok (.iconst 4, 1) := by decide +kernel
theorem dX4_isWord_6 : decode cX4_isWord 6 = .ok (.if_icmp .ge 7, 3) := by decide +kernel
theorem dX4_isWord_9 : decode cX4_isWord 9 = .ok (.iconst 1, 1) := by decide +kernel
theorem dX4_isWord_10 : decode cX4_isWord 10 = .ok (.goto 4, 3) := by decide +kernel
theorem dX4_isWord_13 : decode cX4_isWord 13 = .ok (.iconst 0, 1) := by decide +kernel
theorem dX4_isWord_14 : decode cX4_isWord 14 = .ok (.ireturn, 1) := by decide +kernel
set_option maxRecDepth 20000 in
theorem ggX4_mayStart_X4_isNode : GoodIn wsX4_mayStart wsX4_isNode := goodIn_r _ [8, 9, 16, 17, 18, 19] (by decide +kernel) (by decide +kernel)
set_option maxRecDepth 20000 in
theorem gX4_mayStart_X4_isNode : GoodIn wsX4_mayStart (wsV RX4 114 RX4 yX4_isNode wsX4_isNode) := goodIn_app (goodIn_of _ (by decide +kernel)) ggX4_mayStart_X4_isNode
set_option maxRecDepth 20000 in
theorem ggX4_mayStart_X4_isPage : GoodIn wsX4_mayStart wsX4_isPage := goodIn_r _ [12] (by decide +kernel) (by decide +kernel)
set_option maxRecDepth 20000 in
theorem gX4_mayStart_X4_isPage : GoodIn wsX4_mayStart (va_wsS RX4 138 yX4_isPage wsX4_isPage) := goodIn_app (goodIn_of _ (by decide +kernel)) ggX4_mayStart_X4_isPage
set_option maxRecDepth 20000 in
theorem ggX4_mayStart_X4_isWord : GoodIn wsX4_mayStart wsX4_isWord := goodIn_r _ [15] (by decide +kernel) (by decide +kernel)
set_option maxRecDepth 20000 in
theorem gX4_mayStart_X4_isWord : GoodIn wsX4_mayStart (va_wsS RX4 150 yX4_isWord wsX4_isWord) := goodIn_app (goodIn_of _ (by decide +kernel)) ggX4_mayStart_X4_isWord
theorem dX4_mayStart_0 : decode cX4_mayStart 0 = .ok (.aload_n 0, 1) := by decide +kernel
theorem dX4_mayStart_1 : decode cX4_mayStart 1 = .ok (.iload_n 1, 1) := by decide +kernel
theorem dX4_mayStart_2 : decode cX4_mayStart 2 = .ok (.invokevirtual 114, 3) := by decide +kernel
theorem dX4_mayStart_5 : decode cX4_mayStart 5 = .ok (.ifCond .eq 36, 3) := by decide +kernel
theorem dX4_mayStart_8 : decode cX4_mayStart 8 = .ok (.iload_n 2, 1) := by decide +kernel
theorem dX4_mayStart_9 : decode cX4_mayStart 9 = .ok (.invokestatic 138, 3) := by decide +kernel
theorem dX4_mayStart_12 : decode cX4_mayStart 12 = .ok (.ifCond .eq 29, 3) := by decide +kernel
theorem dX4_mayStart_15 : decode cX4_mayStart 15 = .ok (.iload_n 3, 1) := by decide +kernel
theorem dX4_mayStart_16 : decode cX4_mayStart 16 = .ok (.invokestatic 150, 3) := by decide +kernel
theorem dX4_mayStart_19 : decode cX4_mayStart 19 = .ok (.ifCond .eq 22, 3) := by decide +kernel
theorem dX4_mayStart_22 : decode cX4_mayStart 22 = .ok (.aload_n 0, 1) := by decide +kernel
theorem dX4_mayStart_23 : decode cX4_mayStart 23 = .ok (.getfield 11, 3) := by decide +kernel
theorem dX4_mayStart_26 : decode cX4_mayStart 26 = .ok (.iload_n 1, 1) := by decide +kernel
theorem dX4_mayStart_27 : decode cX4_mayStart 27 = .ok (.aaload, 1) := by decide +kernel
theorem dX4_mayStart_28 : decode cX4_mayStart 28 = .ok (.getfield 36, 3) := by decide +kernel
theorem dX4_mayStart_31 : decode cX4_mayStart 31 = .ok (.getfield 117, 3) := by decide +kernel
theorem dX4_mayStart_34 : decode cX4_mayStart 34 = .ok (.ifCond .ne 7, 3) := by decide +kernel
theorem dX4_mayStart_37 : decode cX4_mayStart 37 = .ok (.iconst 1, 1) := by decide +kernel
theorem dX4_mayStart_38 : decode cX4_mayStart 38 = .ok (.goto 4, 3) := by decide +kernel
theorem dX4_mayStart_41 : decode cX4_mayStart 41 = .ok (.iconst 0, 1) := by decide +kernel
theorem dX4_mayStart_42 : decode cX4_mayStart 42 = .ok (.ireturn, 1) := by decide +kernel
theorem dX4_doneAtOnce_0 : decode cX4_doneAtOnce 0 = .ok (.aload_n 1, 1) := by decide +kernel
theorem dX4_doneAtOnce_1 : decode cX4_doneAtOnce 1 = .ok (.getfield 36, 3) := by decide +kernel
theorem dX4_doneAtOnce_4 : decode cX4_doneAtOnce 4 = .ok (.getfield 117, 3) := by decide +kernel
theorem dX4_doneAtOnce_7 : decode cX4_doneAtOnce 7 = .ok (.ifCond .eq 5, 3) := by decide +kernel
theorem dX4_doneAtOnce_10 : decode cX4_doneAtOnce 10 = .ok (.iconst 0, 1) := by decide +kernel
theorem dX4_doneAtOnce_11 : decode cX4_doneAtOnce 11 = .ok (.ireturn, 1) := by decide +kernel
theorem dX4_doneAtOnce_12 : decode cX4_doneAtOnce 12 = .ok (.aload_n 0, 1) := by decide +kernel
theorem dX4_doneAtOnce_13 : decode cX4_doneAtOnce 13 = .ok (.getfield 22, 3) := by decide +kernel
theorem dX4_doneAtOnce_16 : decode cX4_doneAtOnce 16 = .ok (.bipush 7, 2) := by decide +kernel
theorem dX4_doneAtOnce_18 : decode cX4_doneAtOnce 18 = .ok (.dup2, 1) := by decide +kernel
theorem dX4_doneAtOnce_19 : decode cX4_doneAtOnce 19 = .ok (.iaload, 1) := by decide +kernel
theorem dX4_doneAtOnce_20 : decode cX4_doneAtOnce 20 = .ok (.iconst 1, 1) := by decide +kernel
theorem dX4_doneAtOnce_21 : decode cX4_doneAtOnce 21 = .ok (.iadd, 1) := by decide +kernel
theorem dX4_doneAtOnce_22 : decode cX4_doneAtOnce 22 = .ok (.iastore, 1) := by decide +kernel
theorem dX4_doneAtOnce_23 : decode cX4_doneAtOnce 23 = .ok (.iconst 1, 1) := by decide +kernel
theorem dX4_doneAtOnce_24 : decode cX4_doneAtOnce 24 = .ok (.ireturn, 1) := by decide +kernel
set_option maxRecDepth 20000 in
theorem ggX4_ask_X4_send : GoodIn wsX4_ask wsX4_send := goodIn_r _ [11, 12, 13, 14, 15, 16, 17, 18, 19, 20, 21, 22, 23, 24, 25, 26, 27, 28, 29, 30, 58, 59, 60, 61, 62, 63, 51, 52, 53, 54, 55, 56, 57] (by decide +kernel) (by decide +kernel)
set_option maxRecDepth 20000 in
theorem gX4_ask_X4_send : GoodIn wsX4_ask (wsV RX4 184 RX4 yX4_send wsX4_send) := goodIn_app (goodIn_of _ (by decide +kernel)) ggX4_ask_X4_send
theorem dX4_ask_0 : decode cX4_ask 0 = .ok (.aload_n 1, 1) := by decide +kernel
theorem dX4_ask_1 : decode cX4_ask 1 = .ok (.getfield 36, 3) := by decide +kernel
theorem dX4_ask_4 : decode cX4_ask 4 = .ok (.getfield 127, 3) := by decide +kernel
theorem dX4_ask_7 : decode cX4_ask 7 = .ok (.istore 4, 2) := by decide +kernel
theorem dX4_ask_9 : decode cX4_ask 9 = .ok (.aload_n 1, 1) := by decide +kernel
theorem dX4_ask_10 : decode cX4_ask 10 = .ok (.getfield 36, 3) := by decide +kernel
theorem dX4_ask_13 : decode cX4_ask 13 = .ok (.iload_n 3, 1) := by decide +kernel
theorem dX4_ask_14 : decode cX4_ask 14 = .ok (.putfield 117, 3) := by decide +kernel
theorem dX4_ask_17 : decode cX4_ask 17 = .ok (.aload_n 0, 1) := by decide +kernel
theorem dX4_ask_18 : decode cX4_ask 18 = .ok (.iload_n 2, 1) := by decide +kernel
theorem dX4_ask_19 : decode cX4_ask 19 = .ok (.aload_n 1, 1) := by decide +kernel
theorem dX4_ask_20 : decode cX4_ask 20 = .ok (.getfield 181, 3) := by decide +kernel
theorem dX4_ask_23 : decode cX4_ask 23 = .ok (.aload_n 1, 1) := by decide +kernel
theorem dX4_ask_24 : decode cX4_ask 24 = .ok (.getfield 144, 3) := by decide +kernel
theorem dX4_ask_27 : decode cX4_ask 27 = .ok (.iload 4, 2) := by decide +kernel
theorem dX4_ask_29 : decode cX4_ask 29 = .ok (.iaload, 1) := by decide +kernel
theorem dX4_ask_30 : decode cX4_ask 30 = .ok (.iload 4, 2) := by decide +kernel
theorem dX4_ask_32 : decode cX4_ask 32 = .ok (.invokevirtual 184, 3) := by decide +kernel
theorem dX4_ask_35 : decode cX4_ask 35 = .ok (.aload_n 1, 1) := by decide +kernel
theorem dX4_ask_36 : decode cX4_ask 36 = .ok (.getfield 181, 3) := by decide +kernel
theorem dX4_ask_39 : decode cX4_ask 39 = .ok (.putfield 91, 3) := by decide +kernel
theorem dX4_ask_42 : decode cX4_ask 42 = .ok (.return_, 1) := by decide +kernel
set_option maxRecDepth 20000 in
theorem ggX4_send_X2_putIn : GoodIn wsX4_send wsX2_putIn := goodIn_r _ [7, 8, 9, 10, 11, 12, 13, 14, 15, 16, 17, 18, 19, 24, 25, 26, 27, 28, 29, 30, 31, 32] (by decide +kernel) (by decide +kernel)
set_option maxRecDepth 20000 in
theorem gX4_send_X2_putIn : GoodIn wsX4_send (wsV RX4 188 RX2 yX2_putIn wsX2_putIn) := goodIn_app (goodIn_of _ (by decide +kernel)) ggX4_send_X2_putIn
theorem dX4_send_0 : decode cX4_send 0 = .ok (.aload_n 0, 1) := by decide +kernel
theorem dX4_send_1 : decode cX4_send 1 = .ok (.getfield 22, 3) := by decide +kernel
theorem dX4_send_4 : decode cX4_send 4 = .ok (.iconst 1, 1) := by decide +kernel
theorem dX4_send_5 : decode cX4_send 5 = .ok (.dup2, 1) := by decide +kernel
theorem dX4_send_6 : decode cX4_send 6 = .ok (.iaload, 1) := by decide +kernel
theorem dX4_send_7 : decode cX4_send 7 = .ok (.iconst 1, 1) := by decide +kernel
theorem dX4_send_8 : decode cX4_send 8 = .ok (.iadd, 1) := by decide +kernel
theorem dX4_send_9 : decode cX4_send 9 = .ok (.iastore, 1) := by decide +kernel
theorem dX4_send_10 : decode cX4_send 10 = .ok (.aload_n 0, 1) := by decide +kernel
theorem dX4_send_11 : decode cX4_send 11 = .ok (.getfield 18, 3) := by decide +kernel
theorem dX4_send_14 : decode cX4_send 14 = .ok (.iload_n 1, 1) := by decide +kernel
theorem dX4_send_15 : decode cX4_send 15 = .ok (.iload_n 2, 1) := by decide +kernel
theorem dX4_send_16 : decode cX4_send 16 = .ok (.iload_n 3, 1) := by decide +kernel
theorem dX4_send_17 : decode cX4_send 17 = .ok (.iload 4, 2) := by decide +kernel
theorem dX4_send_19 : decode cX4_send 19 = .ok (.invokevirtual 188, 3) := by decide +kernel
theorem dX4_send_22 : decode cX4_send 22 = .ok (.areturn, 1) := by decide +kernel
set_option maxRecDepth 20000 in
theorem ggX4_finish_X3_doWhatIsAtHand : GoodIn wsX4_finish wsX3_doWhatIsAtHand := goodIn_r _ [6, 7, 8, 9, 10, 11, 12, 13, 14, 15, 20, 21, 22, 23, 24, 25, 26, 27, 28, 29, 30, 31, 32, 33, 34, 35, 36, 37, 38, 39] (by decide +kernel) (by decide +kernel)
set_option maxRecDepth 20000 in
theorem gX4_finish_X3_doWhatIsAtHand : GoodIn wsX4_finish (wsV RX4 191 RX3 yX3_doWhatIsAtHand wsX3_doWhatIsAtHand) := goodIn_app (goodIn_of _ (by decide +kernel)) ggX4_finish_X3_doWhatIsAtHand
theorem dX4_finish_0 : decode cX4_finish 0 = .ok (.aload_n 1, 1) := by decide +kernel
theorem dX4_finish_1 : decode cX4_finish 1 = .ok (.invokevirtual 191, 3) := by decide +kernel
theorem dX4_finish_4 : decode cX4_finish 4 = .ok (.aload_n 0, 1) := by decide +kernel
theorem dX4_finish_5 : decode cX4_finish 5 = .ok (.getfield 22, 3) := by decide +kernel
theorem dX4_finish_8 : decode cX4_finish 8 = .ok (.bipush 6, 2) := by decide +kernel
theorem dX4_finish_10 : decode cX4_finish 10 = .ok (.dup2, 1) := by decide +kernel
theorem dX4_finish_11 : decode cX4_finish 11 = .ok (.iaload, 1) := by decide +kernel
theorem dX4_finish_12 : decode cX4_finish 12 = .ok (.iconst 1, 1) := by decide +kernel
theorem dX4_finish_13 : decode cX4_finish 13 = .ok (.iadd, 1) := by decide +kernel
theorem dX4_finish_14 : decode cX4_finish 14 = .ok (.iastore, 1) := by decide +kernel
theorem dX4_finish_15 : decode cX4_finish 15 = .ok (.return_, 1) := by decide +kernel
set_option maxRecDepth 20000 in
theorem ggX4_callBack_X4_send : GoodIn wsX4_callBack wsX4_send := goodIn_r _ [13, 7, 14, 15, 16, 17, 18, 19, 20, 21, 22, 23, 24, 25, 26, 27, 28, 29, 30, 31, 52, 53, 54, 55, 56, 57, 58, 59, 60, 61, 62, 63, 64] (by decide +kernel) (by decide +kernel)
set_option maxRecDepth 20000 in
theorem gX4_callBack_X4_send : GoodIn wsX4_callBack (wsV RX4 184 RX4 yX4_send wsX4_send) := goodIn_app (goodIn_of _ (by decide +kernel)) ggX4_callBack_X4_send
theorem dX4_callBack_0 : decode cX4_callBack 0 = .ok (.aload_n 1, 1) := by decide +kernel
theorem dX4_callBack_1 : decode cX4_callBack 1 = .ok (.getfield 36, 3) := by decide +kernel
theorem dX4_callBack_4 : decode cX4_callBack 4 = .ok (.getfield 127, 3) := by decide +kernel
theorem dX4_callBack_7 : decode cX4_callBack 7 = .ok (.istore_n 2, 1) := by decide +kernel
theorem dX4_callBack_8 : decode cX4_callBack 8 = .ok (.aload_n 1, 1) := by decide +kernel
theorem dX4_callBack_9 : decode cX4_callBack 9 = .ok (.getfield 147, 3) := by decide +kernel
theorem dX4_callBack_12 : decode cX4_callBack 12 = .ok (.iload_n 2, 1) := by decide +kernel
theorem dX4_callBack_13 : decode cX4_callBack 13 = .ok (.iaload, 1) := by decide +kernel
theorem dX4_callBack_14 : decode cX4_callBack 14 = .ok (.istore_n 3, 1) := by decide +kernel
theorem dX4_callBack_15 : decode cX4_callBack 15 = .ok (.aload_n 1, 1) := by decide +kernel
theorem dX4_callBack_16 : decode cX4_callBack 16 = .ok (.getfield 147, 3) := by decide +kernel
theorem dX4_callBack_19 : decode cX4_callBack 19 = .ok (.iload_n 2, 1) := by decide +kernel
theorem dX4_callBack_20 : decode cX4_callBack 20 = .ok (.iconst 0, 1) := by decide +kernel
theorem dX4_callBack_21 : decode cX4_callBack 21 = .ok (.iastore, 1) := by decide +kernel
theorem dX4_callBack_22 : decode cX4_callBack 22 = .ok (.aload_n 1, 1) := by decide +kernel
theorem dX4_callBack_23 : decode cX4_callBack 23 = .ok (.getfield 36, 3) := by decide +kernel
theorem dX4_callBack_26 : decode cX4_callBack 26 = .ok (.iconst 3, 1) := by decide +kernel
theorem dX4_callBack_27 : decode cX4_callBack 27 = .ok (.putfield 117, 3) := by decide +kernel
theorem dX4_callBack_30 : decode cX4_callBack 30 = .ok (.iconst 0, 1) := by decide +kernel
theorem dX4_callBack_31 : decode cX4_callBack 31 = .ok (.istore 4, 2) := by decide +kernel
theorem dX4_callBack_33 : decode cX4_callBack 33 = .ok (.iload 4, 2) := by decide +kernel
theorem dX4_callBack_35 : decode cX4_callBack 35 = .ok (.aload_n 0, 1) := by decide +kernel
theorem dX4_callBack_36 : decode cX4_callBack 36 = .ok (.getfield 141, 3) := by decide +kernel
theorem dX4_callBack_39 : decode cX4_callBack 39 = .ok (.if_icmp .ge 55, 3) := by decide +kernel
theorem dX4_callBack_42 : decode cX4_callBack 42 = .ok (.iload_n 3, 1) := by decide +kernel
theorem dX4_callBack_43 : decode cX4_callBack 43 = .ok (.iload 4, 2) := by decide +kernel
theorem dX4_callBack_45 : decode cX4_callBack 45 = .ok (.ishr, 1) := by decide +kernel
theorem dX4_callBack_46 : decode cX4_callBack 46 = .ok (.iconst 1, 1) := by decide +kernel
theorem dX4_callBack_47 : decode cX4_callBack 47 = .ok (.iand, 1) := by decide +kernel
theorem dX4_callBack_48 : decode cX4_callBack 48 = .ok (.iconst 1, 1) := by decide +kernel
theorem dX4_callBack_49 : decode cX4_callBack 49 = .ok (.if_icmp .ne 39, 3) := by decide +kernel
theorem dX4_callBack_52 : decode cX4_callBack 52 = .ok (.aload_n 0, 1) := by decide +kernel
theorem dX4_callBack_53 : decode cX4_callBack 53 = .ok (.iconst 5, 1) := by decide +kernel
theorem dX4_callBack_54 : decode cX4_callBack 54 = .ok (.aload_n 1, 1) := by decide +kernel
theorem dX4_callBack_55 : decode cX4_callBack 55 = .ok (.getfield 181, 3) := by decide +kernel
theorem dX4_callBack_58 : decode cX4_callBack 58 = .ok (.iload 4, 2) := by decide +kernel
theorem dX4_callBack_60 : decode cX4_callBack 60 = .ok (.iload_n 2, 1) := by decide +kernel
theorem dX4_callBack_61 : decode cX4_callBack 61 = .ok (.invokevirtual 184, 3) := by decide +kernel
theorem dX4_callBack_64 : decode cX4_callBack 64 = .ok (.pop, 1) := by decide +kernel
theorem dX4_callBack_65 : decode cX4_callBack 65 = .ok (.aload_n 0, 1) := by decide +kernel
theorem dX4_callBack_66 : decode cX4_callBack 66 = .ok (.getfield 22, 3) := by decide +kernel
theorem dX4_callBack_69 : decode cX4_callBack 69 = .ok (.iconst 5, 1) := by decide +kernel
theorem dX4_callBack_70 : decode cX4_callBack 70 = .ok (.dup2, 1) := by decide +kernel
theorem dX4_callBack_71 : decode cX4_callBack 71 = .ok (.iaload, 1) := by decide +kernel
theorem dX4_callBack_72 : decode cX4_callBack 72 = .ok (.iconst 1, 1) := by decide +kernel
theorem dX4_callBack_73 : decode cX4_callBack 73 = .ok (.iadd, 1) := by decide +kernel
theorem dX4_callBack_74 : decode cX4_callBack 74 = .ok (.iastore, 1) := by decide +kernel
theorem dX4_callBack_75 : decode cX4_callBack 75 = .ok (.aload_n 1, 1) := by decide +kernel
theorem dX4_callBack_76 : decode cX4_callBack 76 = .ok (.getfield 36, 3) := by decide +kernel
theorem dX4_callBack_79 : decode cX4_callBack 79 = .ok (.dup, 1) := by decide +kernel
theorem dX4_callBack_80 : decode cX4_callBack 80 = .ok (.getfield 111, 3) := by decide +kernel
theorem dX4_callBack_83 : decode cX4_callBack 83 = .ok (.iconst 1, 1) := by decide +kernel
theorem dX4_callBack_84 : decode cX4_callBack 84 = .ok (.iadd, 1) := by decide +kernel
theorem dX4_callBack_85 : decode cX4_callBack 85 = .ok (.putfield 111, 3) := by decide +kernel
theorem dX4_callBack_88 : decode cX4_callBack 88 = .ok (.iinc 4 1, 3) := by decide +kernel
theorem dX4_callBack_91 : decode cX4_callBack 91 = .ok (.goto (-58), 3) := by decide +kernel
theorem dX4_callBack_94 : decode cX4_callBack 94 = .ok (.return_, 1) := by decide +kernel
set_option maxRecDepth 20000 in
theorem ggX4_finishIfAllAnswered_X4_finish : GoodIn wsX4_finishIfAllAnswered wsX4_finish := goodIn_r _ [10, 11, 12, 13, 14, 15, 16, 17, 18, 19, 20, 21, 22, 23, 24, 25, 117, 118, 119, 120, 97, 98, 99, 100, 101, 102, 103, 104, 105, 106, 107, 108, 109, 110, 111, 112, 113, 114, 115, 116] (by decide +kernel) (by decide +kernel)
set_option maxRecDepth 20000 in
theorem gX4_finishIfAllAnswered_X4_finish : GoodIn wsX4_finishIfAllAnswered (wsV RX4 53 RX4 yX4_finish wsX4_finish) := goodIn_app (goodIn_of _ (by decide +kernel)) ggX4_finishIfAllAnswered_X4_finish
set_option maxRecDepth 20000 in
theorem ggX4_finishIfAllAnswered_X4_goOverQueue : GoodIn wsX4_finishIfAllAnswered wsX4_goOverQueue := goodIn_r _ [29, 30, 31, 32, 33, 34, 35, 9, 36, 1, 37, 38, 39, 40, 41, 42, 43, 44, 45, 46, 47, 15, 48, 49, 50, 51, 52, 53, 54, 55, 56, 57, 58, 11, 59, 60, 61, 62, 63, 64, 65, 66, 67, 68, 69, 70, 71, 72, 73, 74, 75, 76, 77, 78, 79, 80, 81, 82, 83, 84, 85, 5, 86, 87, 88, 89, 90, 91, 92, 93, 94, 95, 96, 97, 98, 99, 100, 101, 102, 103, 104, 105, 106, 107, 108, 109, 110, 111, 112, 113, 114, 115, 116, 121, 122, 123, 124, 125, 126, 127, 117, 118, 119, 120, 128, 129] (by decide +kernel) (by decide +kernel)
set_option maxRecDepth 20000 in
theorem gX4_finishIfAllAnswered_X4_goOverQueue : GoodIn wsX4_finishIfAllAnswered (wsV RX4 194 RX4 yX4_goOverQueue wsX4_goOverQueue) := goodIn_app (goodIn_of _ (by decide +kernel)) ggX4_finishIfAllAnswered_X4_goOverQueue
theorem dX4_finishIfAllAnswered_0 : decode cX4_finishIfAllAnswered 0 = .ok (.aload_n 1, 1) := by decide +kernel
theorem dX4_finishIfAllAnswered_1 : decode cX4_finishIfAllAnswered 1 = .ok (.getfield 36, 3) := by decide +kernel
theorem dX4_finishIfAllAnswered_4 : decode cX4_finishIfAllAnswered 4 = .ok (.getfield 117, 3) := by decide +kernel
theorem dX4_finishIfAllAnswered_7 : decode cX4_finishIfAllAnswered 7 = .ok (.iconst 3, 1) := by decide +kernel
theorem dX4_finishIfAllAnswered_8 : decode cX4_finishIfAllAnswered 8 = .ok (.if_icmp .ne 13, 3) := by decide +kernel
theorem dX4_finishIfAllAnswered_11 : decode cX4_finishIfAllAnswered 11 = .ok (.aload_n 1, 1) := by decide +kernel
theorem dX4_finishIfAllAnswered_12 : decode cX4_finishIfAllAnswered 12 = .ok (.getfield 36, 3) := by decide +kernel
theorem dX4_finishIfAllAnswered_15 : decode cX4_finishIfAllAnswered 15 = .ok (.getfield 111, 3) := by decide +kernel
theorem dX4_finishIfAllAnswered_18 : decode cX4_finishIfAllAnswered 18 = .ok (.ifCond .le 4, 3) := by decide +kernel
theorem dX4_finishIfAllAnswered_21 : decode cX4_finishIfAllAnswered 21 = .ok (.return_, 1) := by decide +kernel
theorem dX4_finishIfAllAnswered_22 : decode cX4_finishIfAllAnswered 22 = .ok (.aload_n 1, 1) := by decide +kernel
theorem dX4_finishIfAllAnswered_23 : decode cX4_finishIfAllAnswered 23 = .ok (.getfield 36, 3) := by decide +kernel
theorem dX4_finishIfAllAnswered_26 : decode cX4_finishIfAllAnswered 26 = .ok (.getfield 127, 3) := by decide +kernel
theorem dX4_finishIfAllAnswered_29 : decode cX4_finishIfAllAnswered 29 = .ok (.istore_n 2, 1) := by decide +kernel
theorem dX4_finishIfAllAnswered_30 : decode cX4_finishIfAllAnswered 30 = .ok (.aload_n 1, 1) := by decide +kernel
theorem dX4_finishIfAllAnswered_31 : decode cX4_finishIfAllAnswered 31 = .ok (.getfield 46, 3) := by decide +kernel
theorem dX4_finishIfAllAnswered_34 : decode cX4_finishIfAllAnswered 34 = .ok (.iload_n 2, 1) := by decide +kernel
theorem dX4_finishIfAllAnswered_35 : decode cX4_finishIfAllAnswered 35 = .ok (.iconst 2, 1) := by decide +kernel
theorem dX4_finishIfAllAnswered_36 : decode cX4_finishIfAllAnswered 36 = .ok (.iastore, 1) := by decide +kernel
theorem dX4_finishIfAllAnswered_37 : decode cX4_finishIfAllAnswered 37 = .ok (.aload_n 0, 1) := by decide +kernel
theorem dX4_finishIfAllAnswered_38 : decode cX4_finishIfAllAnswered 38 = .ok (.aload_n 1, 1) := by decide +kernel
theorem dX4_finishIfAllAnswered_39 : decode cX4_finishIfAllAnswered 39 = .ok (.invokevirtual 53, 3) := by decide +kernel
theorem dX4_finishIfAllAnswered_42 : decode cX4_finishIfAllAnswered 42 = .ok (.aload_n 0, 1) := by decide +kernel
theorem dX4_finishIfAllAnswered_43 : decode cX4_finishIfAllAnswered 43 = .ok (.aload_n 1, 1) := by decide +kernel
theorem dX4_finishIfAllAnswered_44 : decode cX4_finishIfAllAnswered 44 = .ok (.iload_n 2, 1) := by decide +kernel
theorem dX4_finishIfAllAnswered_45 : decode cX4_finishIfAllAnswered 45 = .ok (.invokevirtual 194, 3) := by decide +kernel
theorem dX4_finishIfAllAnswered_48 : decode cX4_finishIfAllAnswered 48 = .ok (.return_, 1) := by decide +kernel
set_option maxRecDepth 20000 in
theorem ggX4_goOverQueue_X4_askingComes : GoodIn wsX4_goOverQueue wsX4_askingComes := goodIn_r _ [8, 9, 10, 11, 12, 13, 14, 15, 16, 17, 18, 19, 20, 21, 22, 23, 24, 25, 26, 27, 28, 7, 29, 30, 31, 32, 33, 34, 35, 36, 37, 38, 39, 40, 41, 42, 43, 44, 45, 46, 47, 48, 49, 50, 51, 52, 53, 54, 55, 56, 57, 58, 59, 60, 61, 62, 63, 64, 65, 66, 67, 68, 69, 70, 71, 72, 73, 74, 75, 76, 77, 78, 79, 80, 81, 82, 83, 84, 85, 86, 87, 88, 89, 90, 91, 92, 93, 94, 95, 96, 97, 98, 99, 100, 101, 102, 103, 104, 105] (by decide +kernel) (by decide +kernel)
set_option maxRecDepth 20000 in
theorem gX4_goOverQueue_X4_askingComes : GoodIn wsX4_goOverQueue (wsV RX4 94 RX4 yX4_askingComes wsX4_askingComes) := goodIn_app (goodIn_of _ (by decide +kernel)) ggX4_goOverQueue_X4_askingComes
theorem dX4_goOverQueue_0 : decode cX4_goOverQueue 0 = .ok (.aload_n 1, 1) := by decide +kernel
theorem dX4_goOverQueue_1 : decode cX4_goOverQueue 1 = .ok (.getfield 157, 3) := by decide +kernel
theorem dX4_goOverQueue_4 : decode cX4_goOverQueue 4 = .ok (.iload_n 2, 1) := by decide +kernel
theorem dX4_goOverQueue_5 : decode cX4_goOverQueue 5 = .ok (.iaload, 1) := by decide +kernel
theorem dX4_goOverQueue_6 : decode cX4_goOverQueue 6 = .ok (.istore_n 3, 1) := by decide +kernel
theorem dX4_goOverQueue_7 : decode cX4_goOverQueue 7 = .ok (.aload_n 1, 1) := by decide +kernel
theorem dX4_goOverQueue_8 : decode cX4_goOverQueue 8 = .ok (.getfield 157, 3) := by decide +kernel
theorem dX4_goOverQueue_11 : decode cX4_goOverQueue 11 = .ok (.iload_n 2, 1) := by decide +kernel
theorem dX4_goOverQueue_12 : decode cX4_goOverQueue 12 = .ok (.iconst 0, 1) := by decide +kernel
theorem dX4_goOverQueue_13 : decode cX4_goOverQueue 13 = .ok (.iastore, 1) := by decide +kernel
theorem dX4_goOverQueue_14 : decode cX4_goOverQueue 14 = .ok (.iload_n 2, 1) := by decide +kernel
theorem dX4_goOverQueue_15 : decode cX4_goOverQueue 15 = .ok (.bipush 6, 2) := by decide +kernel
theorem dX4_goOverQueue_17 : decode cX4_goOverQueue 17 = .ok (.imul, 1) := by decide +kernel
theorem dX4_goOverQueue_18 : decode cX4_goOverQueue 18 = .ok (.istore 4, 2) := by decide +kernel
theorem dX4_goOverQueue_20 : decode cX4_goOverQueue 20 = .ok (.iload 4, 2) := by decide +kernel
theorem dX4_goOverQueue_22 : decode cX4_goOverQueue 22 = .ok (.istore 5, 2) := by decide +kernel
theorem dX4_goOverQueue_24 : decode cX4_goOverQueue 24 = .ok (.iload 5, 2) := by decide +kernel
theorem dX4_goOverQueue_26 : decode cX4_goOverQueue 26 = .ok (.iload 4, 2) := by decide +kernel
theorem dX4_goOverQueue_28 : decode cX4_goOverQueue 28 = .ok (.iload_n 3, 1) := by decide +kernel
theorem dX4_goOverQueue_29 : decode cX4_goOverQueue 29 = .ok (.iadd, 1) := by decide +kernel
theorem dX4_goOverQueue_30 : decode cX4_goOverQueue 30 = .ok (.if_icmp .ge 29, 3) := by decide +kernel
theorem dX4_goOverQueue_33 : decode cX4_goOverQueue 33 = .ok (.aload_n 0, 1) := by decide +kernel
theorem dX4_goOverQueue_34 : decode cX4_goOverQueue 34 = .ok (.aload_n 1, 1) := by decide +kernel
theorem dX4_goOverQueue_35 : decode cX4_goOverQueue 35 = .ok (.aload_n 1, 1) := by decide +kernel
theorem dX4_goOverQueue_36 : decode cX4_goOverQueue 36 = .ok (.getfield 198, 3) := by decide +kernel
theorem dX4_goOverQueue_39 : decode cX4_goOverQueue 39 = .ok (.iload 5, 2) := by decide +kernel
theorem dX4_goOverQueue_41 : decode cX4_goOverQueue 41 = .ok (.iaload, 1) := by decide +kernel
theorem dX4_goOverQueue_42 : decode cX4_goOverQueue 42 = .ok (.iload_n 2, 1) := by decide +kernel
theorem dX4_goOverQueue_43 : decode cX4_goOverQueue 43 = .ok (.aload_n 1, 1) := by decide +kernel
theorem dX4_goOverQueue_44 : decode cX4_goOverQueue 44 = .ok (.getfield 201, 3) := by decide +kernel
theorem dX4_goOverQueue_47 : decode cX4_goOverQueue 47 = .ok (.iload 5, 2) := by decide +kernel
theorem dX4_goOverQueue_49 : decode cX4_goOverQueue 49 = .ok (.iaload, 1) := by decide +kernel
theorem dX4_goOverQueue_50 : decode cX4_goOverQueue 50 = .ok (.invokevirtual 94, 3) := by decide +kernel
theorem dX4_goOverQueue_53 : decode cX4_goOverQueue 53 = .ok (.iinc 5 1, 3) := by decide +kernel
theorem dX4_goOverQueue_56 : decode cX4_goOverQueue 56 = .ok (.goto (-32), 3) := by decide +kernel
theorem dX4_goOverQueue_59 : decode cX4_goOverQueue 59 = .ok (.return_, 1) := by decide +kernel
set_option maxRecDepth 20000 in
theorem ggX4_askingComes_X0_awaits : GoodIn wsX4_askingComes wsX0_awaits := goodIn_r _ [7, 8, 9, 76, 77, 78, 79, 80, 81, 82, 83, 84, 85] (by decide +kernel) (by decide +kernel)
set_option maxRecDepth 20000 in
theorem gX4_askingComes_X0_awaits : GoodIn wsX4_askingComes (wsV RX4 204 RX0 yX0_awaits wsX0_awaits) := goodIn_app (goodIn_of _ (by decide +kernel)) ggX4_askingComes_X0_awaits
set_option maxRecDepth 20000 in
theorem ggX4_askingComes_X3_putInQueue : GoodIn wsX4_askingComes wsX3_putInQueue := goodIn_r _ [14, 15, 16, 17, 66, 67, 68, 69, 70, 71, 72, 73, 74, 75] (by decide +kernel) (by decide +kernel)
set_option maxRecDepth 20000 in
theorem gX4_askingComes_X3_putInQueue : GoodIn wsX4_askingComes (wsV RX4 208 RX3 yX3_putInQueue wsX3_putInQueue) := goodIn_app (goodIn_of _ (by decide +kernel)) ggX4_askingComes_X3_putInQueue
set_option maxRecDepth 20000 in
theorem ggX4_askingComes_X4_sendOn : GoodIn wsX4_askingComes wsX4_sendOn := goodIn_r _ [22, 23, 24, 25, 26, 27, 28, 29, 21, 30, 31, 32, 33, 34, 35, 36, 37, 38, 39, 40, 41, 42, 43, 44, 45, 46, 47, 48, 66, 67, 68, 69, 70, 71, 72, 73, 74, 75, 86, 87, 88, 89, 90, 91, 92, 93, 94, 95, 96, 97, 98] (by decide +kernel) (by decide +kernel)
set_option maxRecDepth 20000 in
theorem gX4_askingComes_X4_sendOn : GoodIn wsX4_askingComes (wsV RX4 212 RX4 yX4_sendOn wsX4_sendOn) := goodIn_app (goodIn_of _ (by decide +kernel)) ggX4_askingComes_X4_sendOn
set_option maxRecDepth 20000 in
theorem ggX4_askingComes_X4_giveToRead : GoodIn wsX4_askingComes wsX4_giveToRead := goodIn_r _ [52, 53, 54, 23, 55, 56, 57, 58, 59, 60, 26, 27, 28, 29, 21, 30, 31, 32, 33, 34, 35, 36, 37, 38, 39, 40, 41, 42, 43, 44, 45, 46, 47, 48, 66, 67, 68, 69, 70, 71, 72, 73, 74, 75, 86, 87, 88, 89, 90, 91, 92, 93, 94, 95, 96, 97, 98] (by decide +kernel) (by decide +kernel)
set_option maxRecDepth 20000 in
theorem gX4_askingComes_X4_giveToRead : GoodIn wsX4_askingComes (wsV RX4 215 RX4 yX4_giveToRead wsX4_giveToRead) := goodIn_app (goodIn_of _ (by decide +kernel)) ggX4_askingComes_X4_giveToRead
set_option maxRecDepth 20000 in
theorem ggX4_askingComes_X4_giveToWrite : GoodIn wsX4_askingComes wsX4_giveToWrite := goodIn_r _ [64, 23, 55, 56, 57, 58, 59, 60, 53, 65, 26, 2, 54, 24, 27, 28, 29, 21, 30, 31, 32, 33, 34, 35, 36, 37, 38, 39, 40, 41, 42, 43, 44, 45, 46, 47, 48, 66, 67, 68, 69, 70, 71, 72, 73, 74, 75, 86, 87, 88, 89, 90, 91, 92, 93, 94, 95, 96, 97, 98] (by decide +kernel) (by decide +kernel)
set_option maxRecDepth 20000 in
theorem gX4_askingComes_X4_giveToWrite : GoodIn wsX4_askingComes (wsV RX4 218 RX4 yX4_giveToWrite wsX4_giveToWrite) := goodIn_app (goodIn_of _ (by decide +kernel)) ggX4_askingComes_X4_giveToWrite
theorem dX4_askingComes_0 : decode cX4_askingComes 0 = .ok (.aload_n 1, 1) := by decide +kernel
theorem dX4_askingComes_1 : decode cX4_askingComes 1 = .ok (.getfield 36, 3) := by decide +kernel
theorem dX4_askingComes_4 : decode cX4_askingComes 4 = .ok (.iconst 2, 1) := by decide +kernel
theorem dX4_askingComes_5 : decode cX4_askingComes 5 = .ok (.iload_n 3, 1) := by decide +kernel
theorem dX4_askingComes_6 : decode cX4_askingComes 6 = .ok (.invokevirtual 204, 3) := by decide +kernel
theorem dX4_askingComes_9 : decode cX4_askingComes 9 = .ok (.ifCond .ne 15, 3) := by decide +kernel
theorem dX4_askingComes_12 : decode cX4_askingComes 12 = .ok (.aload_n 1, 1) := by decide +kernel
theorem dX4_askingComes_13 : decode cX4_askingComes 13 = .ok (.getfield 36, 3) := by decide +kernel
theorem dX4_askingComes_16 : decode cX4_askingComes 16 = .ok (.iconst 3, 1) := by decide +kernel
theorem dX4_askingComes_17 : decode cX4_askingComes 17 = .ok (.iload_n 3, 1) := by decide +kernel
theorem dX4_askingComes_18 : decode cX4_askingComes 18 = .ok (.invokevirtual 204, 3) := by decide +kernel
theorem dX4_askingComes_21 : decode cX4_askingComes 21 = .ok (.ifCond .eq 14, 3) := by decide +kernel
theorem dX4_askingComes_24 : decode cX4_askingComes 24 = .ok (.aload_n 1, 1) := by decide +kernel
theorem dX4_askingComes_25 : decode cX4_askingComes 25 = .ok (.iload_n 2, 1) := by decide +kernel
theorem dX4_askingComes_26 : decode cX4_askingComes 26 = .ok (.iload_n 3, 1) := by decide +kernel
theorem dX4_askingComes_27 : decode cX4_askingComes 27 = .ok (.iload 4, 2) := by decide +kernel
theorem dX4_askingComes_29 : decode cX4_askingComes 29 = .ok (.invokevirtual 208, 3) := by decide +kernel
theorem dX4_askingComes_32 : decode cX4_askingComes 32 = .ok (.goto 48, 3) := by decide +kernel
theorem dX4_askingComes_35 : decode cX4_askingComes 35 = .ok (.aload_n 1, 1) := by decide +kernel
theorem dX4_askingComes_36 : decode cX4_askingComes 36 = .ok (.getfield 61, 3) := by decide +kernel
theorem dX4_askingComes_39 : decode cX4_askingComes 39 = .ok (.iload_n 3, 1) := by decide +kernel
theorem dX4_askingComes_40 : decode cX4_askingComes 40 = .ok (.baload, 1) := by decide +kernel
theorem dX4_askingComes_41 : decode cX4_askingComes 41 = .ok (.ifCond .ne 15, 3) := by decide +kernel
theorem dX4_askingComes_44 : decode cX4_askingComes 44 = .ok (.aload_n 0, 1) := by decide +kernel
theorem dX4_askingComes_45 : decode cX4_askingComes 45 = .ok (.aload_n 1, 1) := by decide +kernel
theorem dX4_askingComes_46 : decode cX4_askingComes 46 = .ok (.iload_n 2, 1) := by decide +kernel
theorem dX4_askingComes_47 : decode cX4_askingComes 47 = .ok (.iload_n 3, 1) := by decide +kernel
theorem dX4_askingComes_48 : decode cX4_askingComes 48 = .ok (.iload 4, 2) := by decide +kernel
theorem dX4_askingComes_50 : decode cX4_askingComes 50 = .ok (.invokevirtual 212, 3) := by decide +kernel
theorem dX4_askingComes_53 : decode cX4_askingComes 53 = .ok (.goto 27, 3) := by decide +kernel
theorem dX4_askingComes_56 : decode cX4_askingComes 56 = .ok (.iload_n 2, 1) := by decide +kernel
theorem dX4_askingComes_57 : decode cX4_askingComes 57 = .ok (.iconst 1, 1) := by decide +kernel
theorem dX4_askingComes_58 : decode cX4_askingComes 58 = .ok (.if_icmp .ne 14, 3) := by decide +kernel
theorem dX4_askingComes_61 : decode cX4_askingComes 61 = .ok (.aload_n 0, 1) := by decide +kernel
theorem dX4_askingComes_62 : decode cX4_askingComes 62 = .ok (.aload_n 1, 1) := by decide +kernel
theorem dX4_askingComes_63 : decode cX4_askingComes 63 = .ok (.iload_n 3, 1) := by decide +kernel
theorem dX4_askingComes_64 : decode cX4_askingComes 64 = .ok (.iload 4, 2) := by decide +kernel
theorem dX4_askingComes_66 : decode cX4_askingComes 66 = .ok (.invokevirtual 215, 3) := by decide +kernel
theorem dX4_askingComes_69 : decode cX4_askingComes 69 = .ok (.goto 11, 3) := by decide +kernel
theorem dX4_askingComes_72 : decode cX4_askingComes 72 = .ok (.aload_n 0, 1) := by decide +kernel
theorem dX4_askingComes_73 : decode cX4_askingComes 73 = .ok (.aload_n 1, 1) := by decide +kernel
theorem dX4_askingComes_74 : decode cX4_askingComes 74 = .ok (.iload_n 3, 1) := by decide +kernel
theorem dX4_askingComes_75 : decode cX4_askingComes 75 = .ok (.iload 4, 2) := by decide +kernel
theorem dX4_askingComes_77 : decode cX4_askingComes 77 = .ok (.invokevirtual 218, 3) := by decide +kernel
theorem dX4_askingComes_80 : decode cX4_askingComes 80 = .ok (.return_, 1) := by decide +kernel
set_option maxRecDepth 20000 in
theorem ggX4_sendOn_X4_send : GoodIn wsX4_sendOn wsX4_send := goodIn_r _ [9, 4, 10, 11, 12, 13, 14, 15, 16, 17, 18, 19, 20, 21, 22, 23, 24, 25, 26, 27, 45, 46, 47, 48, 49, 50, 38, 39, 40, 41, 42, 43, 44] (by decide +kernel) (by decide +kernel)
set_option maxRecDepth 20000 in
theorem gX4_sendOn_X4_send : GoodIn wsX4_sendOn (wsV RX4 184 RX4 yX4_send wsX4_send) := goodIn_app (goodIn_of _ (by decide +kernel)) ggX4_sendOn_X4_send
theorem dX4_sendOn_0 : decode cX4_sendOn 0 = .ok (.aload_n 0, 1) := by decide +kernel
theorem dX4_sendOn_1 : decode cX4_sendOn 1 = .ok (.iload_n 2, 1) := by decide +kernel
theorem dX4_sendOn_2 : decode cX4_sendOn 2 = .ok (.aload_n 1, 1) := by decide +kernel
theorem dX4_sendOn_3 : decode cX4_sendOn 3 = .ok (.getfield 181, 3) := by decide +kernel
theorem dX4_sendOn_6 : decode cX4_sendOn 6 = .ok (.aload_n 1, 1) := by decide +kernel
theorem dX4_sendOn_7 : decode cX4_sendOn 7 = .ok (.getfield 144, 3) := by decide +kernel
theorem dX4_sendOn_10 : decode cX4_sendOn 10 = .ok (.iload_n 3, 1) := by decide +kernel
theorem dX4_sendOn_11 : decode cX4_sendOn 11 = .ok (.iaload, 1) := by decide +kernel
theorem dX4_sendOn_12 : decode cX4_sendOn 12 = .ok (.iload_n 3, 1) := by decide +kernel
theorem dX4_sendOn_13 : decode cX4_sendOn 13 = .ok (.invokevirtual 184, 3) := by decide +kernel
theorem dX4_sendOn_16 : decode cX4_sendOn 16 = .ok (.iload 4, 2) := by decide +kernel
theorem dX4_sendOn_18 : decode cX4_sendOn 18 = .ok (.putfield 91, 3) := by decide +kernel
theorem dX4_sendOn_21 : decode cX4_sendOn 21 = .ok (.aload_n 0, 1) := by decide +kernel
theorem dX4_sendOn_22 : decode cX4_sendOn 22 = .ok (.getfield 22, 3) := by decide +kernel
theorem dX4_sendOn_25 : decode cX4_sendOn 25 = .ok (.iconst 2, 1) := by decide +kernel
theorem dX4_sendOn_26 : decode cX4_sendOn 26 = .ok (.dup2, 1) := by decide +kernel
theorem dX4_sendOn_27 : decode cX4_sendOn 27 = .ok (.iaload, 1) := by decide +kernel
theorem dX4_sendOn_28 : decode cX4_sendOn 28 = .ok (.iconst 1, 1) := by decide +kernel
theorem dX4_sendOn_29 : decode cX4_sendOn 29 = .ok (.iadd, 1) := by decide +kernel
theorem dX4_sendOn_30 : decode cX4_sendOn 30 = .ok (.iastore, 1) := by decide +kernel
theorem dX4_sendOn_31 : decode cX4_sendOn 31 = .ok (.iload_n 2, 1) := by decide +kernel
theorem dX4_sendOn_32 : decode cX4_sendOn 32 = .ok (.iconst 2, 1) := by decide +kernel
theorem dX4_sendOn_33 : decode cX4_sendOn 33 = .ok (.if_icmp .ne 11, 3) := by decide +kernel
theorem dX4_sendOn_36 : decode cX4_sendOn 36 = .ok (.aload_n 1, 1) := by decide +kernel
theorem dX4_sendOn_37 : decode cX4_sendOn 37 = .ok (.getfield 144, 3) := by decide +kernel
theorem dX4_sendOn_40 : decode cX4_sendOn 40 = .ok (.iload_n 3, 1) := by decide +kernel
theorem dX4_sendOn_41 : decode cX4_sendOn 41 = .ok (.iload 4, 2) := by decide +kernel
theorem dX4_sendOn_43 : decode cX4_sendOn 43 = .ok (.iastore, 1) := by decide +kernel
theorem dX4_sendOn_44 : decode cX4_sendOn 44 = .ok (.return_, 1) := by decide +kernel
set_option maxRecDepth 20000 in
theorem ggX4_giveToRead_X4_send : GoodIn wsX4_giveToRead wsX4_send := goodIn_r _ [15, 10, 16, 17, 18, 19, 20, 21, 22, 23, 24, 25, 26, 27, 28, 29, 30, 31, 32, 33, 51, 52, 53, 54, 55, 56, 44, 45, 46, 47, 48, 49, 50] (by decide +kernel) (by decide +kernel)
set_option maxRecDepth 20000 in
theorem gX4_giveToRead_X4_send : GoodIn wsX4_giveToRead (wsV RX4 184 RX4 yX4_send wsX4_send) := goodIn_app (goodIn_of _ (by decide +kernel)) ggX4_giveToRead_X4_send
theorem dX4_giveToRead_0 : decode cX4_giveToRead 0 = .ok (.aload_n 1, 1) := by decide +kernel
theorem dX4_giveToRead_1 : decode cX4_giveToRead 1 = .ok (.getfield 147, 3) := by decide +kernel
theorem dX4_giveToRead_4 : decode cX4_giveToRead 4 = .ok (.iload_n 2, 1) := by decide +kernel
theorem dX4_giveToRead_5 : decode cX4_giveToRead 5 = .ok (.dup2, 1) := by decide +kernel
theorem dX4_giveToRead_6 : decode cX4_giveToRead 6 = .ok (.iaload, 1) := by decide +kernel
theorem dX4_giveToRead_7 : decode cX4_giveToRead 7 = .ok (.iconst 1, 1) := by decide +kernel
theorem dX4_giveToRead_8 : decode cX4_giveToRead 8 = .ok (.iload_n 3, 1) := by decide +kernel
theorem dX4_giveToRead_9 : decode cX4_giveToRead 9 = .ok (.ishl, 1) := by decide +kernel
theorem dX4_giveToRead_10 : decode cX4_giveToRead 10 = .ok (.ior, 1) := by decide +kernel
theorem dX4_giveToRead_11 : decode cX4_giveToRead 11 = .ok (.iastore, 1) := by decide +kernel
theorem dX4_giveToRead_12 : decode cX4_giveToRead 12 = .ok (.aload_n 1, 1) := by decide +kernel
theorem dX4_giveToRead_13 : decode cX4_giveToRead 13 = .ok (.getfield 46, 3) := by decide +kernel
theorem dX4_giveToRead_16 : decode cX4_giveToRead 16 = .ok (.iload_n 2, 1) := by decide +kernel
theorem dX4_giveToRead_17 : decode cX4_giveToRead 17 = .ok (.iconst 1, 1) := by decide +kernel
theorem dX4_giveToRead_18 : decode cX4_giveToRead 18 = .ok (.iastore, 1) := by decide +kernel
theorem dX4_giveToRead_19 : decode cX4_giveToRead 19 = .ok (.aload_n 0, 1) := by decide +kernel
theorem dX4_giveToRead_20 : decode cX4_giveToRead 20 = .ok (.iconst 3, 1) := by decide +kernel
theorem dX4_giveToRead_21 : decode cX4_giveToRead 21 = .ok (.aload_n 1, 1) := by decide +kernel
theorem dX4_giveToRead_22 : decode cX4_giveToRead 22 = .ok (.getfield 181, 3) := by decide +kernel
theorem dX4_giveToRead_25 : decode cX4_giveToRead 25 = .ok (.iload_n 3, 1) := by decide +kernel
theorem dX4_giveToRead_26 : decode cX4_giveToRead 26 = .ok (.iload_n 2, 1) := by decide +kernel
theorem dX4_giveToRead_27 : decode cX4_giveToRead 27 = .ok (.invokevirtual 184, 3) := by decide +kernel
theorem dX4_giveToRead_30 : decode cX4_giveToRead 30 = .ok (.astore 4, 2) := by decide +kernel
theorem dX4_giveToRead_32 : decode cX4_giveToRead 32 = .ok (.aload_n 1, 1) := by decide +kernel
theorem dX4_giveToRead_33 : decode cX4_giveToRead 33 = .ok (.getfield 153, 3) := by decide +kernel
theorem dX4_giveToRead_36 : decode cX4_giveToRead 36 = .ok (.iload_n 2, 1) := by decide +kernel
theorem dX4_giveToRead_37 : decode cX4_giveToRead 37 = .ok (.iconst 4, 1) := by decide +kernel
theorem dX4_giveToRead_38 : decode cX4_giveToRead 38 = .ok (.imul, 1) := by decide +kernel
theorem dX4_giveToRead_39 : decode cX4_giveToRead 39 = .ok (.aload 4, 2) := by decide +kernel
theorem dX4_giveToRead_41 : decode cX4_giveToRead 41 = .ok (.getfield 173, 3) := by decide +kernel
theorem dX4_giveToRead_44 : decode cX4_giveToRead 44 = .ok (.iconst 0, 1) := by decide +kernel
theorem dX4_giveToRead_45 : decode cX4_giveToRead 45 = .ok (.iconst 4, 1) := by decide +kernel
theorem dX4_giveToRead_46 : decode cX4_giveToRead 46 = .ok (.invokestatic 221, 3) := by decide +kernel
theorem dX4_giveToRead_49 : decode cX4_giveToRead 49 = .ok (.aload_n 0, 1) := by decide +kernel
theorem dX4_giveToRead_50 : decode cX4_giveToRead 50 = .ok (.getfield 22, 3) := by decide +kernel
theorem dX4_giveToRead_53 : decode cX4_giveToRead 53 = .ok (.iconst 3, 1) := by decide +kernel
theorem dX4_giveToRead_54 : decode cX4_giveToRead 54 = .ok (.dup2, 1) := by decide +kernel
theorem dX4_giveToRead_55 : decode cX4_giveToRead 55 = .ok (.iaload, 1) := by decide +kernel
theorem dX4_giveToRead_56 : decode cX4_giveToRead 56 = .ok (.iconst 1, 1) := by decide +kernel
theorem dX4_giveToRead_57 : decode cX4_giveToRead 57 = .ok (.iadd, 1) := by decide +kernel
theorem dX4_giveToRead_58 : decode cX4_giveToRead 58 = .ok (.iastore, 1) := by decide +kernel
theorem dX4_giveToRead_59 : decode cX4_giveToRead 59 = .ok (.return_, 1) := by decide +kernel
set_option maxRecDepth 20000 in
theorem ggX4_giveToWrite_X4_send : GoodIn wsX4_giveToWrite wsX4_send := goodIn_r _ [18, 10, 19, 20, 21, 22, 23, 24, 25, 26, 27, 28, 29, 30, 31, 32, 33, 34, 35, 36, 54, 55, 56, 57, 58, 59, 47, 48, 49, 50, 51, 52, 53] (by decide +kernel) (by decide +kernel)
set_option maxRecDepth 20000 in
theorem gX4_giveToWrite_X4_send : GoodIn wsX4_giveToWrite (wsV RX4 184 RX4 yX4_send wsX4_send) := goodIn_app (goodIn_of _ (by decide +kernel)) ggX4_giveToWrite_X4_send
theorem dX4_giveToWrite_0 : decode cX4_giveToWrite 0 = .ok (.aload_n 0, 1) := by decide +kernel
theorem dX4_giveToWrite_1 : decode cX4_giveToWrite 1 = .ok (.iconst 4, 1) := by decide +kernel
theorem dX4_giveToWrite_2 : decode cX4_giveToWrite 2 = .ok (.aload_n 1, 1) := by decide +kernel
theorem dX4_giveToWrite_3 : decode cX4_giveToWrite 3 = .ok (.getfield 181, 3) := by decide +kernel
theorem dX4_giveToWrite_6 : decode cX4_giveToWrite 6 = .ok (.iload_n 3, 1) := by decide +kernel
theorem dX4_giveToWrite_7 : decode cX4_giveToWrite 7 = .ok (.iload_n 2, 1) := by decide +kernel
theorem dX4_giveToWrite_8 : decode cX4_giveToWrite 8 = .ok (.invokevirtual 184, 3) := by decide +kernel
theorem dX4_giveToWrite_11 : decode cX4_giveToWrite 11 = .ok (.astore 4, 2) := by decide +kernel
theorem dX4_giveToWrite_13 : decode cX4_giveToWrite 13 = .ok (.aload_n 1, 1) := by decide +kernel
theorem dX4_giveToWrite_14 : decode cX4_giveToWrite 14 = .ok (.getfield 153, 3) := by decide +kernel
theorem dX4_giveToWrite_17 : decode cX4_giveToWrite 17 = .ok (.iload_n 2, 1) := by decide +kernel
theorem dX4_giveToWrite_18 : decode cX4_giveToWrite 18 = .ok (.iconst 4, 1) := by decide +kernel
theorem dX4_giveToWrite_19 : decode cX4_giveToWrite 19 = .ok (.imul, 1) := by decide +kernel
theorem dX4_giveToWrite_20 : decode cX4_giveToWrite 20 = .ok (.aload 4, 2) := by decide +kernel
theorem dX4_giveToWrite_22 : decode cX4_giveToWrite 22 = .ok (.getfield 173, 3) := by decide +kernel
theorem dX4_giveToWrite_25 : decode cX4_giveToWrite 25 = .ok (.iconst 0, 1) := by decide +kernel
theorem dX4_giveToWrite_26 : decode cX4_giveToWrite 26 = .ok (.iconst 4, 1) := by decide +kernel
theorem dX4_giveToWrite_27 : decode cX4_giveToWrite 27 = .ok (.invokestatic 221, 3) := by decide +kernel
theorem dX4_giveToWrite_30 : decode cX4_giveToWrite 30 = .ok (.aload 4, 2) := by decide +kernel
theorem dX4_giveToWrite_32 : decode cX4_giveToWrite 32 = .ok (.aload_n 1, 1) := by decide +kernel
theorem dX4_giveToWrite_33 : decode cX4_giveToWrite 33 = .ok (.getfield 147, 3) := by decide +kernel
theorem dX4_giveToWrite_36 : decode cX4_giveToWrite 36 = .ok (.iload_n 2, 1) := by decide +kernel
theorem dX4_giveToWrite_37 : decode cX4_giveToWrite 37 = .ok (.iaload, 1) := by decide +kernel
theorem dX4_giveToWrite_38 : decode cX4_giveToWrite 38 = .ok (.putfield 171, 3) := by decide +kernel
theorem dX4_giveToWrite_41 : decode cX4_giveToWrite 41 = .ok (.aload_n 0, 1) := by decide +kernel
theorem dX4_giveToWrite_42 : decode cX4_giveToWrite 42 = .ok (.getfield 22, 3) := by decide +kernel
theorem dX4_giveToWrite_45 : decode cX4_giveToWrite 45 = .ok (.iconst 4, 1) := by decide +kernel
theorem dX4_giveToWrite_46 : decode cX4_giveToWrite 46 = .ok (.dup2, 1) := by decide +kernel
theorem dX4_giveToWrite_47 : decode cX4_giveToWrite 47 = .ok (.iaload, 1) := by decide +kernel
theorem dX4_giveToWrite_48 : decode cX4_giveToWrite 48 = .ok (.iconst 1, 1) := by decide +kernel
theorem dX4_giveToWrite_49 : decode cX4_giveToWrite 49 = .ok (.iadd, 1) := by decide +kernel
theorem dX4_giveToWrite_50 : decode cX4_giveToWrite 50 = .ok (.iastore, 1) := by decide +kernel
theorem dX4_giveToWrite_51 : decode cX4_giveToWrite 51 = .ok (.aload_n 1, 1) := by decide +kernel
theorem dX4_giveToWrite_52 : decode cX4_giveToWrite 52 = .ok (.getfield 147, 3) := by decide +kernel
theorem dX4_giveToWrite_55 : decode cX4_giveToWrite 55 = .ok (.iload_n 2, 1) := by decide +kernel
theorem dX4_giveToWrite_56 : decode cX4_giveToWrite 56 = .ok (.iconst 0, 1) := by decide +kernel
theorem dX4_giveToWrite_57 : decode cX4_giveToWrite 57 = .ok (.iastore, 1) := by decide +kernel
theorem dX4_giveToWrite_58 : decode cX4_giveToWrite 58 = .ok (.aload_n 1, 1) := by decide +kernel
theorem dX4_giveToWrite_59 : decode cX4_giveToWrite 59 = .ok (.getfield 61, 3) := by decide +kernel
theorem dX4_giveToWrite_62 : decode cX4_giveToWrite 62 = .ok (.iload_n 2, 1) := by decide +kernel
theorem dX4_giveToWrite_63 : decode cX4_giveToWrite 63 = .ok (.iconst 0, 1) := by decide +kernel
theorem dX4_giveToWrite_64 : decode cX4_giveToWrite 64 = .ok (.bastore, 1) := by decide +kernel
theorem dX4_giveToWrite_65 : decode cX4_giveToWrite 65 = .ok (.aload_n 1, 1) := by decide +kernel
theorem dX4_giveToWrite_66 : decode cX4_giveToWrite 66 = .ok (.getfield 46, 3) := by decide +kernel
theorem dX4_giveToWrite_69 : decode cX4_giveToWrite 69 = .ok (.iload_n 2, 1) := by decide +kernel
theorem dX4_giveToWrite_70 : decode cX4_giveToWrite 70 = .ok (.iconst 0, 1) := by decide +kernel
theorem dX4_giveToWrite_71 : decode cX4_giveToWrite 71 = .ok (.iastore, 1) := by decide +kernel
theorem dX4_giveToWrite_72 : decode cX4_giveToWrite 72 = .ok (.aload_n 1, 1) := by decide +kernel
theorem dX4_giveToWrite_73 : decode cX4_giveToWrite 73 = .ok (.getfield 144, 3) := by decide +kernel
theorem dX4_giveToWrite_76 : decode cX4_giveToWrite 76 = .ok (.iload_n 2, 1) := by decide +kernel
theorem dX4_giveToWrite_77 : decode cX4_giveToWrite 77 = .ok (.iload_n 3, 1) := by decide +kernel
theorem dX4_giveToWrite_78 : decode cX4_giveToWrite 78 = .ok (.iastore, 1) := by decide +kernel
theorem dX4_giveToWrite_79 : decode cX4_giveToWrite 79 = .ok (.return_, 1) := by decide +kernel
set_option maxRecDepth 20000 in
theorem ggX4_givenToRead_X4_finish : GoodIn wsX4_givenToRead wsX4_finish := goodIn_r _ [17, 18, 19, 20, 21, 22, 23, 24, 25, 26, 27, 28, 29, 30, 31, 32, 60, 61, 62, 63, 40, 41, 42, 43, 44, 45, 46, 47, 48, 49, 50, 51, 52, 53, 54, 55, 56, 57, 58, 59] (by decide +kernel) (by decide +kernel)
set_option maxRecDepth 20000 in
theorem gX4_givenToRead_X4_finish : GoodIn wsX4_givenToRead (wsV RX4 53 RX4 yX4_finish wsX4_finish) := goodIn_app (goodIn_of _ (by decide +kernel)) ggX4_givenToRead_X4_finish
theorem dX4_givenToRead_0 : decode cX4_givenToRead 0 = .ok (.aload_n 2, 1) := by decide +kernel
theorem dX4_givenToRead_1 : decode cX4_givenToRead 1 = .ok (.getfield 88, 3) := by decide +kernel
theorem dX4_givenToRead_4 : decode cX4_givenToRead 4 = .ok (.istore_n 3, 1) := by decide +kernel
theorem dX4_givenToRead_5 : decode cX4_givenToRead 5 = .ok (.aload_n 2, 1) := by decide +kernel
theorem dX4_givenToRead_6 : decode cX4_givenToRead 6 = .ok (.getfield 173, 3) := by decide +kernel
theorem dX4_givenToRead_9 : decode cX4_givenToRead 9 = .ok (.iconst 0, 1) := by decide +kernel
theorem dX4_givenToRead_10 : decode cX4_givenToRead 10 = .ok (.aload_n 1, 1) := by decide +kernel
theorem dX4_givenToRead_11 : decode cX4_givenToRead 11 = .ok (.getfield 153, 3) := by decide +kernel
theorem dX4_givenToRead_14 : decode cX4_givenToRead 14 = .ok (.iload_n 3, 1) := by decide +kernel
theorem dX4_givenToRead_15 : decode cX4_givenToRead 15 = .ok (.iconst 4, 1) := by decide +kernel
theorem dX4_givenToRead_16 : decode cX4_givenToRead 16 = .ok (.imul, 1) := by decide +kernel
theorem dX4_givenToRead_17 : decode cX4_givenToRead 17 = .ok (.iconst 4, 1) := by decide +kernel
theorem dX4_givenToRead_18 : decode cX4_givenToRead 18 = .ok (.invokestatic 221, 3) := by decide +kernel
theorem dX4_givenToRead_21 : decode cX4_givenToRead 21 = .ok (.aload_n 1, 1) := by decide +kernel
theorem dX4_givenToRead_22 : decode cX4_givenToRead 22 = .ok (.getfield 144, 3) := by decide +kernel
theorem dX4_givenToRead_25 : decode cX4_givenToRead 25 = .ok (.iload_n 3, 1) := by decide +kernel
theorem dX4_givenToRead_26 : decode cX4_givenToRead 26 = .ok (.aload_n 2, 1) := by decide +kernel
theorem dX4_givenToRead_27 : decode cX4_givenToRead 27 = .ok (.getfield 105, 3) := by decide +kernel
theorem dX4_givenToRead_30 : decode cX4_givenToRead 30 = .ok (.iastore, 1) := by decide +kernel
theorem dX4_givenToRead_31 : decode cX4_givenToRead 31 = .ok (.aload_n 1, 1) := by decide +kernel
theorem dX4_givenToRead_32 : decode cX4_givenToRead 32 = .ok (.getfield 46, 3) := by decide +kernel
theorem dX4_givenToRead_35 : decode cX4_givenToRead 35 = .ok (.iload_n 3, 1) := by decide +kernel
theorem dX4_givenToRead_36 : decode cX4_givenToRead 36 = .ok (.aload_n 1, 1) := by decide +kernel
theorem dX4_givenToRead_37 : decode cX4_givenToRead 37 = .ok (.getfield 36, 3) := by decide +kernel
theorem dX4_givenToRead_40 : decode cX4_givenToRead 40 = .ok (.getfield 227, 3) := by decide +kernel
theorem dX4_givenToRead_43 : decode cX4_givenToRead 43 = .ok (.ifCond .eq 7, 3) := by decide +kernel
theorem dX4_givenToRead_46 : decode cX4_givenToRead 46 = .ok (.iconst 0, 1) := by decide +kernel
theorem dX4_givenToRead_47 : decode cX4_givenToRead 47 = .ok (.goto 4, 3) := by decide +kernel
theorem dX4_givenToRead_50 : decode cX4_givenToRead 50 = .ok (.iconst 1, 1) := by decide +kernel
theorem dX4_givenToRead_51 : decode cX4_givenToRead 51 = .ok (.iastore, 1) := by decide +kernel
theorem dX4_givenToRead_52 : decode cX4_givenToRead 52 = .ok (.aload_n 0, 1) := by decide +kernel
theorem dX4_givenToRead_53 : decode cX4_givenToRead 53 = .ok (.aload_n 1, 1) := by decide +kernel
theorem dX4_givenToRead_54 : decode cX4_givenToRead 54 = .ok (.invokevirtual 53, 3) := by decide +kernel
theorem dX4_givenToRead_57 : decode cX4_givenToRead 57 = .ok (.return_, 1) := by decide +kernel
set_option maxRecDepth 20000 in
theorem ggX4_givenToWrite_X4_callBack : GoodIn wsX4_givenToWrite wsX4_callBack := goodIn_r _ [17, 18, 19, 8, 20, 21, 10, 22, 23, 24, 25, 26, 16, 27, 28, 29, 30, 31, 32, 33, 34, 35, 36, 37, 38, 39, 40, 41, 42, 43, 44, 45, 53, 54, 55, 56, 57, 58, 59, 60, 61, 62, 63, 64, 65, 66, 67, 68, 69, 70, 71, 72, 73, 74, 75, 76, 77, 78, 46, 47, 48, 49, 50, 51, 52] (by decide +kernel) (by decide +kernel)
set_option maxRecDepth 20000 in
theorem gX4_givenToWrite_X4_callBack : GoodIn wsX4_givenToWrite (wsV RX4 65 RX4 yX4_callBack wsX4_callBack) := goodIn_app (goodIn_of _ (by decide +kernel)) ggX4_givenToWrite_X4_callBack
theorem dX4_givenToWrite_0 : decode cX4_givenToWrite 0 = .ok (.aload_n 2, 1) := by decide +kernel
theorem dX4_givenToWrite_1 : decode cX4_givenToWrite 1 = .ok (.getfield 88, 3) := by decide +kernel
theorem dX4_givenToWrite_4 : decode cX4_givenToWrite 4 = .ok (.istore_n 3, 1) := by decide +kernel
theorem dX4_givenToWrite_5 : decode cX4_givenToWrite 5 = .ok (.aload_n 2, 1) := by decide +kernel
theorem dX4_givenToWrite_6 : decode cX4_givenToWrite 6 = .ok (.getfield 173, 3) := by decide +kernel
theorem dX4_givenToWrite_9 : decode cX4_givenToWrite 9 = .ok (.iconst 0, 1) := by decide +kernel
theorem dX4_givenToWrite_10 : decode cX4_givenToWrite 10 = .ok (.aload_n 1, 1) := by decide +kernel
theorem dX4_givenToWrite_11 : decode cX4_givenToWrite 11 = .ok (.getfield 153, 3) := by decide +kernel
theorem dX4_givenToWrite_14 : decode cX4_givenToWrite 14 = .ok (.iload_n 3, 1) := by decide +kernel
theorem dX4_givenToWrite_15 : decode cX4_givenToWrite 15 = .ok (.iconst 4, 1) := by decide +kernel
theorem dX4_givenToWrite_16 : decode cX4_givenToWrite 16 = .ok (.imul, 1) := by decide +kernel
theorem dX4_givenToWrite_17 : decode cX4_givenToWrite 17 = .ok (.iconst 4, 1) := by decide +kernel
theorem dX4_givenToWrite_18 : decode cX4_givenToWrite 18 = .ok (.invokestatic 221, 3) := by decide +kernel
theorem dX4_givenToWrite_21 : decode cX4_givenToWrite 21 = .ok (.aload_n 1, 1) := by decide +kernel
theorem dX4_givenToWrite_22 : decode cX4_givenToWrite 22 = .ok (.getfield 147, 3) := by decide +kernel
theorem dX4_givenToWrite_25 : decode cX4_givenToWrite 25 = .ok (.iload_n 3, 1) := by decide +kernel
theorem dX4_givenToWrite_26 : decode cX4_givenToWrite 26 = .ok (.aload_n 2, 1) := by decide +kernel
theorem dX4_givenToWrite_27 : decode cX4_givenToWrite 27 = .ok (.getfield 171, 3) := by decide +kernel
theorem dX4_givenToWrite_30 : decode cX4_givenToWrite 30 = .ok (.iconst 1, 1) := by decide +kernel
theorem dX4_givenToWrite_31 : decode cX4_givenToWrite 31 = .ok (.aload_n 1, 1) := by decide +kernel
theorem dX4_givenToWrite_32 : decode cX4_givenToWrite 32 = .ok (.getfield 181, 3) := by decide +kernel
theorem dX4_givenToWrite_35 : decode cX4_givenToWrite 35 = .ok (.ishl, 1) := by decide +kernel
theorem dX4_givenToWrite_36 : decode cX4_givenToWrite 36 = .ok (.iconst (-1), 1) := by decide +kernel
theorem dX4_givenToWrite_37 : decode cX4_givenToWrite 37 = .ok (.ixor, 1) := by decide +kernel
theorem dX4_givenToWrite_38 : decode cX4_givenToWrite 38 = .ok (.iand, 1) := by decide +kernel
theorem dX4_givenToWrite_39 : decode cX4_givenToWrite 39 = .ok (.iastore, 1) := by decide +kernel
theorem dX4_givenToWrite_40 : decode cX4_givenToWrite 40 = .ok (.aload_n 1, 1) := by decide +kernel
theorem dX4_givenToWrite_41 : decode cX4_givenToWrite 41 = .ok (.getfield 61, 3) := by decide +kernel
theorem dX4_givenToWrite_44 : decode cX4_givenToWrite 44 = .ok (.iload_n 3, 1) := by decide +kernel
theorem dX4_givenToWrite_45 : decode cX4_givenToWrite 45 = .ok (.iconst 1, 1) := by decide +kernel
theorem dX4_givenToWrite_46 : decode cX4_givenToWrite 46 = .ok (.bastore, 1) := by decide +kernel
theorem dX4_givenToWrite_47 : decode cX4_givenToWrite 47 = .ok (.aload_n 1, 1) := by decide +kernel
theorem dX4_givenToWrite_48 : decode cX4_givenToWrite 48 = .ok (.getfield 144, 3) := by decide +kernel
theorem dX4_givenToWrite_51 : decode cX4_givenToWrite 51 = .ok (.iload_n 3, 1) := by decide +kernel
theorem dX4_givenToWrite_52 : decode cX4_givenToWrite 52 = .ok (.aload_n 1, 1) := by decide +kernel
theorem dX4_givenToWrite_53 : decode cX4_givenToWrite 53 = .ok (.getfield 181, 3) := by decide +kernel
theorem dX4_givenToWrite_56 : decode cX4_givenToWrite 56 = .ok (.iastore, 1) := by decide +kernel
theorem dX4_givenToWrite_57 : decode cX4_givenToWrite 57 = .ok (.aload_n 0, 1) := by decide +kernel
theorem dX4_givenToWrite_58 : decode cX4_givenToWrite 58 = .ok (.aload_n 1, 1) := by decide +kernel
theorem dX4_givenToWrite_59 : decode cX4_givenToWrite 59 = .ok (.invokevirtual 65, 3) := by decide +kernel
theorem dX4_givenToWrite_62 : decode cX4_givenToWrite 62 = .ok (.return_, 1) := by decide +kernel
set_option maxRecDepth 20000 in
theorem ggX4_calledBack_X0_awaits : GoodIn wsX4_calledBack wsX0_awaits := goodIn_r _ [10, 11, 12, 47, 48, 49, 50, 51, 52, 53, 54, 55, 56] (by decide +kernel) (by decide +kernel)
set_option maxRecDepth 20000 in
theorem gX4_calledBack_X0_awaits : GoodIn wsX4_calledBack (wsV RX4 204 RX0 yX0_awaits wsX0_awaits) := goodIn_app (goodIn_of _ (by decide +kernel)) ggX4_calledBack_X0_awaits
set_option maxRecDepth 20000 in
theorem ggX4_calledBack_X4_send : GoodIn wsX4_calledBack wsX4_send := goodIn_r _ [17, 18, 19, 20, 21, 22, 23, 24, 25, 26, 27, 28, 29, 30, 31, 32, 33, 34, 35, 36, 57, 58, 59, 60, 61, 62, 63, 64, 65, 66, 67, 68, 69] (by decide +kernel) (by decide +kernel)
set_option maxRecDepth 20000 in
theorem gX4_calledBack_X4_send : GoodIn wsX4_calledBack (wsV RX4 184 RX4 yX4_send wsX4_send) := goodIn_app (goodIn_of _ (by decide +kernel)) ggX4_calledBack_X4_send
theorem dX4_calledBack_0 : decode cX4_calledBack 0 = .ok (.aload_n 1, 1) := by decide +kernel
theorem dX4_calledBack_1 : decode cX4_calledBack 1 = .ok (.getfield 46, 3) := by decide +kernel
theorem dX4_calledBack_4 : decode cX4_calledBack 4 = .ok (.iload_n 2, 1) := by decide +kernel
theorem dX4_calledBack_5 : decode cX4_calledBack 5 = .ok (.iconst 0, 1) := by decide +kernel
theorem dX4_calledBack_6 : decode cX4_calledBack 6 = .ok (.iastore, 1) := by decide +kernel
theorem dX4_calledBack_7 : decode cX4_calledBack 7 = .ok (.aload_n 1, 1) := by decide +kernel
theorem dX4_calledBack_8 : decode cX4_calledBack 8 = .ok (.getfield 144, 3) := by decide +kernel
theorem dX4_calledBack_11 : decode cX4_calledBack 11 = .ok (.iload_n 2, 1) := by decide +kernel
theorem dX4_calledBack_12 : decode cX4_calledBack 12 = .ok (.iload_n 3, 1) := by decide +kernel
theorem dX4_calledBack_13 : decode cX4_calledBack 13 = .ok (.iastore, 1) := by decide +kernel
theorem dX4_calledBack_14 : decode cX4_calledBack 14 = .ok (.aload_n 1, 1) := by decide +kernel
theorem dX4_calledBack_15 : decode cX4_calledBack 15 = .ok (.getfield 36, 3) := by decide +kernel
theorem dX4_calledBack_18 : decode cX4_calledBack 18 = .ok (.iconst 1, 1) := by decide +kernel
theorem dX4_calledBack_19 : decode cX4_calledBack 19 = .ok (.iload_n 2, 1) := by decide +kernel
theorem dX4_calledBack_20 : decode cX4_calledBack 20 = .ok (.invokevirtual 204, 3) := by decide +kernel
theorem dX4_calledBack_23 : decode cX4_calledBack 23 = .ok (.ifCond .eq 11, 3) := by decide +kernel
theorem dX4_calledBack_26 : decode cX4_calledBack 26 = .ok (.aload_n 1, 1) := by decide +kernel
theorem dX4_calledBack_27 : decode cX4_calledBack 27 = .ok (.getfield 36, 3) := by decide +kernel
theorem dX4_calledBack_30 : decode cX4_calledBack 30 = .ok (.iconst 1, 1) := by decide +kernel
theorem dX4_calledBack_31 : decode cX4_calledBack 31 = .ok (.putfield 227, 3) := by decide +kernel
theorem dX4_calledBack_34 : decode cX4_calledBack 34 = .ok (.aload_n 0, 1) := by decide +kernel
theorem dX4_calledBack_35 : decode cX4_calledBack 35 = .ok (.bipush 6, 2) := by decide +kernel
theorem dX4_calledBack_37 : decode cX4_calledBack 37 = .ok (.aload_n 1, 1) := by decide +kernel
theorem dX4_calledBack_38 : decode cX4_calledBack 38 = .ok (.getfield 181, 3) := by decide +kernel
theorem dX4_calledBack_41 : decode cX4_calledBack 41 = .ok (.iload_n 3, 1) := by decide +kernel
theorem dX4_calledBack_42 : decode cX4_calledBack 42 = .ok (.iload_n 2, 1) := by decide +kernel
theorem dX4_calledBack_43 : decode cX4_calledBack 43 = .ok (.invokevirtual 184, 3) := by decide +kernel
theorem dX4_calledBack_46 : decode cX4_calledBack 46 = .ok (.pop, 1) := by decide +kernel
theorem dX4_calledBack_47 : decode cX4_calledBack 47 = .ok (.return_, 1) := by decide +kernel
set_option maxRecDepth 20000 in
theorem ggX4_endsChain_X0_awaits : GoodIn wsX4_endsChain wsX0_awaits := goodIn_r _ [7, 8, 9, 20, 21, 22, 23, 24, 25, 26, 27, 28, 29] (by decide +kernel) (by decide +kernel)
set_option maxRecDepth 20000 in
theorem gX4_endsChain_X0_awaits : GoodIn wsX4_endsChain (wsV RX4 204 RX0 yX0_awaits wsX0_awaits) := goodIn_app (goodIn_of _ (by decide +kernel)) ggX4_endsChain_X0_awaits
theorem dX4_endsChain_0 : decode cX4_endsChain 0 = .ok (.aload_n 0, 1) := by decide +kernel
theorem dX4_endsChain_1 : decode cX4_endsChain 1 = .ok (.getfield 61, 3) := by decide +kernel
theorem dX4_endsChain_4 : decode cX4_endsChain 4 = .ok (.iload_n 1, 1) := by decide +kernel
theorem dX4_endsChain_5 : decode cX4_endsChain 5 = .ok (.baload, 1) := by decide +kernel
theorem dX4_endsChain_6 : decode cX4_endsChain 6 = .ok (.ifCond .ne 15, 3) := by decide +kernel
theorem dX4_endsChain_9 : decode cX4_endsChain 9 = .ok (.aload_n 0, 1) := by decide +kernel
theorem dX4_endsChain_10 : decode cX4_endsChain 10 = .ok (.getfield 36, 3) := by decide +kernel
theorem dX4_endsChain_13 : decode cX4_endsChain 13 = .ok (.iconst 2, 1) := by decide +kernel
theorem dX4_endsChain_14 : decode cX4_endsChain 14 = .ok (.iload_n 1, 1) := by decide +kernel
theorem dX4_endsChain_15 : decode cX4_endsChain 15 = .ok (.invokevirtual 204, 3) := by decide +kernel
theorem dX4_endsChain_18 : decode cX4_endsChain 18 = .ok (.ifCond .eq 7, 3) := by decide +kernel
theorem dX4_endsChain_21 : decode cX4_endsChain 21 = .ok (.iconst 1, 1) := by decide +kernel
theorem dX4_endsChain_22 : decode cX4_endsChain 22 = .ok (.goto 4, 3) := by decide +kernel
theorem dX4_endsChain_25 : decode cX4_endsChain 25 = .ok (.iconst 0, 1) := by decide +kernel
theorem dX4_endsChain_26 : decode cX4_endsChain 26 = .ok (.ireturn, 1) := by decide +kernel
set_option maxRecDepth 20000 in
theorem ggX5_init_X5_begin : GoodIn wsX5_init wsX5_begin := goodIn_r _ [34, 35, 7, 5, 8, 9, 13, 11, 14, 19, 20, 21, 22, 23, 26, 36, 37, 38, 39, 40, 41, 42, 43, 44, 45, 46, 47, 48, 49, 50, 51, 52, 53, 54, 55, 56, 57, 58, 59, 60, 61] (by decide +kernel) (by decide +kernel)
set_option maxRecDepth 20000 in
theorem gX5_init_X5_begin : GoodIn wsX5_init (wsV RX5 81 RX5 yX5_begin wsX5_begin) := goodIn_app (goodIn_of _ (by decide +kernel)) ggX5_init_X5_begin
end
section
theorem dX5_init_0 : decode cX5_init 0 = .ok (.aload_n 0, 1) := by decide +kernel
theorem dX5_init_1 : decode cX5_init 1 = .ok (.invokespecial 1, 3) := by decide +kernel
theorem dX5_init_4 : decode cX5_init 4 = .ok (.aload_n 0, 1) := by decide +kernel
theorem dX5_init_5 : decode cX5_init 5 = .ok (.bipush 48, 2) := by decide +kernel
theorem dX5_init_7 : decode cX5_init 7 = .ok (.newarray .int, 2) := by decide +kernel
theorem dX5_init_9 : decode cX5_init 9 = .ok (.putfield 7, 3) := by decide +kernel
theorem dX5_init_12 : decode cX5_init 12 = .ok (.aload_n 0, 1) := by decide +kernel
theorem dX5_init_13 : decode cX5_init 13 = .ok (.bipush 48, 2) := by decide +kernel
theorem dX5_init_15 : decode cX5_init 15 = .ok (.newarray .boolean, 2) := by decide +kernel
theorem dX5_init_17 : decode cX5_init 17 = .ok (.putfield 13, 3) := by decide +kernel
theorem dX5_init_20 : decode cX5_init 20 = .ok (.aload_n 0, 1) := by decide +kernel
theorem dX5_init_21 : decode cX5_init 21 = .ok (.bipush 48, 2) := by decide +kernel
theorem dX5_init_23 : decode cX5_init 23 = .ok (.newarray .int, 2) := by decide +kernel
theorem dX5_init_25 : decode cX5_init 25 = .ok (.putfield 17, 3) := by decide +kernel
theorem dX5_init_28 : decode cX5_init 28 = .ok (.aload_n 0, 1) := by decide +kernel
theorem dX5_init_29 : decode cX5_init 29 = .ok (.bipush 48, 2) := by decide +kernel
theorem dX5_init_31 : decode cX5_init 31 = .ok (.newarray .int, 2) := by decide +kernel
theorem dX5_init_33 : decode cX5_init 33 = .ok (.putfield 20, 3) := by decide +kernel
theorem dX5_init_36 : decode cX5_init 36 = .ok (.aload_n 0, 1) := by decide +kernel
theorem dX5_init_37 : decode cX5_init 37 = .ok (.sipush 192, 3) := by decide +kernel
theorem dX5_init_40 : decode cX5_init 40 = .ok (.newarray .long, 2) := by decide +kernel
theorem dX5_init_42 : decode cX5_init 42 = .ok (.putfield 23, 3) := by decide +kernel
theorem dX5_init_45 : decode cX5_init 45 = .ok (.aload_n 0, 1) := by decide +kernel
theorem dX5_init_46 : decode cX5_init 46 = .ok (.sipush 960, 3) := by decide +kernel
theorem dX5_init_49 : decode cX5_init 49 = .ok (.newarray .int, 2) := by decide +kernel
theorem dX5_init_51 : decode cX5_init 51 = .ok (.putfield 27, 3) := by decide +kernel
theorem dX5_init_54 : decode cX5_init 54 = .ok (.aload_n 0, 1) := by decide +kernel
theorem dX5_init_55 : decode cX5_init 55 = .ok (.bipush 48, 2) := by decide +kernel
theorem dX5_init_57 : decode cX5_init 57 = .ok (.newarray .int, 2) := by decide +kernel
theorem dX5_init_59 : decode cX5_init 59 = .ok (.putfield 30, 3) := by decide +kernel
theorem dX5_init_62 : decode cX5_init 62 = .ok (.aload_n 0, 1) := by decide +kernel
theorem dX5_init_63 : decode cX5_init 63 = .ok (.bipush 6, 2) := by decide +kernel
theorem dX5_init_65 : decode cX5_init 65 = .ok (.newarray .int, 2) := by decide +kernel
theorem dX5_init_67 : decode cX5_init 67 = .ok (.putfield 33, 3) := by decide +kernel
theorem dX5_init_70 : decode cX5_init 70 = .ok (.aload_n 0, 1) := by decide +kernel
theorem dX5_init_71 : decode cX5_init 71 = .ok (.bipush 6, 2) := by decide +kernel
theorem dX5_init_73 : decode cX5_init 73 = .ok (.newarray .int, 2) := by decide +kernel
theorem dX5_init_75 : decode cX5_init 75 = .ok (.putfield 36, 3) := by decide +kernel
theorem dX5_init_78 : decode cX5_init 78 = .ok (.aload_n 0, 1) := by decide +kernel
theorem dX5_init_79 : decode cX5_init 79 = .ok (.bipush 6, 2) := by decide +kernel
theorem dX5_init_81 : decode cX5_init 81 = .ok (.newarray .int, 2) := by decide +kernel
theorem dX5_init_83 : decode cX5_init 83 = .ok (.putfield 39, 3) := by decide +kernel
theorem dX5_init_86 : decode cX5_init 86 = .ok (.aload_n 0, 1) := by decide +kernel
theorem dX5_init_87 : decode cX5_init 87 = .ok (.bipush 6, 2) := by decide +kernel
theorem dX5_init_89 : decode cX5_init 89 = .ok (.newarray .boolean, 2) := by decide +kernel
theorem dX5_init_91 : decode cX5_init 91 = .ok (.putfield 42, 3) := by decide +kernel
theorem dX5_init_94 : decode cX5_init 94 = .ok (.aload_n 0, 1) := by decide +kernel
theorem dX5_init_95 : decode cX5_init 95 = .ok (.bipush 6, 2) := by decide +kernel
theorem dX5_init_97 : decode cX5_init 97 = .ok (.newarray .long, 2) := by decide +kernel
theorem dX5_init_99 : decode cX5_init 99 = .ok (.putfield 45, 3) := by decide +kernel
theorem dX5_init_102 : decode cX5_init 102 = .ok (.aload_n 0, 1) := by decide +kernel
theorem dX5_init_103 : decode cX5_init 103 = .ok (.bipush 6, 2) := by decide +kernel
theorem dX5_init_105 : decode cX5_init 105 = .ok (.newarray .int, 2) := by decide +kernel
theorem dX5_init_107 : decode cX5_init 107 = .ok (.putfield 48, 3) := by decide +kernel
theorem dX5_init_110 : decode cX5_init 110 = .ok (.aload_n 0, 1) := by decide +kernel
theorem dX5_init_111 : decode cX5_init 111 = .ok (.bipush 6, 2) := by decide +kernel
theorem dX5_init_113 : decode cX5_init 113 = .ok (.newarray .boolean, 2) := by decide +kernel
theorem dX5_init_115 : decode cX5_init 115 = .ok (.putfield 51, 3) := by decide +kernel
theorem dX5_init_118 : decode cX5_init 118 = .ok (.aload_n 0, 1) := by decide +kernel
theorem dX5_init_119 : decode cX5_init 119 = .ok (.bipush 6, 2) := by decide +kernel
theorem dX5_init_121 : decode cX5_init 121 = .ok (.newarray .boolean, 2) := by decide +kernel
theorem dX5_init_123 : decode cX5_init 123 = .ok (.putfield 54, 3) := by decide +kernel
theorem dX5_init_126 : decode cX5_init 126 = .ok (.aload_n 0, 1) := by decide +kernel
theorem dX5_init_127 : decode cX5_init 127 = .ok (.bipush 6, 2) := by decide +kernel
theorem dX5_init_129 : decode cX5_init 129 = .ok (.newarray .int, 2) := by decide +kernel
theorem dX5_init_131 : decode cX5_init 131 = .ok (.putfield 57, 3) := by decide +kernel
theorem dX5_init_134 : decode cX5_init 134 = .ok (.aload_n 0, 1) := by decide +kernel
theorem dX5_init_135 : decode cX5_init 135 = .ok (.bipush 6, 2) := by decide +kernel
theorem dX5_init_137 : decode cX5_init 137 = .ok (.newarray .long, 2) := by decide +kernel
theorem dX5_init_139 : decode cX5_init 139 = .ok (.putfield 60, 3) := by decide +kernel
theorem dX5_init_142 : decode cX5_init 142 = .ok (.aload_n 0, 1) := by decide +kernel
theorem dX5_init_143 : decode cX5_init 143 = .ok (.sipush 1400, 3) := by decide +kernel
theorem dX5_init_146 : decode cX5_init 146 = .ok (.newarray .int, 2) := by decide +kernel
theorem dX5_init_148 : decode cX5_init 148 = .ok (.putfield 63, 3) := by decide +kernel
theorem dX5_init_151 : decode cX5_init 151 = .ok (.aload_n 0, 1) := by decide +kernel
theorem dX5_init_152 : decode cX5_init 152 = .ok (.sipush 800, 3) := by decide +kernel
theorem dX5_init_155 : decode cX5_init 155 = .ok (.newarray .long, 2) := by decide +kernel
theorem dX5_init_157 : decode cX5_init 157 = .ok (.putfield 66, 3) := by decide +kernel
theorem dX5_init_160 : decode cX5_init 160 = .ok (.aload_n 0, 1) := by decide +kernel
theorem dX5_init_161 : decode cX5_init 161 = .ok (.bipush 8, 2) := by decide +kernel
theorem dX5_init_163 : decode cX5_init 163 = .ok (.newarray .int, 2) := by decide +kernel
theorem dX5_init_165 : decode cX5_init 165 = .ok (.putfield 69, 3) := by decide +kernel
theorem dX5_init_168 : decode cX5_init 168 = .ok (.aload_n 0, 1) := by decide +kernel
theorem dX5_init_169 : decode cX5_init 169 = .ok (.bipush 7, 2) := by decide +kernel
theorem dX5_init_171 : decode cX5_init 171 = .ok (.newarray .int, 2) := by decide +kernel
theorem dX5_init_173 : decode cX5_init 173 = .ok (.putfield 72, 3) := by decide +kernel
theorem dX5_init_176 : decode cX5_init 176 = .ok (.aload_n 0, 1) := by decide +kernel
theorem dX5_init_177 : decode cX5_init 177 = .ok (.iconst 4, 1) := by decide +kernel
theorem dX5_init_178 : decode cX5_init 178 = .ok (.newarray .long, 2) := by decide +kernel
theorem dX5_init_180 : decode cX5_init 180 = .ok (.putfield 75, 3) := by decide +kernel
theorem dX5_init_183 : decode cX5_init 183 = .ok (.aload_n 0, 1) := by decide +kernel
theorem dX5_init_184 : decode cX5_init 184 = .ok (.bipush 20, 2) := by decide +kernel
theorem dX5_init_186 : decode cX5_init 186 = .ok (.newarray .int, 2) := by decide +kernel
theorem dX5_init_188 : decode cX5_init 188 = .ok (.putfield 78, 3) := by decide +kernel
theorem dX5_init_191 : decode cX5_init 191 = .ok (.aload_n 0, 1) := by decide +kernel
theorem dX5_init_192 : decode cX5_init 192 = .ok (.iconst 4, 1) := by decide +kernel
theorem dX5_init_193 : decode cX5_init 193 = .ok (.invokevirtual 81, 3) := by decide +kernel
theorem dX5_init_196 : decode cX5_init 196 = .ok (.pop, 1) := by decide +kernel
theorem dX5_init_197 : decode cX5_init 197 = .ok (.return_, 1) := by decide +kernel
theorem dX5_begin_0 : decode cX5_begin 0 = .ok (.iload_n 1, 1) := by decide +kernel
theorem dX5_begin_1 : decode cX5_begin 1 = .ok (.iconst 2, 1) := by decide +kernel
theorem dX5_begin_2 : decode cX5_begin 2 = .ok (.if_icmp .lt 9, 3) := by decide +kernel
theorem dX5_begin_5 : decode cX5_begin 5 = .ok (.iload_n 1, 1) := by decide +kernel
theorem dX5_begin_6 : decode cX5_begin 6 = .ok (.bipush 6, 2) := by decide +kernel
theorem dX5_begin_8 : decode cX5_begin 8 = .ok (.if_icmp .le 5, 3) := by decide +kernel
theorem dX5_begin_11 : decode cX5_begin 11 = .ok (.iconst 0, 1) := by decide +kernel
theorem dX5_begin_12 : decode cX5_begin 12 = .ok (.ireturn, 1) := by decide +kernel
theorem dX5_begin_13 : decode cX5_begin 13 = .ok (.aload_n 0, 1) := by decide +kernel
theorem dX5_begin_14 : decode cX5_begin 14 = .ok (.iload_n 1, 1) := by decide +kernel
theorem dX5_begin_15 : decode cX5_begin 15 = .ok (.putfield 85, 3) := by decide +kernel
theorem dX5_begin_18 : decode cX5_begin 18 = .ok (.iconst 0, 1) := by decide +kernel
theorem dX5_begin_19 : decode cX5_begin 19 = .ok (.istore_n 2, 1) := by decide +kernel
theorem dX5_begin_20 : decode cX5_begin 20 = .ok (.iload_n 2, 1) := by decide +kernel
theorem dX5_begin_21 : decode cX5_begin 21 = .ok (.bipush 48, 2) := by decide +kernel
theorem dX5_begin_23 : decode cX5_begin 23 = .ok (.if_icmp .ge 78, 3) := by decide +kernel
theorem dX5_begin_26 : decode cX5_begin 26 = .ok (.iload_n 2, 1) := by decide +kernel
theorem dX5_begin_27 : decode cX5_begin 27 = .ok (.bipush 8, 2) := by decide +kernel
theorem dX5_begin_29 : decode cX5_begin 29 = .ok (.irem, 1) := by decide +kernel
theorem dX5_begin_30 : decode cX5_begin 30 = .ok (.istore_n 3, 1) := by decide +kernel
theorem dX5_begin_31 : decode cX5_begin 31 = .ok (.aload_n 0, 1) := by decide +kernel
theorem dX5_begin_32 : decode cX5_begin 32 = .ok (.getfield 13, 3) := by decide +kernel
theorem dX5_begin_35 : decode cX5_begin 35 = .ok (.iload_n 2, 1) := by decide +kernel
theorem dX5_begin_36 : decode cX5_begin 36 = .ok (.iload_n 2, 1) := by decide +kernel
theorem dX5_begin_37 : decode cX5_begin 37 = .ok (.bipush 8, 2) := by decide +kernel
theorem dX5_begin_39 : decode cX5_begin 39 = .ok (.idiv, 1) := by decide +kernel
theorem dX5_begin_40 : decode cX5_begin 40 = .ok (.iload_n 3, 1) := by decide +kernel
theorem dX5_begin_41 : decode cX5_begin 41 = .ok (.iload_n 1, 1) := by decide +kernel
theorem dX5_begin_42 : decode cX5_begin 42 = .ok (.irem, 1) := by decide +kernel
theorem dX5_begin_43 : decode cX5_begin 43 = .ok (.if_icmp .ne 7, 3) := by decide +kernel
theorem dX5_begin_46 : decode cX5_begin 46 = .ok (.iconst 1, 1) := by decide +kernel
theorem dX5_begin_47 : decode cX5_begin 47 = .ok (.goto 4, 3) := by decide +kernel
theorem dX5_begin_50 : decode cX5_begin 50 = .ok (.iconst 0, 1) := by decide +kernel
theorem dX5_begin_51 : decode cX5_begin 51 = .ok (.bastore, 1) := by decide +kernel
theorem dX5_begin_52 : decode cX5_begin 52 = .ok (.aload_n 0, 1) := by decide +kernel
theorem dX5_begin_53 : decode cX5_begin 53 = .ok (.getfield 7, 3) := by decide +kernel
theorem dX5_begin_56 : decode cX5_begin 56 = .ok (.iload_n 2, 1) := by decide +kernel
theorem dX5_begin_57 : decode cX5_begin 57 = .ok (.aload_n 0, 1) := by decide +kernel
theorem dX5_begin_58 : decode cX5_begin 58 = .ok (.getfield 13, 3) := by decide +kernel
theorem dX5_begin_61 : decode cX5_begin 61 = .ok (.iload_n 2, 1) := by decide +kernel
theorem dX5_begin_62 : decode cX5_begin 62 = .ok (.baload, 1) := by decide +kernel
theorem dX5_begin_63 : decode cX5_begin 63 = .ok (.ifCond .eq 7, 3) := by decide +kernel
theorem dX5_begin_66 : decode cX5_begin 66 = .ok (.iconst 2, 1) := by decide +kernel
theorem dX5_begin_67 : decode cX5_begin 67 = .ok (.goto 4, 3) := by decide +kernel
theorem dX5_begin_70 : decode cX5_begin 70 = .ok (.iconst 0, 1) := by decide +kernel
theorem dX5_begin_71 : decode cX5_begin 71 = .ok (.iastore, 1) := by decide +kernel
theorem dX5_begin_72 : decode cX5_begin 72 = .ok (.aload_n 0, 1) := by decide +kernel
theorem dX5_begin_73 : decode cX5_begin 73 = .ok (.getfield 17, 3) := by decide +kernel
theorem dX5_begin_76 : decode cX5_begin 76 = .ok (.iload_n 2, 1) := by decide +kernel
theorem dX5_begin_77 : decode cX5_begin 77 = .ok (.iload_n 3, 1) := by decide +kernel
theorem dX5_begin_78 : decode cX5_begin 78 = .ok (.iload_n 1, 1) := by decide +kernel
theorem dX5_begin_79 : decode cX5_begin 79 = .ok (.irem, 1) := by decide +kernel
theorem dX5_begin_80 : decode cX5_begin 80 = .ok (.iastore, 1) := by decide +kernel
theorem dX5_begin_81 : decode cX5_begin 81 = .ok (.aload_n 0, 1) := by decide +kernel
theorem dX5_begin_82 : decode cX5_begin 82 = .ok (.getfield 20, 3) := by decide +kernel
theorem dX5_begin_85 : decode cX5_begin 85 = .ok (.iload_n 2, 1) := by decide +kernel
theorem dX5_begin_86 : decode cX5_begin 86 = .ok (.iconst 0, 1) := by decide +kernel
theorem dX5_begin_87 : decode cX5_begin 87 = .ok (.iastore, 1) := by decide +kernel
theorem dX5_begin_88 : decode cX5_begin 88 = .ok (.aload_n 0, 1) := by decide +kernel
theorem dX5_begin_89 : decode cX5_begin 89 = .ok (.getfield 30, 3) := by decide +kernel
theorem dX5_begin_92 : decode cX5_begin 92 = .ok (.iload_n 2, 1) := by decide +kernel
theorem dX5_begin_93 : decode cX5_begin 93 = .ok (.iconst 0, 1) := by decide +kernel
theorem dX5_begin_94 : decode cX5_begin 94 = .ok (.iastore, 1) := by decide +kernel
theorem dX5_begin_95 : decode cX5_begin 95 = .ok (.iinc 2 1, 3) := by decide +kernel
theorem dX5_begin_98 : decode cX5_begin 98 = .ok (.goto (-78), 3) := by decide +kernel
theorem dX5_begin_101 : decode cX5_begin 101 = .ok (.iconst 0, 1) := by decide +kernel
theorem dX5_begin_102 : decode cX5_begin 102 = .ok (.istore_n 2, 1) := by decide +kernel
theorem dX5_begin_103 : decode cX5_begin 103 = .ok (.iload_n 2, 1) := by decide +kernel
theorem dX5_begin_104 : decode cX5_begin 104 = .ok (.sipush 192, 3) := by decide +kernel
theorem dX5_begin_107 : decode cX5_begin 107 = .ok (.if_icmp .ge 16, 3) := by decide +kernel
theorem dX5_begin_110 : decode cX5_begin 110 = .ok (.aload_n 0, 1) := by decide +kernel
theorem dX5_begin_111 : decode cX5_begin 111 = .ok (.getfield 23, 3) := by decide +kernel
theorem dX5_begin_114 : decode cX5_begin 114 = .ok (.iload_n 2, 1) := by decide +kernel
theorem dX5_begin_115 : decode cX5_begin 115 = .ok (.lconst 0, 1) := by decide +kernel
theorem dX5_begin_116 : decode cX5_begin 116 = .ok (.lastore, 1) := by decide +kernel
theorem dX5_begin_117 : decode cX5_begin 117 = .ok (.iinc 2 1, 3) := by decide +kernel
theorem dX5_begin_120 : decode cX5_begin 120 = .ok (.goto (-17), 3) := by decide +kernel
theorem dX5_begin_123 : decode cX5_begin 123 = .ok (.iconst 0, 1) := by decide +kernel
theorem dX5_begin_124 : decode cX5_begin 124 = .ok (.istore_n 2, 1) := by decide +kernel
theorem dX5_begin_125 : decode cX5_begin 125 = .ok (.iload_n 2, 1) := by decide +kernel
theorem dX5_begin_126 : decode cX5_begin 126 = .ok (.bipush 6, 2) := by decide +kernel
theorem dX5_begin_128 : decode cX5_begin 128 = .ok (.if_icmp .ge 51, 3) := by decide +kernel
theorem dX5_begin_131 : decode cX5_begin 131 = .ok (.aload_n 0, 1) := by decide +kernel
theorem dX5_begin_132 : decode cX5_begin 132 = .ok (.getfield 33, 3) := by decide +kernel
theorem dX5_begin_135 : decode cX5_begin 135 = .ok (.iload_n 2, 1) := by decide +kernel
theorem dX5_begin_136 : decode cX5_begin 136 = .ok (.iconst 0, 1) := by decide +kernel
theorem dX5_begin_137 : decode cX5_begin 137 = .ok (.iastore, 1) := by decide +kernel
theorem dX5_begin_138 : decode cX5_begin 138 = .ok (.aload_n 0, 1) := by decide +kernel
theorem dX5_begin_139 : decode cX5_begin 139 = .ok (.getfield 48, 3) := by decide +kernel
theorem dX5_begin_142 : decode cX5_begin 142 = .ok (.iload_n 2, 1) := by decide +kernel
theorem dX5_begin_143 : decode cX5_begin 143 = .ok (.iconst 0, 1) := by decide +kernel
theorem dX5_begin_144 : decode cX5_begin 144 = .ok (.iastore, 1) := by decide +kernel
theorem dX5_begin_145 : decode cX5_begin 145 = .ok (.aload_n 0, 1) := by decide +kernel
theorem dX5_begin_146 : decode cX5_begin 146 = .ok (.getfield 51, 3) := by decide +kernel
theorem dX5_begin_149 : decode cX5_begin 149 = .ok (.iload_n 2, 1) := by decide +kernel
theorem dX5_begin_150 : decode cX5_begin 150 = .ok (.iconst 0, 1) := by decide +kernel
theorem dX5_begin_151 : decode cX5_begin 151 = .ok (.bastore, 1) := by decide +kernel
theorem dX5_begin_152 : decode cX5_begin 152 = .ok (.aload_n 0, 1) := by decide +kernel
theorem dX5_begin_153 : decode cX5_begin 153 = .ok (.getfield 54, 3) := by decide +kernel
theorem dX5_begin_156 : decode cX5_begin 156 = .ok (.iload_n 2, 1) := by decide +kernel
theorem dX5_begin_157 : decode cX5_begin 157 = .ok (.iconst 0, 1) := by decide +kernel
theorem dX5_begin_158 : decode cX5_begin 158 = .ok (.bastore, 1) := by decide +kernel
theorem dX5_begin_159 : decode cX5_begin 159 = .ok (.aload_n 0, 1) := by decide +kernel
theorem dX5_begin_160 : decode cX5_begin 160 = .ok (.getfield 57, 3) := by decide +kernel
theorem dX5_begin_163 : decode cX5_begin 163 = .ok (.iload_n 2, 1) := by decide +kernel
theorem dX5_begin_164 : decode cX5_begin 164 = .ok (.iconst 0, 1) := by decide +kernel
theorem dX5_begin_165 : decode cX5_begin 165 = .ok (.iastore, 1) := by decide +kernel
theorem dX5_begin_166 : decode cX5_begin 166 = .ok (.aload_n 0, 1) := by decide +kernel
theorem dX5_begin_167 : decode cX5_begin 167 = .ok (.getfield 60, 3) := by decide +kernel
theorem dX5_begin_170 : decode cX5_begin 170 = .ok (.iload_n 2, 1) := by decide +kernel
theorem dX5_begin_171 : decode cX5_begin 171 = .ok (.lconst 0, 1) := by decide +kernel
theorem dX5_begin_172 : decode cX5_begin 172 = .ok (.lastore, 1) := by decide +kernel
theorem dX5_begin_173 : decode cX5_begin 173 = .ok (.iinc 2 1, 3) := by decide +kernel
theorem dX5_begin_176 : decode cX5_begin 176 = .ok (.goto (-51), 3) := by decide +kernel
theorem dX5_begin_179 : decode cX5_begin 179 = .ok (.iconst 0, 1) := by decide +kernel
theorem dX5_begin_180 : decode cX5_begin 180 = .ok (.istore_n 2, 1) := by decide +kernel
theorem dX5_begin_181 : decode cX5_begin 181 = .ok (.iload_n 2, 1) := by decide +kernel
theorem dX5_begin_182 : decode cX5_begin 182 = .ok (.bipush 8, 2) := by decide +kernel
theorem dX5_begin_184 : decode cX5_begin 184 = .ok (.if_icmp .ge 16, 3) := by decide +kernel
theorem dX5_begin_187 : decode cX5_begin 187 = .ok (.aload_n 0, 1) := by decide +kernel
theorem dX5_begin_188 : decode cX5_begin 188 = .ok (.getfield 69, 3) := by decide +kernel
theorem dX5_begin_191 : decode cX5_begin 191 = .ok (.iload_n 2, 1) := by decide +kernel
theorem dX5_begin_192 : decode cX5_begin 192 = .ok (.iconst 0, 1) := by decide +kernel
theorem dX5_begin_193 : decode cX5_begin 193 = .ok (.iastore, 1) := by decide +kernel
theorem dX5_begin_194 : decode cX5_begin 194 = .ok (.iinc 2 1, 3) := by decide +kernel
theorem dX5_begin_197 : decode cX5_begin 197 = .ok (.goto (-16), 3) := by decide +kernel
theorem dX5_begin_200 : decode cX5_begin 200 = .ok (.aload_n 0, 1) := by decide +kernel
theorem dX5_begin_201 : decode cX5_begin 201 = .ok (.iconst 0, 1) := by decide +kernel
theorem dX5_begin_202 : decode cX5_begin 202 = .ok (.putfield 89, 3) := by decide +kernel
theorem dX5_begin_205 : decode cX5_begin 205 = .ok (.iconst 1, 1) := by decide +kernel
theorem dX5_begin_206 : decode cX5_begin 206 = .ok (.ireturn, 1) := by decide +kernel
theorem dX5_isNode_0 : decode cX5_isNode 0 = .ok (.iload_n 1, 1) := by decide +kernel
theorem dX5_isNode_1 : decode cX5_isNode 1 = .ok (.ifCond .lt 15, 3) := by decide +kernel
theorem dX5_isNode_4 : decode cX5_isNode 4 = .ok (.iload_n 1, 1) := by decide +kernel
theorem dX5_isNode_5 : decode cX5_isNode 5 = .ok (.aload_n 0, 1) := by decide +kernel
theorem dX5_isNode_6 : decode cX5_isNode 6 = .ok (.getfield 85, 3) := by decide +kernel
theorem dX5_isNode_9 : decode cX5_isNode 9 = .ok (.if_icmp .ge 7, 3) := by decide +kernel
theorem dX5_isNode_12 : decode cX5_isNode 12 = .ok (.iconst 1, 1) := by decide +kernel
theorem dX5_isNode_13 : decode cX5_isNode 13 = .ok (.goto 4, 3) := by decide +kernel
theorem dX5_isNode_16 : decode cX5_isNode 16 = .ok (.iconst 0, 1) := by decide +kernel
theorem dX5_isNode_17 : decode cX5_isNode 17 = .ok (.ireturn, 1) := by decide +kernel
theorem dX5_isPage_0 : decode cX5_isPage 0 = .ok (.iload_n 0, 1) := by decide +kernel
theorem dX5_isPage_1 : decode cX5_isPage 1 = .ok (.ifCond .lt 13, 3) := by decide +kernel
theorem dX5_isPage_4 : decode cX5_isPage 4 = .ok (.iload_n 0, 1) := by decide +kernel
theorem dX5_isPage_5 : decode cX5_isPage 5 = .ok (.bipush 8, 2) := by decide +kernel
theorem dX5_isPage_7 : decode cX5_isPage 7 = .ok (.if_icmp .ge 7, 3) := by decide +kernel
theorem dX5_isPage_10 : decode cX5_isPage 10 = .ok (.iconst 1, 1) := by decide +kernel
theorem dX5_isPage_11 : decode cX5_isPage 11 = .ok (.goto 4, 3) := by decide +kernel
theorem dX5_isPage_14 : decode cX5_isPage 14 = .ok (.iconst 0, 1) := by decide +kernel
theorem dX5_isPage_15 : decode cX5_isPage 15 = .ok (.ireturn, 1) := by decide +kernel
theorem dX5_place_0 : decode cX5_place 0 = .ok (.bipush 8, 2) := by decide +kernel
theorem dX5_place_2 : decode cX5_place 2 = .ok (.iload_n 0, 1) := by decide +kernel
theorem dX5_place_3 : decode cX5_place 3 = .ok (.imul, 1) := by decide +kernel
theorem dX5_place_4 : decode cX5_place 4 = .ok (.iload_n 1, 1) := by decide +kernel
theorem dX5_place_5 : decode cX5_place 5 = .ok (.iadd, 1) := by decide +kernel
theorem dX5_place_6 : decode cX5_place 6 = .ok (.ireturn, 1) := by decide +kernel
set_option maxRecDepth 20000 in
theorem ggX5_send_X5_place : GoodIn wsX5_send wsX5_place := goodIn_r _ [9] (by decide +kernel) (by decide +kernel)
set_option maxRecDepth 20000 in
theorem gX5_send_X5_place : GoodIn wsX5_send (va_wsS RX5 92 yX5_place wsX5_place) := goodIn_app (goodIn_of _ (by decide +kernel)) ggX5_send_X5_place
theorem dX5_send_0 : decode cX5_send 0 = .ok (.bipush 7, 2) := by decide +kernel
theorem dX5_send_2 : decode cX5_send 2 = .ok (.aload_n 0, 1) := by decide +kernel
theorem dX5_send_3 : decode cX5_send 3 = .ok (.getfield 89, 3) := by decide +kernel
theorem dX5_send_6 : decode cX5_send 6 = .ok (.imul, 1) := by decide +kernel
theorem dX5_send_7 : decode cX5_send 7 = .ok (.istore 7, 2) := by decide +kernel
theorem dX5_send_9 : decode cX5_send 9 = .ok (.aload_n 0, 1) := by decide +kernel
theorem dX5_send_10 : decode cX5_send 10 = .ok (.getfield 63, 3) := by decide +kernel
theorem dX5_send_13 : decode cX5_send 13 = .ok (.iload 7, 2) := by decide +kernel
theorem dX5_send_15 : decode cX5_send 15 = .ok (.iload_n 1, 1) := by decide +kernel
theorem dX5_send_16 : decode cX5_send 16 = .ok (.iastore, 1) := by decide +kernel
theorem dX5_send_17 : decode cX5_send 17 = .ok (.aload_n 0, 1) := by decide +kernel
theorem dX5_send_18 : decode cX5_send 18 = .ok (.getfield 63, 3) := by decide +kernel
theorem dX5_send_21 : decode cX5_send 21 = .ok (.iload 7, 2) := by decide +kernel
theorem dX5_send_23 : decode cX5_send 23 = .ok (.iconst 1, 1) := by decide +kernel
theorem dX5_send_24 : decode cX5_send 24 = .ok (.iadd, 1) := by decide +kernel
theorem dX5_send_25 : decode cX5_send 25 = .ok (.iload_n 2, 1) := by decide +kernel
theorem dX5_send_26 : decode cX5_send 26 = .ok (.iastore, 1) := by decide +kernel
theorem dX5_send_27 : decode cX5_send 27 = .ok (.aload_n 0, 1) := by decide +kernel
theorem dX5_send_28 : decode cX5_send 28 = .ok (.getfield 63, 3) := by decide +kernel
theorem dX5_send_31 : decode cX5_send 31 = .ok (.iload 7, 2) := by decide +kernel
theorem dX5_send_33 : decode cX5_send 33 = .ok (.iconst 2, 1) := by decide +kernel
theorem dX5_send_34 : decode cX5_send 34 = .ok (.iadd, 1) := by decide +kernel
theorem dX5_send_35 : decode cX5_send 35 = .ok (.iload_n 3, 1) := by decide +kernel
theorem dX5_send_36 : decode cX5_send 36 = .ok (.iastore, 1) := by decide +kernel
theorem dX5_send_37 : decode cX5_send 37 = .ok (.aload_n 0, 1) := by decide +kernel
theorem dX5_send_38 : decode cX5_send 38 = .ok (.getfield 63, 3) := by decide +kernel
theorem dX5_send_41 : decode cX5_send 41 = .ok (.iload 7, 2) := by decide +kernel
theorem dX5_send_43 : decode cX5_send 43 = .ok (.iconst 3, 1) := by decide +kernel
theorem dX5_send_44 : decode cX5_send 44 = .ok (.iadd, 1) := by decide +kernel
theorem dX5_send_45 : decode cX5_send 45 = .ok (.iload 4, 2) := by decide +kernel
theorem dX5_send_47 : decode cX5_send 47 = .ok (.iastore, 1) := by decide +kernel
theorem dX5_send_48 : decode cX5_send 48 = .ok (.aload_n 0, 1) := by decide +kernel
theorem dX5_send_49 : decode cX5_send 49 = .ok (.getfield 63, 3) := by decide +kernel
theorem dX5_send_52 : decode cX5_send 52 = .ok (.iload 7, 2) := by decide +kernel
theorem dX5_send_54 : decode cX5_send 54 = .ok (.iconst 4, 1) := by decide +kernel
theorem dX5_send_55 : decode cX5_send 55 = .ok (.iadd, 1) := by decide +kernel
theorem dX5_send_56 : decode cX5_send 56 = .ok (.iload 5, 2) := by decide +kernel
theorem dX5_send_58 : decode cX5_send 58 = .ok (.iastore, 1) := by decide +kernel
theorem dX5_send_59 : decode cX5_send 59 = .ok (.aload_n 0, 1) := by decide +kernel
theorem dX5_send_60 : decode cX5_send 60 = .ok (.getfield 63, 3) := by decide +kernel
theorem dX5_send_63 : decode cX5_send 63 = .ok (.iload 7, 2) := by decide +kernel
theorem dX5_send_65 : decode cX5_send 65 = .ok (.iconst 5, 1) := by decide +kernel
theorem dX5_send_66 : decode cX5_send 66 = .ok (.iadd, 1) := by decide +kernel
theorem dX5_send_67 : decode cX5_send 67 = .ok (.iload 6, 2) := by decide +kernel
theorem dX5_send_69 : decode cX5_send 69 = .ok (.iastore, 1) := by decide +kernel
theorem dX5_send_70 : decode cX5_send 70 = .ok (.iconst 0, 1) := by decide +kernel
theorem dX5_send_71 : decode cX5_send 71 = .ok (.istore 8, 2) := by decide +kernel
theorem dX5_send_73 : decode cX5_send 73 = .ok (.iload 8, 2) := by decide +kernel
theorem dX5_send_75 : decode cX5_send 75 = .ok (.iconst 4, 1) := by decide +kernel
theorem dX5_send_76 : decode cX5_send 76 = .ok (.if_icmp .ge 53, 3) := by decide +kernel
theorem dX5_send_79 : decode cX5_send 79 = .ok (.aload_n 0, 1) := by decide +kernel
theorem dX5_send_80 : decode cX5_send 80 = .ok (.getfield 66, 3) := by decide +kernel
theorem dX5_send_83 : decode cX5_send 83 = .ok (.iconst 4, 1) := by decide +kernel
theorem dX5_send_84 : decode cX5_send 84 = .ok (.aload_n 0, 1) := by decide +kernel
theorem dX5_send_85 : decode cX5_send 85 = .ok (.getfield 89, 3) := by decide +kernel
theorem dX5_send_88 : decode cX5_send 88 = .ok (.imul, 1) := by decide +kernel
theorem dX5_send_89 : decode cX5_send 89 = .ok (.iload 8, 2) := by decide +kernel
theorem dX5_send_91 : decode cX5_send 91 = .ok (.iadd, 1) := by decide +kernel
theorem dX5_send_92 : decode cX5_send 92 = .ok (.iload_n 1, 1) := by decide +kernel
theorem dX5_send_93 : decode cX5_send 93 = .ok (.iconst 3, 1) := by decide +kernel
theorem dX5_send_94 : decode cX5_send 94 = .ok (.if_icmp .eq 8, 3) := by decide +kernel
theorem dX5_send_97 : decode cX5_send 97 = .ok (.iload_n 1, 1) := by decide +kernel
theorem dX5_send_98 : decode cX5_send 98 = .ok (.iconst 4, 1) := by decide +kernel
theorem dX5_send_99 : decode cX5_send 99 = .ok (.if_icmp .ne 22, 3) := by decide +kernel
theorem dX5_send_102 : decode cX5_send 102 = .ok (.aload_n 0, 1) := by decide +kernel
theorem dX5_send_103 : decode cX5_send 103 = .ok (.getfield 23, 3) := by decide +kernel
theorem dX5_send_106 : decode cX5_send 106 = .ok (.iconst 4, 1) := by decide +kernel
theorem dX5_send_107 : decode cX5_send 107 = .ok (.iload_n 2, 1) := by decide +kernel
theorem dX5_send_108 : decode cX5_send 108 = .ok (.iload 4, 2) := by decide +kernel
theorem dX5_send_110 : decode cX5_send 110 = .ok (.invokestatic 92, 3) := by decide +kernel
theorem dX5_send_113 : decode cX5_send 113 = .ok (.imul, 1) := by decide +kernel
theorem dX5_send_114 : decode cX5_send 114 = .ok (.iload 8, 2) := by decide +kernel
theorem dX5_send_116 : decode cX5_send 116 = .ok (.iadd, 1) := by decide +kernel
theorem dX5_send_117 : decode cX5_send 117 = .ok (.laload, 1) := by decide +kernel
theorem dX5_send_118 : decode cX5_send 118 = .ok (.goto 4, 3) := by decide +kernel
theorem dX5_send_121 : decode cX5_send 121 = .ok (.lconst 0, 1) := by decide +kernel
theorem dX5_send_122 : decode cX5_send 122 = .ok (.lastore, 1) := by decide +kernel
theorem dX5_send_123 : decode cX5_send 123 = .ok (.iinc 8 1, 3) := by decide +kernel
theorem dX5_send_126 : decode cX5_send 126 = .ok (.goto (-53), 3) := by decide +kernel
theorem dX5_send_129 : decode cX5_send 129 = .ok (.aload_n 0, 1) := by decide +kernel
theorem dX5_send_130 : decode cX5_send 130 = .ok (.dup, 1) := by decide +kernel
theorem dX5_send_131 : decode cX5_send 131 = .ok (.getfield 89, 3) := by decide +kernel
theorem dX5_send_134 : decode cX5_send 134 = .ok (.iconst 1, 1) := by decide +kernel
theorem dX5_send_135 : decode cX5_send 135 = .ok (.iadd, 1) := by decide +kernel
theorem dX5_send_136 : decode cX5_send 136 = .ok (.putfield 89, 3) := by decide +kernel
theorem dX5_send_139 : decode cX5_send 139 = .ok (.aload_n 0, 1) := by decide +kernel
theorem dX5_send_140 : decode cX5_send 140 = .ok (.getfield 69, 3) := by decide +kernel
theorem dX5_send_143 : decode cX5_send 143 = .ok (.iconst 1, 1) := by decide +kernel
theorem dX5_send_144 : decode cX5_send 144 = .ok (.dup2, 1) := by decide +kernel
theorem dX5_send_145 : decode cX5_send 145 = .ok (.iaload, 1) := by decide +kernel
theorem dX5_send_146 : decode cX5_send 146 = .ok (.iconst 1, 1) := by decide +kernel
theorem dX5_send_147 : decode cX5_send 147 = .ok (.iadd, 1) := by decide +kernel
theorem dX5_send_148 : decode cX5_send 148 = .ok (.iastore, 1) := by decide +kernel
theorem dX5_send_149 : decode cX5_send 149 = .ok (.return_, 1) := by decide +kernel
theorem dX5_drop_0 : decode cX5_drop 0 = .ok (.aload_n 0, 1) := by decide +kernel
theorem dX5_drop_1 : decode cX5_drop 1 = .ok (.dup, 1) := by decide +kernel
theorem dX5_drop_2 : decode cX5_drop 2 = .ok (.getfield 89, 3) := by decide +kernel
theorem dX5_drop_5 : decode cX5_drop 5 = .ok (.iconst 1, 1) := by decide +kernel
theorem dX5_drop_6 : decode cX5_drop 6 = .ok (.isub, 1) := by decide +kernel
theorem dX5_drop_7 : decode cX5_drop 7 = .ok (.putfield 89, 3) := by decide +kernel
theorem dX5_drop_10 : decode cX5_drop 10 = .ok (.bipush 7, 2) := by decide +kernel
theorem dX5_drop_12 : decode cX5_drop 12 = .ok (.iload_n 1, 1) := by decide +kernel
theorem dX5_drop_13 : decode cX5_drop 13 = .ok (.imul, 1) := by decide +kernel
theorem dX5_drop_14 : decode cX5_drop 14 = .ok (.istore_n 2, 1) := by decide +kernel
theorem dX5_drop_15 : decode cX5_drop 15 = .ok (.iload_n 2, 1) := by decide +kernel
theorem dX5_drop_16 : decode cX5_drop 16 = .ok (.bipush 7, 2) := by decide +kernel
theorem dX5_drop_18 : decode cX5_drop 18 = .ok (.aload_n 0, 1) := by decide +kernel
theorem dX5_drop_19 : decode cX5_drop 19 = .ok (.getfield 89, 3) := by decide +kernel
theorem dX5_drop_22 : decode cX5_drop 22 = .ok (.imul, 1) := by decide +kernel
theorem dX5_drop_23 : decode cX5_drop 23 = .ok (.if_icmp .ge 24, 3) := by decide +kernel
theorem dX5_drop_26 : decode cX5_drop 26 = .ok (.aload_n 0, 1) := by decide +kernel
theorem dX5_drop_27 : decode cX5_drop 27 = .ok (.getfield 63, 3) := by decide +kernel
theorem dX5_drop_30 : decode cX5_drop 30 = .ok (.iload_n 2, 1) := by decide +kernel
theorem dX5_drop_31 : decode cX5_drop 31 = .ok (.aload_n 0, 1) := by decide +kernel
theorem dX5_drop_32 : decode cX5_drop 32 = .ok (.getfield 63, 3) := by decide +kernel
theorem dX5_drop_35 : decode cX5_drop 35 = .ok (.iload_n 2, 1) := by decide +kernel
theorem dX5_drop_36 : decode cX5_drop 36 = .ok (.bipush 7, 2) := by decide +kernel
theorem dX5_drop_38 : decode cX5_drop 38 = .ok (.iadd, 1) := by decide +kernel
theorem dX5_drop_39 : decode cX5_drop 39 = .ok (.iaload, 1) := by decide +kernel
theorem dX5_drop_40 : decode cX5_drop 40 = .ok (.iastore, 1) := by decide +kernel
theorem dX5_drop_41 : decode cX5_drop 41 = .ok (.iinc 2 1, 3) := by decide +kernel
theorem dX5_drop_44 : decode cX5_drop 44 = .ok (.goto (-29), 3) := by decide +kernel
theorem dX5_drop_47 : decode cX5_drop 47 = .ok (.iconst 4, 1) := by decide +kernel
theorem dX5_drop_48 : decode cX5_drop 48 = .ok (.iload_n 1, 1) := by decide +kernel
theorem dX5_drop_49 : decode cX5_drop 49 = .ok (.imul, 1) := by decide +kernel
theorem dX5_drop_50 : decode cX5_drop 50 = .ok (.istore_n 2, 1) := by decide +kernel
theorem dX5_drop_51 : decode cX5_drop 51 = .ok (.iload_n 2, 1) := by decide +kernel
theorem dX5_drop_52 : decode cX5_drop 52 = .ok (.iconst 4, 1) := by decide +kernel
theorem dX5_drop_53 : decode cX5_drop 53 = .ok (.aload_n 0, 1) := by decide +kernel
theorem dX5_drop_54 : decode cX5_drop 54 = .ok (.getfield 89, 3) := by decide +kernel
theorem dX5_drop_57 : decode cX5_drop 57 = .ok (.imul, 1) := by decide +kernel
theorem dX5_drop_58 : decode cX5_drop 58 = .ok (.if_icmp .ge 23, 3) := by decide +kernel
theorem dX5_drop_61 : decode cX5_drop 61 = .ok (.aload_n 0, 1) := by decide +kernel
theorem dX5_drop_62 : decode cX5_drop 62 = .ok (.getfield 66, 3) := by decide +kernel
theorem dX5_drop_65 : decode cX5_drop 65 = .ok (.iload_n 2, 1) := by decide +kernel
theorem dX5_drop_66 : decode cX5_drop 66 = .ok (.aload_n 0, 1) := by decide +kernel
theorem dX5_drop_67 : decode cX5_drop 67 = .ok (.getfield 66, 3) := by decide +kernel
theorem dX5_drop_70 : decode cX5_drop 70 = .ok (.iload_n 2, 1) := by decide +kernel
theorem dX5_drop_71 : decode cX5_drop 71 = .ok (.iconst 4, 1) := by decide +kernel
theorem dX5_drop_72 : decode cX5_drop 72 = .ok (.iadd, 1) := by decide +kernel
theorem dX5_drop_73 : decode cX5_drop 73 = .ok (.laload, 1) := by decide +kernel
theorem dX5_drop_74 : decode cX5_drop 74 = .ok (.lastore, 1) := by decide +kernel
theorem dX5_drop_75 : decode cX5_drop 75 = .ok (.iinc 2 1, 3) := by decide +kernel
theorem dX5_drop_78 : decode cX5_drop 78 = .ok (.goto (-27), 3) := by decide +kernel
theorem dX5_drop_81 : decode cX5_drop 81 = .ok (.return_, 1) := by decide +kernel
set_option maxRecDepth 20000 in
theorem ggX5_finish_X5_place : GoodIn wsX5_finish wsX5_place := goodIn_r _ [13] (by decide +kernel) (by decide +kernel)
set_option maxRecDepth 20000 in
theorem gX5_finish_X5_place : GoodIn wsX5_finish (va_wsS RX5 92 yX5_place wsX5_place) := goodIn_app (goodIn_of _ (by decide +kernel)) ggX5_finish_X5_place
theorem dX5_finish_0 : decode cX5_finish 0 = .ok (.iconst 4, 1) := by decide +kernel
theorem dX5_finish_1 : decode cX5_finish 1 = .ok (.iload_n 1, 1) := by decide +kernel
theorem dX5_finish_2 : decode cX5_finish 2 = .ok (.aload_n 0, 1) := by decide +kernel
theorem dX5_finish_3 : decode cX5_finish 3 = .ok (.getfield 36, 3) := by decide +kernel
theorem dX5_finish_6 : decode cX5_finish 6 = .ok (.iload_n 1, 1) := by decide +kernel
theorem dX5_finish_7 : decode cX5_finish 7 = .ok (.iaload, 1) := by decide +kernel
theorem dX5_finish_8 : decode cX5_finish 8 = .ok (.invokestatic 92, 3) := by decide +kernel
theorem dX5_finish_11 : decode cX5_finish 11 = .ok (.imul, 1) := by decide +kernel
theorem dX5_finish_12 : decode cX5_finish 12 = .ok (.aload_n 0, 1) := by decide +kernel
theorem dX5_finish_13 : decode cX5_finish 13 = .ok (.getfield 39, 3) := by decide +kernel
theorem dX5_finish_16 : decode cX5_finish 16 = .ok (.iload_n 1, 1) := by decide +kernel
theorem dX5_finish_17 : decode cX5_finish 17 = .ok (.iaload, 1) := by decide +kernel
theorem dX5_finish_18 : decode cX5_finish 18 = .ok (.iadd, 1) := by decide +kernel
theorem dX5_finish_19 : decode cX5_finish 19 = .ok (.istore_n 2, 1) := by decide +kernel
theorem dX5_finish_20 : decode cX5_finish 20 = .ok (.aload_n 0, 1) := by decide +kernel
theorem dX5_finish_21 : decode cX5_finish 21 = .ok (.getfield 42, 3) := by decide +kernel
theorem dX5_finish_24 : decode cX5_finish 24 = .ok (.iload_n 1, 1) := by decide +kernel
theorem dX5_finish_25 : decode cX5_finish 25 = .ok (.baload, 1) := by decide +kernel
theorem dX5_finish_26 : decode cX5_finish 26 = .ok (.ifCond .eq 15, 3) := by decide +kernel
theorem dX5_finish_29 : decode cX5_finish 29 = .ok (.aload_n 0, 1) := by decide +kernel
theorem dX5_finish_30 : decode cX5_finish 30 = .ok (.getfield 23, 3) := by decide +kernel
theorem dX5_finish_33 : decode cX5_finish 33 = .ok (.iload_n 2, 1) := by decide +kernel
theorem dX5_finish_34 : decode cX5_finish 34 = .ok (.aload_n 0, 1) := by decide +kernel
theorem dX5_finish_35 : decode cX5_finish 35 = .ok (.getfield 45, 3) := by decide +kernel
theorem dX5_finish_38 : decode cX5_finish 38 = .ok (.iload_n 1, 1) := by decide +kernel
theorem dX5_finish_39 : decode cX5_finish 39 = .ok (.laload, 1) := by decide +kernel
theorem dX5_finish_40 : decode cX5_finish 40 = .ok (.lastore, 1) := by decide +kernel
theorem dX5_finish_41 : decode cX5_finish 41 = .ok (.aload_n 0, 1) := by decide +kernel
theorem dX5_finish_42 : decode cX5_finish 42 = .ok (.getfield 60, 3) := by decide +kernel
theorem dX5_finish_45 : decode cX5_finish 45 = .ok (.iload_n 1, 1) := by decide +kernel
theorem dX5_finish_46 : decode cX5_finish 46 = .ok (.aload_n 0, 1) := by decide +kernel
theorem dX5_finish_47 : decode cX5_finish 47 = .ok (.getfield 23, 3) := by decide +kernel
theorem dX5_finish_50 : decode cX5_finish 50 = .ok (.iload_n 2, 1) := by decide +kernel
theorem dX5_finish_51 : decode cX5_finish 51 = .ok (.laload, 1) := by decide +kernel
theorem dX5_finish_52 : decode cX5_finish 52 = .ok (.lastore, 1) := by decide +kernel
theorem dX5_finish_53 : decode cX5_finish 53 = .ok (.aload_n 0, 1) := by decide +kernel
theorem dX5_finish_54 : decode cX5_finish 54 = .ok (.getfield 33, 3) := by decide +kernel
theorem dX5_finish_57 : decode cX5_finish 57 = .ok (.iload_n 1, 1) := by decide +kernel
theorem dX5_finish_58 : decode cX5_finish 58 = .ok (.iconst 0, 1) := by decide +kernel
theorem dX5_finish_59 : decode cX5_finish 59 = .ok (.iastore, 1) := by decide +kernel
theorem dX5_finish_60 : decode cX5_finish 60 = .ok (.aload_n 0, 1) := by decide +kernel
theorem dX5_finish_61 : decode cX5_finish 61 = .ok (.getfield 57, 3) := by decide +kernel
theorem dX5_finish_64 : decode cX5_finish 64 = .ok (.iload_n 1, 1) := by decide +kernel
theorem dX5_finish_65 : decode cX5_finish 65 = .ok (.dup2, 1) := by decide +kernel
theorem dX5_finish_66 : decode cX5_finish 66 = .ok (.iaload, 1) := by decide +kernel
theorem dX5_finish_67 : decode cX5_finish 67 = .ok (.iconst 1, 1) := by decide +kernel
theorem dX5_finish_68 : decode cX5_finish 68 = .ok (.iadd, 1) := by decide +kernel
theorem dX5_finish_69 : decode cX5_finish 69 = .ok (.iastore, 1) := by decide +kernel
theorem dX5_finish_70 : decode cX5_finish 70 = .ok (.aload_n 0, 1) := by decide +kernel
theorem dX5_finish_71 : decode cX5_finish 71 = .ok (.getfield 69, 3) := by decide +kernel
theorem dX5_finish_74 : decode cX5_finish 74 = .ok (.bipush 6, 2) := by decide +kernel
theorem dX5_finish_76 : decode cX5_finish 76 = .ok (.dup2, 1) := by decide +kernel
theorem dX5_finish_77 : decode cX5_finish 77 = .ok (.iaload, 1) := by decide +kernel
theorem dX5_finish_78 : decode cX5_finish 78 = .ok (.iconst 1, 1) := by decide +kernel
theorem dX5_finish_79 : decode cX5_finish 79 = .ok (.iadd, 1) := by decide +kernel
theorem dX5_finish_80 : decode cX5_finish 80 = .ok (.iastore, 1) := by decide +kernel
theorem dX5_finish_81 : decode cX5_finish 81 = .ok (.return_, 1) := by decide +kernel
theorem dX5_takeUp_0 : decode cX5_takeUp 0 = .ok (.aload_n 0, 1) := by decide +kernel
theorem dX5_takeUp_1 : decode cX5_takeUp 1 = .ok (.getfield 36, 3) := by decide +kernel
theorem dX5_takeUp_4 : decode cX5_takeUp 4 = .ok (.iload_n 1, 1) := by decide +kernel
theorem dX5_takeUp_5 : decode cX5_takeUp 5 = .ok (.iload_n 2, 1) := by decide +kernel
theorem dX5_takeUp_6 : decode cX5_takeUp 6 = .ok (.iastore, 1) := by decide +kernel
theorem dX5_takeUp_7 : decode cX5_takeUp 7 = .ok (.aload_n 0, 1) := by decide +kernel
theorem dX5_takeUp_8 : decode cX5_takeUp 8 = .ok (.getfield 39, 3) := by decide +kernel
theorem dX5_takeUp_11 : decode cX5_takeUp 11 = .ok (.iload_n 1, 1) := by decide +kernel
theorem dX5_takeUp_12 : decode cX5_takeUp 12 = .ok (.iload_n 3, 1) := by decide +kernel
theorem dX5_takeUp_13 : decode cX5_takeUp 13 = .ok (.iastore, 1) := by decide +kernel
theorem dX5_takeUp_14 : decode cX5_takeUp 14 = .ok (.aload_n 0, 1) := by decide +kernel
theorem dX5_takeUp_15 : decode cX5_takeUp 15 = .ok (.getfield 42, 3) := by decide +kernel
theorem dX5_takeUp_18 : decode cX5_takeUp 18 = .ok (.iload_n 1, 1) := by decide +kernel
theorem dX5_takeUp_19 : decode cX5_takeUp 19 = .ok (.iload 4, 2) := by decide +kernel
theorem dX5_takeUp_21 : decode cX5_takeUp 21 = .ok (.bastore, 1) := by decide +kernel
theorem dX5_takeUp_22 : decode cX5_takeUp 22 = .ok (.aload_n 0, 1) := by decide +kernel
theorem dX5_takeUp_23 : decode cX5_takeUp 23 = .ok (.getfield 48, 3) := by decide +kernel
theorem dX5_takeUp_26 : decode cX5_takeUp 26 = .ok (.iload_n 1, 1) := by decide +kernel
theorem dX5_takeUp_27 : decode cX5_takeUp 27 = .ok (.iconst 0, 1) := by decide +kernel
theorem dX5_takeUp_28 : decode cX5_takeUp 28 = .ok (.iastore, 1) := by decide +kernel
theorem dX5_takeUp_29 : decode cX5_takeUp 29 = .ok (.aload_n 0, 1) := by decide +kernel
theorem dX5_takeUp_30 : decode cX5_takeUp 30 = .ok (.getfield 51, 3) := by decide +kernel
theorem dX5_takeUp_33 : decode cX5_takeUp 33 = .ok (.iload_n 1, 1) := by decide +kernel
theorem dX5_takeUp_34 : decode cX5_takeUp 34 = .ok (.iconst 0, 1) := by decide +kernel
theorem dX5_takeUp_35 : decode cX5_takeUp 35 = .ok (.bastore, 1) := by decide +kernel
theorem dX5_takeUp_36 : decode cX5_takeUp 36 = .ok (.aload_n 0, 1) := by decide +kernel
theorem dX5_takeUp_37 : decode cX5_takeUp 37 = .ok (.getfield 54, 3) := by decide +kernel
theorem dX5_takeUp_40 : decode cX5_takeUp 40 = .ok (.iload_n 1, 1) := by decide +kernel
theorem dX5_takeUp_41 : decode cX5_takeUp 41 = .ok (.iconst 1, 1) := by decide +kernel
theorem dX5_takeUp_42 : decode cX5_takeUp 42 = .ok (.bastore, 1) := by decide +kernel
theorem dX5_takeUp_43 : decode cX5_takeUp 43 = .ok (.return_, 1) := by decide +kernel
set_option maxRecDepth 20000 in
theorem ggX5_ask_X5_isNode : GoodIn wsX5_ask wsX5_isNode := goodIn_r _ [11, 12, 48, 49, 50, 51, 52, 53, 54, 55, 56, 57, 58, 59, 60, 61, 62, 63, 64, 65, 66, 67, 68, 69, 70, 71, 72] (by decide +kernel) (by decide +kernel)
set_option maxRecDepth 20000 in
theorem gX5_ask_X5_isNode : GoodIn wsX5_ask (wsV RX5 96 RX5 yX5_isNode wsX5_isNode) := goodIn_app (goodIn_of _ (by decide +kernel)) ggX5_ask_X5_isNode
set_option maxRecDepth 20000 in
theorem ggX5_ask_X5_isPage : GoodIn wsX5_ask wsX5_isPage := goodIn_r _ [15] (by decide +kernel) (by decide +kernel)
set_option maxRecDepth 20000 in
theorem gX5_ask_X5_isPage : GoodIn wsX5_ask (va_wsS RX5 99 yX5_isPage wsX5_isPage) := goodIn_app (goodIn_of _ (by decide +kernel)) ggX5_ask_X5_isPage
set_option maxRecDepth 20000 in
theorem ggX5_ask_X5_takeUp : GoodIn wsX5_ask wsX5_takeUp := goodIn_r _ [19, 20, 21, 22, 23, 24, 25, 48, 49, 50, 51, 52, 53, 54, 55, 56, 57, 58, 59, 60, 61, 62, 63, 64, 65, 66, 67, 68, 69, 70, 71, 72] (by decide +kernel) (by decide +kernel)
set_option maxRecDepth 20000 in
theorem gX5_ask_X5_takeUp : GoodIn wsX5_ask (wsV RX5 102 RX5 yX5_takeUp wsX5_takeUp) := goodIn_app (goodIn_of _ (by decide +kernel)) ggX5_ask_X5_takeUp
set_option maxRecDepth 20000 in
theorem ggX5_ask_X5_place : GoodIn wsX5_ask wsX5_place := goodIn_r _ [28] (by decide +kernel) (by decide +kernel)
set_option maxRecDepth 20000 in
theorem gX5_ask_X5_place : GoodIn wsX5_ask (va_wsS RX5 92 yX5_place wsX5_place) := goodIn_app (goodIn_of _ (by decide +kernel)) ggX5_ask_X5_place
set_option maxRecDepth 20000 in
theorem ggX5_ask_X5_finish : GoodIn wsX5_ask wsX5_finish := goodIn_r _ [32, 20, 21, 22, 33, 2, 34, 1, 35, 4, 26, 27, 10, 28, 48, 49, 50, 51, 52, 53, 54, 55, 56, 57, 58, 59, 60, 61, 62, 63, 64, 65, 66, 67, 68, 69, 70, 71, 72] (by decide +kernel) (by decide +kernel)
set_option maxRecDepth 20000 in
theorem gX5_ask_X5_finish : GoodIn wsX5_ask (wsV RX5 106 RX5 yX5_finish wsX5_finish) := goodIn_app (goodIn_of _ (by decide +kernel)) ggX5_ask_X5_finish
set_option maxRecDepth 20000 in
theorem ggX5_ask_X5_callBack : GoodIn wsX5_ask wsX5_callBack := goodIn_r _ [39, 20, 12, 40, 4, 23, 3, 1, 26, 27, 10, 28, 41, 42, 43, 44, 45, 46, 47, 33, 29, 30, 31, 32, 21, 22, 2, 34, 35, 48, 49, 50, 51, 52, 53, 54, 55, 56, 57, 58, 59, 60, 61, 62, 63, 64, 65, 66, 67, 68, 69, 70, 71, 72] (by decide +kernel) (by decide +kernel)
set_option maxRecDepth 20000 in
theorem gX5_ask_X5_callBack : GoodIn wsX5_ask (wsV RX5 110 RX5 yX5_callBack wsX5_callBack) := goodIn_app (goodIn_of _ (by decide +kernel)) ggX5_ask_X5_callBack
set_option maxRecDepth 20000 in
theorem ggX5_ask_X5_send : GoodIn wsX5_ask wsX5_send := goodIn_r _ [44, 45, 46, 47, 33, 4, 26, 27, 10, 28, 48, 49, 50, 51, 52, 53, 54, 55, 56, 57, 58, 59, 60, 61, 62, 63, 64, 65, 66, 67, 68, 69, 70, 71, 72] (by decide +kernel) (by decide +kernel)
set_option maxRecDepth 20000 in
theorem gX5_ask_X5_send : GoodIn wsX5_ask (wsV RX5 113 RX5 yX5_send wsX5_send) := goodIn_app (goodIn_of _ (by decide +kernel)) ggX5_ask_X5_send
theorem dX5_ask_0 : decode cX5_ask 0 = .ok (.aload_n 0, 1) := by decide +kernel
theorem dX5_ask_1 : decode cX5_ask 1 = .ok (.iload_n 1, 1) := by decide +kernel
theorem dX5_ask_2 : decode cX5_ask 2 = .ok (.invokevirtual 96, 3) := by decide +kernel
theorem dX5_ask_5 : decode cX5_ask 5 = .ok (.ifCond .eq 23, 3) := by decide +kernel
theorem dX5_ask_8 : decode cX5_ask 8 = .ok (.iload_n 2, 1) := by decide +kernel
theorem dX5_ask_9 : decode cX5_ask 9 = .ok (.invokestatic 99, 3) := by decide +kernel
theorem dX5_ask_12 : decode cX5_ask 12 = .ok (.ifCond .eq 16, 3) := by decide +kernel
theorem dX5_ask_15 : decode cX5_ask 15 = .ok (.iload_n 3, 1) := by decide +kernel
theorem dX5_ask_16 : decode cX5_ask 16 = .ok (.ifCond .lt 12, 3) := by decide +kernel
theorem dX5_ask_19 : decode cX5_ask 19 = .ok (.iload_n 3, 1) := by decide +kernel
theorem dX5_ask_20 : decode cX5_ask 20 = .ok (.iconst 4, 1) := by decide +kernel
theorem dX5_ask_21 : decode cX5_ask 21 = .ok (.if_icmp .ge 7, 3) := by decide +kernel
theorem dX5_ask_24 : decode cX5_ask 24 = .ok (.iconst 1, 1) := by decide +kernel
theorem dX5_ask_25 : decode cX5_ask 25 = .ok (.goto 4, 3) := by decide +kernel
theorem dX5_ask_28 : decode cX5_ask 28 = .ok (.iconst 0, 1) := by decide +kernel
theorem dX5_ask_29 : decode cX5_ask 29 = .ok (.istore 7, 2) := by decide +kernel
theorem dX5_ask_31 : decode cX5_ask 31 = .ok (.iload 7, 2) := by decide +kernel
theorem dX5_ask_33 : decode cX5_ask 33 = .ok (.ifCond .eq 12, 3) := by decide +kernel
theorem dX5_ask_36 : decode cX5_ask 36 = .ok (.aload_n 0, 1) := by decide +kernel
theorem dX5_ask_37 : decode cX5_ask 37 = .ok (.getfield 33, 3) := by decide +kernel
theorem dX5_ask_40 : decode cX5_ask 40 = .ok (.iload_n 1, 1) := by decide +kernel
theorem dX5_ask_41 : decode cX5_ask 41 = .ok (.iaload, 1) := by decide +kernel
theorem dX5_ask_42 : decode cX5_ask 42 = .ok (.ifCond .eq 5, 3) := by decide +kernel
theorem dX5_ask_45 : decode cX5_ask 45 = .ok (.iconst (-1), 1) := by decide +kernel
theorem dX5_ask_46 : decode cX5_ask 46 = .ok (.ireturn, 1) := by decide +kernel
theorem dX5_ask_47 : decode cX5_ask 47 = .ok (.aload_n 0, 1) := by decide +kernel
theorem dX5_ask_48 : decode cX5_ask 48 = .ok (.iload_n 1, 1) := by decide +kernel
theorem dX5_ask_49 : decode cX5_ask 49 = .ok (.iload_n 2, 1) := by decide +kernel
theorem dX5_ask_50 : decode cX5_ask 50 = .ok (.iload_n 3, 1) := by decide +kernel
theorem dX5_ask_51 : decode cX5_ask 51 = .ok (.iload 4, 2) := by decide +kernel
theorem dX5_ask_53 : decode cX5_ask 53 = .ok (.invokevirtual 102, 3) := by decide +kernel
theorem dX5_ask_56 : decode cX5_ask 56 = .ok (.aload_n 0, 1) := by decide +kernel
theorem dX5_ask_57 : decode cX5_ask 57 = .ok (.getfield 45, 3) := by decide +kernel
theorem dX5_ask_60 : decode cX5_ask 60 = .ok (.iload_n 1, 1) := by decide +kernel
theorem dX5_ask_61 : decode cX5_ask 61 = .ok (.lload 5, 2) := by decide +kernel
theorem dX5_ask_63 : decode cX5_ask 63 = .ok (.lastore, 1) := by decide +kernel
theorem dX5_ask_64 : decode cX5_ask 64 = .ok (.iload_n 1, 1) := by decide +kernel
theorem dX5_ask_65 : decode cX5_ask 65 = .ok (.iload_n 2, 1) := by decide +kernel
theorem dX5_ask_66 : decode cX5_ask 66 = .ok (.invokestatic 92, 3) := by decide +kernel
theorem dX5_ask_69 : decode cX5_ask 69 = .ok (.istore 8, 2) := by decide +kernel
theorem dX5_ask_71 : decode cX5_ask 71 = .ok (.aload_n 0, 1) := by decide +kernel
theorem dX5_ask_72 : decode cX5_ask 72 = .ok (.getfield 7, 3) := by decide +kernel
theorem dX5_ask_75 : decode cX5_ask 75 = .ok (.iload 8, 2) := by decide +kernel
theorem dX5_ask_77 : decode cX5_ask 77 = .ok (.iaload, 1) := by decide +kernel
theorem dX5_ask_78 : decode cX5_ask 78 = .ok (.iload 4, 2) := by decide +kernel
theorem dX5_ask_80 : decode cX5_ask 80 = .ok (.ifCond .eq 7, 3) := by decide +kernel
theorem dX5_ask_83 : decode cX5_ask 83 = .ok (.iconst 2, 1) := by decide +kernel
theorem dX5_ask_84 : decode cX5_ask 84 = .ok (.goto 4, 3) := by decide +kernel
theorem dX5_ask_87 : decode cX5_ask 87 = .ok (.iconst 1, 1) := by decide +kernel
theorem dX5_ask_88 : decode cX5_ask 88 = .ok (.if_icmp .lt 21, 3) := by decide +kernel
theorem dX5_ask_91 : decode cX5_ask 91 = .ok (.aload_n 0, 1) := by decide +kernel
theorem dX5_ask_92 : decode cX5_ask 92 = .ok (.iload_n 1, 1) := by decide +kernel
theorem dX5_ask_93 : decode cX5_ask 93 = .ok (.invokevirtual 106, 3) := by decide +kernel
theorem dX5_ask_96 : decode cX5_ask 96 = .ok (.aload_n 0, 1) := by decide +kernel
theorem dX5_ask_97 : decode cX5_ask 97 = .ok (.getfield 69, 3) := by decide +kernel
theorem dX5_ask_100 : decode cX5_ask 100 = .ok (.bipush 7, 2) := by decide +kernel
theorem dX5_ask_102 : decode cX5_ask 102 = .ok (.dup2, 1) := by decide +kernel
theorem dX5_ask_103 : decode cX5_ask 103 = .ok (.iaload, 1) := by decide +kernel
theorem dX5_ask_104 : decode cX5_ask 104 = .ok (.iconst 1, 1) := by decide +kernel
theorem dX5_ask_105 : decode cX5_ask 105 = .ok (.iadd, 1) := by decide +kernel
theorem dX5_ask_106 : decode cX5_ask 106 = .ok (.iastore, 1) := by decide +kernel
theorem dX5_ask_107 : decode cX5_ask 107 = .ok (.iconst 1, 1) := by decide +kernel
theorem dX5_ask_108 : decode cX5_ask 108 = .ok (.ireturn, 1) := by decide +kernel
theorem dX5_ask_109 : decode cX5_ask 109 = .ok (.iload 4, 2) := by decide +kernel
theorem dX5_ask_111 : decode cX5_ask 111 = .ok (.ifCond .eq 36, 3) := by decide +kernel
theorem dX5_ask_114 : decode cX5_ask 114 = .ok (.aload_n 0, 1) := by decide +kernel
theorem dX5_ask_115 : decode cX5_ask 115 = .ok (.getfield 13, 3) := by decide +kernel
theorem dX5_ask_118 : decode cX5_ask 118 = .ok (.iload 8, 2) := by decide +kernel
theorem dX5_ask_120 : decode cX5_ask 120 = .ok (.baload, 1) := by decide +kernel
theorem dX5_ask_121 : decode cX5_ask 121 = .ok (.ifCond .eq 26, 3) := by decide +kernel
theorem dX5_ask_124 : decode cX5_ask 124 = .ok (.aload_n 0, 1) := by decide +kernel
theorem dX5_ask_125 : decode cX5_ask 125 = .ok (.iload_n 1, 1) := by decide +kernel
theorem dX5_ask_126 : decode cX5_ask 126 = .ok (.invokevirtual 110, 3) := by decide +kernel
theorem dX5_ask_129 : decode cX5_ask 129 = .ok (.ifCond .eq 16, 3) := by decide +kernel
theorem dX5_ask_132 : decode cX5_ask 132 = .ok (.aload_n 0, 1) := by decide +kernel
theorem dX5_ask_133 : decode cX5_ask 133 = .ok (.getfield 69, 3) := by decide +kernel
theorem dX5_ask_136 : decode cX5_ask 136 = .ok (.bipush 7, 2) := by decide +kernel
theorem dX5_ask_138 : decode cX5_ask 138 = .ok (.dup2, 1) := by decide +kernel
theorem dX5_ask_139 : decode cX5_ask 139 = .ok (.iaload, 1) := by decide +kernel
theorem dX5_ask_140 : decode cX5_ask 140 = .ok (.iconst 1, 1) := by decide +kernel
theorem dX5_ask_141 : decode cX5_ask 141 = .ok (.iadd, 1) := by decide +kernel
theorem dX5_ask_142 : decode cX5_ask 142 = .ok (.iastore, 1) := by decide +kernel
theorem dX5_ask_143 : decode cX5_ask 143 = .ok (.iconst 1, 1) := by decide +kernel
theorem dX5_ask_144 : decode cX5_ask 144 = .ok (.ireturn, 1) := by decide +kernel
theorem dX5_ask_145 : decode cX5_ask 145 = .ok (.iconst 0, 1) := by decide +kernel
theorem dX5_ask_146 : decode cX5_ask 146 = .ok (.ireturn, 1) := by decide +kernel
theorem dX5_ask_147 : decode cX5_ask 147 = .ok (.aload_n 0, 1) := by decide +kernel
theorem dX5_ask_148 : decode cX5_ask 148 = .ok (.getfield 33, 3) := by decide +kernel
theorem dX5_ask_151 : decode cX5_ask 151 = .ok (.iload_n 1, 1) := by decide +kernel
theorem dX5_ask_152 : decode cX5_ask 152 = .ok (.iload 4, 2) := by decide +kernel
theorem dX5_ask_154 : decode cX5_ask 154 = .ok (.ifCond .eq 7, 3) := by decide +kernel
theorem dX5_ask_157 : decode cX5_ask 157 = .ok (.iconst 2, 1) := by decide +kernel
theorem dX5_ask_158 : decode cX5_ask 158 = .ok (.goto 4, 3) := by decide +kernel
theorem dX5_ask_161 : decode cX5_ask 161 = .ok (.iconst 1, 1) := by decide +kernel
theorem dX5_ask_162 : decode cX5_ask 162 = .ok (.iastore, 1) := by decide +kernel
theorem dX5_ask_163 : decode cX5_ask 163 = .ok (.aload_n 0, 1) := by decide +kernel
theorem dX5_ask_164 : decode cX5_ask 164 = .ok (.iload 4, 2) := by decide +kernel
theorem dX5_ask_166 : decode cX5_ask 166 = .ok (.ifCond .eq 7, 3) := by decide +kernel
theorem dX5_ask_169 : decode cX5_ask 169 = .ok (.iconst 2, 1) := by decide +kernel
theorem dX5_ask_170 : decode cX5_ask 170 = .ok (.goto 4, 3) := by decide +kernel
theorem dX5_ask_173 : decode cX5_ask 173 = .ok (.iconst 1, 1) := by decide +kernel
theorem dX5_ask_174 : decode cX5_ask 174 = .ok (.iload_n 1, 1) := by decide +kernel
theorem dX5_ask_175 : decode cX5_ask 175 = .ok (.aload_n 0, 1) := by decide +kernel
theorem dX5_ask_176 : decode cX5_ask 176 = .ok (.getfield 17, 3) := by decide +kernel
theorem dX5_ask_179 : decode cX5_ask 179 = .ok (.iload 8, 2) := by decide +kernel
theorem dX5_ask_181 : decode cX5_ask 181 = .ok (.iaload, 1) := by decide +kernel
theorem dX5_ask_182 : decode cX5_ask 182 = .ok (.iload_n 2, 1) := by decide +kernel
theorem dX5_ask_183 : decode cX5_ask 183 = .ok (.iload_n 1, 1) := by decide +kernel
theorem dX5_ask_184 : decode cX5_ask 184 = .ok (.iconst 0, 1) := by decide +kernel
theorem dX5_ask_185 : decode cX5_ask 185 = .ok (.invokevirtual 113, 3) := by decide +kernel
theorem dX5_ask_188 : decode cX5_ask 188 = .ok (.iconst 0, 1) := by decide +kernel
theorem dX5_ask_189 : decode cX5_ask 189 = .ok (.ireturn, 1) := by decide +kernel
set_option maxRecDepth 20000 in
theorem ggX5_read_X5_ask : GoodIn wsX5_read wsX5_ask := goodIn_r _ [5, 6, 7, 8, 9, 10, 11, 12, 13, 14, 4, 15, 16, 17, 18, 19, 20, 21, 22, 23, 24, 25, 26, 27, 28, 29, 30, 31, 32, 33, 34, 35, 36, 37, 38, 39, 40, 41, 42, 43, 44, 45, 46, 47, 48, 49, 50, 51, 52, 53, 54, 55, 56, 57, 58, 59, 60, 61, 62, 63, 64, 65, 66, 67, 68, 69, 70, 71, 72, 73, 74, 75, 76] (by decide +kernel) (by decide +kernel)
set_option maxRecDepth 20000 in
theorem gX5_read_X5_ask : GoodIn wsX5_read (wsV RX5 117 RX5 yX5_ask wsX5_ask) := goodIn_app (goodIn_of _ (by decide +kernel)) ggX5_read_X5_ask
theorem dX5_read_0 : decode cX5_read 0 = .ok (.aload_n 0, 1) := by decide +kernel
theorem dX5_read_1 : decode cX5_read 1 = .ok (.iload_n 1, 1) := by decide +kernel
theorem dX5_read_2 : decode cX5_read 2 = .ok (.iload_n 2, 1) := by decide +kernel
theorem dX5_read_3 : decode cX5_read 3 = .ok (.iload_n 3, 1) := by decide +kernel
theorem dX5_read_4 : decode cX5_read 4 = .ok (.iconst 0, 1) := by decide +kernel
theorem dX5_read_5 : decode cX5_read 5 = .ok (.lconst 0, 1) := by decide +kernel
theorem dX5_read_6 : decode cX5_read 6 = .ok (.invokevirtual 117, 3) := by decide +kernel
theorem dX5_read_9 : decode cX5_read 9 = .ok (.ireturn, 1) := by decide +kernel
set_option maxRecDepth 20000 in
theorem ggX5_write_X5_ask : GoodIn wsX5_write wsX5_ask := goodIn_r _ [5, 6, 7, 8, 9, 10, 11, 12, 13, 14, 4, 15, 16, 17, 18, 19, 20, 21, 22, 23, 24, 25, 26, 27, 28, 29, 30, 31, 32, 33, 34, 35, 36, 37, 38, 39, 40, 41, 42, 43, 44, 45, 46, 47, 48, 49, 50, 51, 52, 53, 54, 55, 56, 57, 58, 59, 60, 61, 62, 63, 64, 65, 66, 67, 68, 69, 70, 71, 72, 73, 74, 75, 76] (by decide +kernel) (by decide +kernel)
set_option maxRecDepth 20000 in
theorem gX5_write_X5_ask : GoodIn wsX5_write (wsV RX5 117 RX5 yX5_ask wsX5_ask) := goodIn_app (goodIn_of _ (by decide +kernel)) ggX5_write_X5_ask
theorem dX5_write_0 : decode cX5_write 0 = .ok (.aload_n 0, 1) := by decide +kernel
theorem dX5_write_1 : decode cX5_write 1 = .ok (.iload_n 1, 1) := by decide +kernel
theorem dX5_write_2 : decode cX5_write 2 = .ok (.iload_n 2, 1) := by decide +kernel
theorem dX5_write_3 : decode cX5_write 3 = .ok (.iload_n 3, 1) := by decide +kernel
theorem dX5_write_4 : decode cX5_write 4 = .ok (.iconst 1, 1) := by decide +kernel
theorem dX5_write_5 : decode cX5_write 5 = .ok (.lload 4, 2) := by decide +kernel
theorem dX5_write_7 : decode cX5_write 7 = .ok (.invokevirtual 117, 3) := by decide +kernel
theorem dX5_write_10 : decode cX5_write 10 = .ok (.ireturn, 1) := by decide +kernel
set_option maxRecDepth 20000 in
theorem ggX5_callBack_X5_place : GoodIn wsX5_callBack wsX5_place := goodIn_r _ [11] (by decide +kernel) (by decide +kernel)
set_option maxRecDepth 20000 in
theorem gX5_callBack_X5_place : GoodIn wsX5_callBack (va_wsS RX5 92 yX5_place wsX5_place) := goodIn_app (goodIn_of _ (by decide +kernel)) ggX5_callBack_X5_place
set_option maxRecDepth 20000 in
theorem ggX5_callBack_X5_send : GoodIn wsX5_callBack wsX5_send := goodIn_r _ [15, 16, 17, 18, 19, 4, 8, 9, 10, 11, 29, 30, 31, 32, 33, 34, 35, 36, 37, 38, 39, 40, 41, 42, 43, 44, 45, 46, 47, 48, 49, 50, 51, 52, 53] (by decide +kernel) (by decide +kernel)
set_option maxRecDepth 20000 in
theorem gX5_callBack_X5_send : GoodIn wsX5_callBack (wsV RX5 113 RX5 yX5_send wsX5_send) := goodIn_app (goodIn_of _ (by decide +kernel)) ggX5_callBack_X5_send
set_option maxRecDepth 20000 in
theorem ggX5_callBack_X5_finish : GoodIn wsX5_callBack wsX5_finish := goodIn_r _ [23, 1, 24, 25, 19, 26, 27, 7, 28, 4, 8, 9, 10, 11, 29, 30, 31, 32, 33, 34, 35, 36, 37, 38, 39, 40, 41, 42, 43, 44, 45, 46, 47, 48, 49, 50, 51, 52, 53] (by decide +kernel) (by decide +kernel)
set_option maxRecDepth 20000 in
theorem gX5_callBack_X5_finish : GoodIn wsX5_callBack (wsV RX5 106 RX5 yX5_finish wsX5_finish) := goodIn_app (goodIn_of _ (by decide +kernel)) ggX5_callBack_X5_finish
theorem dX5_callBack_0 : decode cX5_callBack 0 = .ok (.iload_n 1, 1) := by decide +kernel
theorem dX5_callBack_1 : decode cX5_callBack 1 = .ok (.aload_n 0, 1) := by decide +kernel
theorem dX5_callBack_2 : decode cX5_callBack 2 = .ok (.getfield 36, 3) := by decide +kernel
theorem dX5_callBack_5 : decode cX5_callBack 5 = .ok (.iload_n 1, 1) := by decide +kernel
theorem dX5_callBack_6 : decode cX5_callBack 6 = .ok (.iaload, 1) := by decide +kernel
theorem dX5_callBack_7 : decode cX5_callBack 7 = .ok (.invokestatic 92, 3) := by decide +kernel
theorem dX5_callBack_10 : decode cX5_callBack 10 = .ok (.istore_n 2, 1) := by decide +kernel
theorem dX5_callBack_11 : decode cX5_callBack 11 = .ok (.iconst 0, 1) := by decide +kernel
theorem dX5_callBack_12 : decode cX5_callBack 12 = .ok (.istore_n 3, 1) := by decide +kernel
theorem dX5_callBack_13 : decode cX5_callBack 13 = .ok (.iconst 0, 1) := by decide +kernel
theorem dX5_callBack_14 : decode cX5_callBack 14 = .ok (.istore 4, 2) := by decide +kernel
theorem dX5_callBack_16 : decode cX5_callBack 16 = .ok (.iload 4, 2) := by decide +kernel
theorem dX5_callBack_18 : decode cX5_callBack 18 = .ok (.aload_n 0, 1) := by decide +kernel
theorem dX5_callBack_19 : decode cX5_callBack 19 = .ok (.getfield 85, 3) := by decide +kernel
theorem dX5_callBack_22 : decode cX5_callBack 22 = .ok (.if_icmp .ge 53, 3) := by decide +kernel
theorem dX5_callBack_25 : decode cX5_callBack 25 = .ok (.aload_n 0, 1) := by decide +kernel
theorem dX5_callBack_26 : decode cX5_callBack 26 = .ok (.getfield 20, 3) := by decide +kernel
theorem dX5_callBack_29 : decode cX5_callBack 29 = .ok (.iload_n 2, 1) := by decide +kernel
theorem dX5_callBack_30 : decode cX5_callBack 30 = .ok (.iaload, 1) := by decide +kernel
theorem dX5_callBack_31 : decode cX5_callBack 31 = .ok (.iload 4, 2) := by decide +kernel
theorem dX5_callBack_33 : decode cX5_callBack 33 = .ok (.ishr, 1) := by decide +kernel
theorem dX5_callBack_34 : decode cX5_callBack 34 = .ok (.iconst 1, 1) := by decide +kernel
theorem dX5_callBack_35 : decode cX5_callBack 35 = .ok (.iand, 1) := by decide +kernel
theorem dX5_callBack_36 : decode cX5_callBack 36 = .ok (.iconst 1, 1) := by decide +kernel
theorem dX5_callBack_37 : decode cX5_callBack 37 = .ok (.if_icmp .ne 32, 3) := by decide +kernel
theorem dX5_callBack_40 : decode cX5_callBack 40 = .ok (.aload_n 0, 1) := by decide +kernel
theorem dX5_callBack_41 : decode cX5_callBack 41 = .ok (.iconst 5, 1) := by decide +kernel
theorem dX5_callBack_42 : decode cX5_callBack 42 = .ok (.iload_n 1, 1) := by decide +kernel
theorem dX5_callBack_43 : decode cX5_callBack 43 = .ok (.iload 4, 2) := by decide +kernel
theorem dX5_callBack_45 : decode cX5_callBack 45 = .ok (.aload_n 0, 1) := by decide +kernel
theorem dX5_callBack_46 : decode cX5_callBack 46 = .ok (.getfield 36, 3) := by decide +kernel
theorem dX5_callBack_49 : decode cX5_callBack 49 = .ok (.iload_n 1, 1) := by decide +kernel
theorem dX5_callBack_50 : decode cX5_callBack 50 = .ok (.iaload, 1) := by decide +kernel
theorem dX5_callBack_51 : decode cX5_callBack 51 = .ok (.iconst (-1), 1) := by decide +kernel
theorem dX5_callBack_52 : decode cX5_callBack 52 = .ok (.iconst 0, 1) := by decide +kernel
theorem dX5_callBack_53 : decode cX5_callBack 53 = .ok (.invokevirtual 113, 3) := by decide +kernel
theorem dX5_callBack_56 : decode cX5_callBack 56 = .ok (.aload_n 0, 1) := by decide +kernel
theorem dX5_callBack_57 : decode cX5_callBack 57 = .ok (.getfield 69, 3) := by decide +kernel
theorem dX5_callBack_60 : decode cX5_callBack 60 = .ok (.iconst 5, 1) := by decide +kernel
theorem dX5_callBack_61 : decode cX5_callBack 61 = .ok (.dup2, 1) := by decide +kernel
theorem dX5_callBack_62 : decode cX5_callBack 62 = .ok (.iaload, 1) := by decide +kernel
theorem dX5_callBack_63 : decode cX5_callBack 63 = .ok (.iconst 1, 1) := by decide +kernel
theorem dX5_callBack_64 : decode cX5_callBack 64 = .ok (.iadd, 1) := by decide +kernel
theorem dX5_callBack_65 : decode cX5_callBack 65 = .ok (.iastore, 1) := by decide +kernel
theorem dX5_callBack_66 : decode cX5_callBack 66 = .ok (.iinc 3 1, 3) := by decide +kernel
theorem dX5_callBack_69 : decode cX5_callBack 69 = .ok (.iinc 4 1, 3) := by decide +kernel
theorem dX5_callBack_72 : decode cX5_callBack 72 = .ok (.goto (-56), 3) := by decide +kernel
theorem dX5_callBack_75 : decode cX5_callBack 75 = .ok (.aload_n 0, 1) := by decide +kernel
theorem dX5_callBack_76 : decode cX5_callBack 76 = .ok (.getfield 20, 3) := by decide +kernel
theorem dX5_callBack_79 : decode cX5_callBack 79 = .ok (.iload_n 2, 1) := by decide +kernel
theorem dX5_callBack_80 : decode cX5_callBack 80 = .ok (.iconst 0, 1) := by decide +kernel
theorem dX5_callBack_81 : decode cX5_callBack 81 = .ok (.iastore, 1) := by decide +kernel
theorem dX5_callBack_82 : decode cX5_callBack 82 = .ok (.aload_n 0, 1) := by decide +kernel
theorem dX5_callBack_83 : decode cX5_callBack 83 = .ok (.getfield 48, 3) := by decide +kernel
theorem dX5_callBack_86 : decode cX5_callBack 86 = .ok (.iload_n 1, 1) := by decide +kernel
theorem dX5_callBack_87 : decode cX5_callBack 87 = .ok (.iload_n 3, 1) := by decide +kernel
theorem dX5_callBack_88 : decode cX5_callBack 88 = .ok (.iastore, 1) := by decide +kernel
theorem dX5_callBack_89 : decode cX5_callBack 89 = .ok (.iload_n 3, 1) := by decide +kernel
theorem dX5_callBack_90 : decode cX5_callBack 90 = .ok (.ifCond .ne 17, 3) := by decide +kernel
theorem dX5_callBack_93 : decode cX5_callBack 93 = .ok (.aload_n 0, 1) := by decide +kernel
theorem dX5_callBack_94 : decode cX5_callBack 94 = .ok (.getfield 7, 3) := by decide +kernel
theorem dX5_callBack_97 : decode cX5_callBack 97 = .ok (.iload_n 2, 1) := by decide +kernel
theorem dX5_callBack_98 : decode cX5_callBack 98 = .ok (.iconst 2, 1) := by decide +kernel
theorem dX5_callBack_99 : decode cX5_callBack 99 = .ok (.iastore, 1) := by decide +kernel
theorem dX5_callBack_100 : decode cX5_callBack 100 = .ok (.aload_n 0, 1) := by decide +kernel
theorem dX5_callBack_101 : decode cX5_callBack 101 = .ok (.iload_n 1, 1) := by decide +kernel
theorem dX5_callBack_102 : decode cX5_callBack 102 = .ok (.invokevirtual 106, 3) := by decide +kernel
theorem dX5_callBack_105 : decode cX5_callBack 105 = .ok (.iconst 1, 1) := by decide +kernel
theorem dX5_callBack_106 : decode cX5_callBack 106 = .ok (.ireturn, 1) := by decide +kernel
theorem dX5_callBack_107 : decode cX5_callBack 107 = .ok (.aload_n 0, 1) := by decide +kernel
theorem dX5_callBack_108 : decode cX5_callBack 108 = .ok (.getfield 33, 3) := by decide +kernel
theorem dX5_callBack_111 : decode cX5_callBack 111 = .ok (.iload_n 1, 1) := by decide +kernel
theorem dX5_callBack_112 : decode cX5_callBack 112 = .ok (.iconst 3, 1) := by decide +kernel
theorem dX5_callBack_113 : decode cX5_callBack 113 = .ok (.iastore, 1) := by decide +kernel
theorem dX5_callBack_114 : decode cX5_callBack 114 = .ok (.iconst 0, 1) := by decide +kernel
theorem dX5_callBack_115 : decode cX5_callBack 115 = .ok (.ireturn, 1) := by decide +kernel
set_option maxRecDepth 20000 in
theorem ggX5_goOver_X5_place : GoodIn wsX5_goOver wsX5_place := goodIn_r _ [7] (by decide +kernel) (by decide +kernel)
set_option maxRecDepth 20000 in
theorem gX5_goOver_X5_place : GoodIn wsX5_goOver (va_wsS RX5 92 yX5_place wsX5_place) := goodIn_app (goodIn_of _ (by decide +kernel)) ggX5_goOver_X5_place
set_option maxRecDepth 20000 in
theorem ggX5_goOver_X5_asked : GoodIn wsX5_goOver wsX5_asked := goodIn_r _ [11, 12, 13, 3, 1, 14, 15, 16, 17, 18, 4, 5, 6, 7, 19, 20, 21, 22, 23, 24, 25, 26, 27, 28, 29, 30, 31, 32, 33, 34, 35, 36, 37, 38, 39, 40, 41, 42, 43, 44, 45, 46, 47, 48, 49, 50, 51] (by decide +kernel) (by decide +kernel)
set_option maxRecDepth 20000 in
theorem gX5_goOver_X5_asked : GoodIn wsX5_goOver (wsV RX5 121 RX5 yX5_asked wsX5_asked) := goodIn_app (goodIn_of _ (by decide +kernel)) ggX5_goOver_X5_asked
theorem dX5_goOver_0 : decode cX5_goOver 0 = .ok (.iload_n 1, 1) := by decide +kernel
theorem dX5_goOver_1 : decode cX5_goOver 1 = .ok (.iload_n 2, 1) := by decide +kernel
theorem dX5_goOver_2 : decode cX5_goOver 2 = .ok (.invokestatic 92, 3) := by decide +kernel
theorem dX5_goOver_5 : decode cX5_goOver 5 = .ok (.istore_n 3, 1) := by decide +kernel
theorem dX5_goOver_6 : decode cX5_goOver 6 = .ok (.aload_n 0, 1) := by decide +kernel
theorem dX5_goOver_7 : decode cX5_goOver 7 = .ok (.getfield 30, 3) := by decide +kernel
theorem dX5_goOver_10 : decode cX5_goOver 10 = .ok (.iload_n 3, 1) := by decide +kernel
theorem dX5_goOver_11 : decode cX5_goOver 11 = .ok (.iaload, 1) := by decide +kernel
theorem dX5_goOver_12 : decode cX5_goOver 12 = .ok (.istore 4, 2) := by decide +kernel
theorem dX5_goOver_14 : decode cX5_goOver 14 = .ok (.iconst 0, 1) := by decide +kernel
theorem dX5_goOver_15 : decode cX5_goOver 15 = .ok (.istore 5, 2) := by decide +kernel
theorem dX5_goOver_17 : decode cX5_goOver 17 = .ok (.iload 5, 2) := by decide +kernel
theorem dX5_goOver_19 : decode cX5_goOver 19 = .ok (.iconst 2, 1) := by decide +kernel
theorem dX5_goOver_20 : decode cX5_goOver 20 = .ok (.iload 4, 2) := by decide +kernel
theorem dX5_goOver_22 : decode cX5_goOver 22 = .ok (.imul, 1) := by decide +kernel
theorem dX5_goOver_23 : decode cX5_goOver 23 = .ok (.if_icmp .ge 28, 3) := by decide +kernel
theorem dX5_goOver_26 : decode cX5_goOver 26 = .ok (.aload_n 0, 1) := by decide +kernel
theorem dX5_goOver_27 : decode cX5_goOver 27 = .ok (.getfield 78, 3) := by decide +kernel
theorem dX5_goOver_30 : decode cX5_goOver 30 = .ok (.iload 5, 2) := by decide +kernel
theorem dX5_goOver_32 : decode cX5_goOver 32 = .ok (.aload_n 0, 1) := by decide +kernel
theorem dX5_goOver_33 : decode cX5_goOver 33 = .ok (.getfield 27, 3) := by decide +kernel
theorem dX5_goOver_36 : decode cX5_goOver 36 = .ok (.bipush 20, 2) := by decide +kernel
theorem dX5_goOver_38 : decode cX5_goOver 38 = .ok (.iload_n 3, 1) := by decide +kernel
theorem dX5_goOver_39 : decode cX5_goOver 39 = .ok (.imul, 1) := by decide +kernel
theorem dX5_goOver_40 : decode cX5_goOver 40 = .ok (.iload 5, 2) := by decide +kernel
theorem dX5_goOver_42 : decode cX5_goOver 42 = .ok (.iadd, 1) := by decide +kernel
theorem dX5_goOver_43 : decode cX5_goOver 43 = .ok (.iaload, 1) := by decide +kernel
theorem dX5_goOver_44 : decode cX5_goOver 44 = .ok (.iastore, 1) := by decide +kernel
theorem dX5_goOver_45 : decode cX5_goOver 45 = .ok (.iinc 5 1, 3) := by decide +kernel
theorem dX5_goOver_48 : decode cX5_goOver 48 = .ok (.goto (-31), 3) := by decide +kernel
theorem dX5_goOver_51 : decode cX5_goOver 51 = .ok (.aload_n 0, 1) := by decide +kernel
theorem dX5_goOver_52 : decode cX5_goOver 52 = .ok (.getfield 30, 3) := by decide +kernel
theorem dX5_goOver_55 : decode cX5_goOver 55 = .ok (.iload_n 3, 1) := by decide +kernel
theorem dX5_goOver_56 : decode cX5_goOver 56 = .ok (.iconst 0, 1) := by decide +kernel
theorem dX5_goOver_57 : decode cX5_goOver 57 = .ok (.iastore, 1) := by decide +kernel
theorem dX5_goOver_58 : decode cX5_goOver 58 = .ok (.iconst 0, 1) := by decide +kernel
theorem dX5_goOver_59 : decode cX5_goOver 59 = .ok (.istore 5, 2) := by decide +kernel
theorem dX5_goOver_61 : decode cX5_goOver 61 = .ok (.iload 5, 2) := by decide +kernel
theorem dX5_goOver_63 : decode cX5_goOver 63 = .ok (.iload 4, 2) := by decide +kernel
theorem dX5_goOver_65 : decode cX5_goOver 65 = .ok (.if_icmp .ge 35, 3) := by decide +kernel
theorem dX5_goOver_68 : decode cX5_goOver 68 = .ok (.aload_n 0, 1) := by decide +kernel
theorem dX5_goOver_69 : decode cX5_goOver 69 = .ok (.iload_n 1, 1) := by decide +kernel
theorem dX5_goOver_70 : decode cX5_goOver 70 = .ok (.iload_n 2, 1) := by decide +kernel
theorem dX5_goOver_71 : decode cX5_goOver 71 = .ok (.aload_n 0, 1) := by decide +kernel
theorem dX5_goOver_72 : decode cX5_goOver 72 = .ok (.getfield 78, 3) := by decide +kernel
theorem dX5_goOver_75 : decode cX5_goOver 75 = .ok (.iconst 2, 1) := by decide +kernel
theorem dX5_goOver_76 : decode cX5_goOver 76 = .ok (.iload 5, 2) := by decide +kernel
theorem dX5_goOver_78 : decode cX5_goOver 78 = .ok (.imul, 1) := by decide +kernel
theorem dX5_goOver_79 : decode cX5_goOver 79 = .ok (.iaload, 1) := by decide +kernel
theorem dX5_goOver_80 : decode cX5_goOver 80 = .ok (.aload_n 0, 1) := by decide +kernel
theorem dX5_goOver_81 : decode cX5_goOver 81 = .ok (.getfield 78, 3) := by decide +kernel
theorem dX5_goOver_84 : decode cX5_goOver 84 = .ok (.iconst 2, 1) := by decide +kernel
theorem dX5_goOver_85 : decode cX5_goOver 85 = .ok (.iload 5, 2) := by decide +kernel
theorem dX5_goOver_87 : decode cX5_goOver 87 = .ok (.imul, 1) := by decide +kernel
theorem dX5_goOver_88 : decode cX5_goOver 88 = .ok (.iconst 1, 1) := by decide +kernel
theorem dX5_goOver_89 : decode cX5_goOver 89 = .ok (.iadd, 1) := by decide +kernel
theorem dX5_goOver_90 : decode cX5_goOver 90 = .ok (.iaload, 1) := by decide +kernel
theorem dX5_goOver_91 : decode cX5_goOver 91 = .ok (.invokevirtual 121, 3) := by decide +kernel
theorem dX5_goOver_94 : decode cX5_goOver 94 = .ok (.iinc 5 1, 3) := by decide +kernel
theorem dX5_goOver_97 : decode cX5_goOver 97 = .ok (.goto (-36), 3) := by decide +kernel
theorem dX5_goOver_100 : decode cX5_goOver 100 = .ok (.return_, 1) := by decide +kernel
set_option maxRecDepth 20000 in
theorem ggX5_asked_X5_place : GoodIn wsX5_asked wsX5_place := goodIn_r _ [13] (by decide +kernel) (by decide +kernel)
set_option maxRecDepth 20000 in
theorem gX5_asked_X5_place : GoodIn wsX5_asked (va_wsS RX5 92 yX5_place wsX5_place) := goodIn_app (goodIn_of _ (by decide +kernel)) ggX5_asked_X5_place
set_option maxRecDepth 20000 in
theorem ggX5_asked_X5_send : GoodIn wsX5_asked wsX5_send := goodIn_r _ [17, 18, 19, 20, 21, 6, 10, 11, 12, 13, 22, 23, 24, 25, 26, 27, 28, 29, 30, 31, 32, 33, 34, 35, 36, 37, 38, 39, 40, 41, 42, 43, 44, 45, 46] (by decide +kernel) (by decide +kernel)
set_option maxRecDepth 20000 in
theorem gX5_asked_X5_send : GoodIn wsX5_asked (wsV RX5 113 RX5 yX5_send wsX5_send) := goodIn_app (goodIn_of _ (by decide +kernel)) ggX5_asked_X5_send
theorem dX5_asked_0 : decode cX5_asked 0 = .ok (.iload_n 1, 1) := by decide +kernel
theorem dX5_asked_1 : decode cX5_asked 1 = .ok (.iload_n 2, 1) := by decide +kernel
theorem dX5_asked_2 : decode cX5_asked 2 = .ok (.invokestatic 92, 3) := by decide +kernel
theorem dX5_asked_5 : decode cX5_asked 5 = .ok (.istore 5, 2) := by decide +kernel
theorem dX5_asked_7 : decode cX5_asked 7 = .ok (.aload_n 0, 1) := by decide +kernel
theorem dX5_asked_8 : decode cX5_asked 8 = .ok (.getfield 33, 3) := by decide +kernel
theorem dX5_asked_11 : decode cX5_asked 11 = .ok (.iload_n 1, 1) := by decide +kernel
theorem dX5_asked_12 : decode cX5_asked 12 = .ok (.iaload, 1) := by decide +kernel
theorem dX5_asked_13 : decode cX5_asked 13 = .ok (.iconst 2, 1) := by decide +kernel
theorem dX5_asked_14 : decode cX5_asked 14 = .ok (.if_icmp .lt 72, 3) := by decide +kernel
theorem dX5_asked_17 : decode cX5_asked 17 = .ok (.aload_n 0, 1) := by decide +kernel
theorem dX5_asked_18 : decode cX5_asked 18 = .ok (.getfield 36, 3) := by decide +kernel
theorem dX5_asked_21 : decode cX5_asked 21 = .ok (.iload_n 1, 1) := by decide +kernel
theorem dX5_asked_22 : decode cX5_asked 22 = .ok (.iaload, 1) := by decide +kernel
theorem dX5_asked_23 : decode cX5_asked 23 = .ok (.iload_n 2, 1) := by decide +kernel
theorem dX5_asked_24 : decode cX5_asked 24 = .ok (.if_icmp .ne 62, 3) := by decide +kernel
theorem dX5_asked_27 : decode cX5_asked 27 = .ok (.aload_n 0, 1) := by decide +kernel
theorem dX5_asked_28 : decode cX5_asked 28 = .ok (.getfield 27, 3) := by decide +kernel
theorem dX5_asked_31 : decode cX5_asked 31 = .ok (.bipush 20, 2) := by decide +kernel
theorem dX5_asked_33 : decode cX5_asked 33 = .ok (.iload 5, 2) := by decide +kernel
theorem dX5_asked_35 : decode cX5_asked 35 = .ok (.imul, 1) := by decide +kernel
theorem dX5_asked_36 : decode cX5_asked 36 = .ok (.iconst 2, 1) := by decide +kernel
theorem dX5_asked_37 : decode cX5_asked 37 = .ok (.aload_n 0, 1) := by decide +kernel
theorem dX5_asked_38 : decode cX5_asked 38 = .ok (.getfield 30, 3) := by decide +kernel
theorem dX5_asked_41 : decode cX5_asked 41 = .ok (.iload 5, 2) := by decide +kernel
theorem dX5_asked_43 : decode cX5_asked 43 = .ok (.iaload, 1) := by decide +kernel
theorem dX5_asked_44 : decode cX5_asked 44 = .ok (.imul, 1) := by decide +kernel
theorem dX5_asked_45 : decode cX5_asked 45 = .ok (.iadd, 1) := by decide +kernel
theorem dX5_asked_46 : decode cX5_asked 46 = .ok (.iload_n 3, 1) := by decide +kernel
theorem dX5_asked_47 : decode cX5_asked 47 = .ok (.iastore, 1) := by decide +kernel
theorem dX5_asked_48 : decode cX5_asked 48 = .ok (.aload_n 0, 1) := by decide +kernel
theorem dX5_asked_49 : decode cX5_asked 49 = .ok (.getfield 27, 3) := by decide +kernel
theorem dX5_asked_52 : decode cX5_asked 52 = .ok (.bipush 20, 2) := by decide +kernel
theorem dX5_asked_54 : decode cX5_asked 54 = .ok (.iload 5, 2) := by decide +kernel
theorem dX5_asked_56 : decode cX5_asked 56 = .ok (.imul, 1) := by decide +kernel
theorem dX5_asked_57 : decode cX5_asked 57 = .ok (.iconst 2, 1) := by decide +kernel
theorem dX5_asked_58 : decode cX5_asked 58 = .ok (.aload_n 0, 1) := by decide +kernel
theorem dX5_asked_59 : decode cX5_asked 59 = .ok (.getfield 30, 3) := by decide +kernel
theorem dX5_asked_62 : decode cX5_asked 62 = .ok (.iload 5, 2) := by decide +kernel
theorem dX5_asked_64 : decode cX5_asked 64 = .ok (.iaload, 1) := by decide +kernel
theorem dX5_asked_65 : decode cX5_asked 65 = .ok (.imul, 1) := by decide +kernel
theorem dX5_asked_66 : decode cX5_asked 66 = .ok (.iadd, 1) := by decide +kernel
theorem dX5_asked_67 : decode cX5_asked 67 = .ok (.iconst 1, 1) := by decide +kernel
theorem dX5_asked_68 : decode cX5_asked 68 = .ok (.iadd, 1) := by decide +kernel
theorem dX5_asked_69 : decode cX5_asked 69 = .ok (.iload 4, 2) := by decide +kernel
theorem dX5_asked_71 : decode cX5_asked 71 = .ok (.iastore, 1) := by decide +kernel
theorem dX5_asked_72 : decode cX5_asked 72 = .ok (.aload_n 0, 1) := by decide +kernel
theorem dX5_asked_73 : decode cX5_asked 73 = .ok (.getfield 30, 3) := by decide +kernel
theorem dX5_asked_76 : decode cX5_asked 76 = .ok (.iload 5, 2) := by decide +kernel
theorem dX5_asked_78 : decode cX5_asked 78 = .ok (.dup2, 1) := by decide +kernel
theorem dX5_asked_79 : decode cX5_asked 79 = .ok (.iaload, 1) := by decide +kernel
theorem dX5_asked_80 : decode cX5_asked 80 = .ok (.iconst 1, 1) := by decide +kernel
theorem dX5_asked_81 : decode cX5_asked 81 = .ok (.iadd, 1) := by decide +kernel
theorem dX5_asked_82 : decode cX5_asked 82 = .ok (.iastore, 1) := by decide +kernel
theorem dX5_asked_83 : decode cX5_asked 83 = .ok (.goto 178, 3) := by decide +kernel
theorem dX5_asked_86 : decode cX5_asked 86 = .ok (.aload_n 0, 1) := by decide +kernel
theorem dX5_asked_87 : decode cX5_asked 87 = .ok (.getfield 13, 3) := by decide +kernel
theorem dX5_asked_90 : decode cX5_asked 90 = .ok (.iload 5, 2) := by decide +kernel
theorem dX5_asked_92 : decode cX5_asked 92 = .ok (.baload, 1) := by decide +kernel
theorem dX5_asked_93 : decode cX5_asked 93 = .ok (.ifCond .ne 57, 3) := by decide +kernel
theorem dX5_asked_96 : decode cX5_asked 96 = .ok (.aload_n 0, 1) := by decide +kernel
theorem dX5_asked_97 : decode cX5_asked 97 = .ok (.getfield 69, 3) := by decide +kernel
theorem dX5_asked_100 : decode cX5_asked 100 = .ok (.iconst 2, 1) := by decide +kernel
theorem dX5_asked_101 : decode cX5_asked 101 = .ok (.dup2, 1) := by decide +kernel
theorem dX5_asked_102 : decode cX5_asked 102 = .ok (.iaload, 1) := by decide +kernel
theorem dX5_asked_103 : decode cX5_asked 103 = .ok (.iconst 1, 1) := by decide +kernel
theorem dX5_asked_104 : decode cX5_asked 104 = .ok (.iadd, 1) := by decide +kernel
theorem dX5_asked_105 : decode cX5_asked 105 = .ok (.iastore, 1) := by decide +kernel
theorem dX5_asked_106 : decode cX5_asked 106 = .ok (.aload_n 0, 1) := by decide +kernel
theorem dX5_asked_107 : decode cX5_asked 107 = .ok (.iload_n 3, 1) := by decide +kernel
theorem dX5_asked_108 : decode cX5_asked 108 = .ok (.iload_n 1, 1) := by decide +kernel
theorem dX5_asked_109 : decode cX5_asked 109 = .ok (.aload_n 0, 1) := by decide +kernel
theorem dX5_asked_110 : decode cX5_asked 110 = .ok (.getfield 17, 3) := by decide +kernel
theorem dX5_asked_113 : decode cX5_asked 113 = .ok (.iload 5, 2) := by decide +kernel
theorem dX5_asked_115 : decode cX5_asked 115 = .ok (.iaload, 1) := by decide +kernel
theorem dX5_asked_116 : decode cX5_asked 116 = .ok (.iload_n 2, 1) := by decide +kernel
theorem dX5_asked_117 : decode cX5_asked 117 = .ok (.iload 4, 2) := by decide +kernel
theorem dX5_asked_119 : decode cX5_asked 119 = .ok (.iconst 0, 1) := by decide +kernel
theorem dX5_asked_120 : decode cX5_asked 120 = .ok (.invokevirtual 113, 3) := by decide +kernel
theorem dX5_asked_123 : decode cX5_asked 123 = .ok (.aload_n 0, 1) := by decide +kernel
theorem dX5_asked_124 : decode cX5_asked 124 = .ok (.getfield 17, 3) := by decide +kernel
theorem dX5_asked_127 : decode cX5_asked 127 = .ok (.iload 5, 2) := by decide +kernel
theorem dX5_asked_129 : decode cX5_asked 129 = .ok (.iload_n 3, 1) := by decide +kernel
theorem dX5_asked_130 : decode cX5_asked 130 = .ok (.iconst 2, 1) := by decide +kernel
theorem dX5_asked_131 : decode cX5_asked 131 = .ok (.if_icmp .ne 8, 3) := by decide +kernel
theorem dX5_asked_134 : decode cX5_asked 134 = .ok (.iload 4, 2) := by decide +kernel
theorem dX5_asked_136 : decode cX5_asked 136 = .ok (.goto 10, 3) := by decide +kernel
theorem dX5_asked_139 : decode cX5_asked 139 = .ok (.aload_n 0, 1) := by decide +kernel
theorem dX5_asked_140 : decode cX5_asked 140 = .ok (.getfield 17, 3) := by decide +kernel
theorem dX5_asked_143 : decode cX5_asked 143 = .ok (.iload 5, 2) := by decide +kernel
theorem dX5_asked_145 : decode cX5_asked 145 = .ok (.iaload, 1) := by decide +kernel
theorem dX5_asked_146 : decode cX5_asked 146 = .ok (.iastore, 1) := by decide +kernel
theorem dX5_asked_147 : decode cX5_asked 147 = .ok (.goto 114, 3) := by decide +kernel
theorem dX5_asked_150 : decode cX5_asked 150 = .ok (.iload_n 3, 1) := by decide +kernel
theorem dX5_asked_151 : decode cX5_asked 151 = .ok (.iconst 1, 1) := by decide +kernel
theorem dX5_asked_152 : decode cX5_asked 152 = .ok (.if_icmp .ne 49, 3) := by decide +kernel
theorem dX5_asked_155 : decode cX5_asked 155 = .ok (.aload_n 0, 1) := by decide +kernel
theorem dX5_asked_156 : decode cX5_asked 156 = .ok (.getfield 20, 3) := by decide +kernel
theorem dX5_asked_159 : decode cX5_asked 159 = .ok (.iload 5, 2) := by decide +kernel
theorem dX5_asked_161 : decode cX5_asked 161 = .ok (.dup2, 1) := by decide +kernel
theorem dX5_asked_162 : decode cX5_asked 162 = .ok (.iaload, 1) := by decide +kernel
theorem dX5_asked_163 : decode cX5_asked 163 = .ok (.iconst 1, 1) := by decide +kernel
theorem dX5_asked_164 : decode cX5_asked 164 = .ok (.iload 4, 2) := by decide +kernel
theorem dX5_asked_166 : decode cX5_asked 166 = .ok (.ishl, 1) := by decide +kernel
theorem dX5_asked_167 : decode cX5_asked 167 = .ok (.ior, 1) := by decide +kernel
theorem dX5_asked_168 : decode cX5_asked 168 = .ok (.iastore, 1) := by decide +kernel
theorem dX5_asked_169 : decode cX5_asked 169 = .ok (.aload_n 0, 1) := by decide +kernel
theorem dX5_asked_170 : decode cX5_asked 170 = .ok (.getfield 7, 3) := by decide +kernel
theorem dX5_asked_173 : decode cX5_asked 173 = .ok (.iload 5, 2) := by decide +kernel
theorem dX5_asked_175 : decode cX5_asked 175 = .ok (.iconst 1, 1) := by decide +kernel
theorem dX5_asked_176 : decode cX5_asked 176 = .ok (.iastore, 1) := by decide +kernel
theorem dX5_asked_177 : decode cX5_asked 177 = .ok (.aload_n 0, 1) := by decide +kernel
theorem dX5_asked_178 : decode cX5_asked 178 = .ok (.getfield 69, 3) := by decide +kernel
theorem dX5_asked_181 : decode cX5_asked 181 = .ok (.iconst 3, 1) := by decide +kernel
theorem dX5_asked_182 : decode cX5_asked 182 = .ok (.dup2, 1) := by decide +kernel
theorem dX5_asked_183 : decode cX5_asked 183 = .ok (.iaload, 1) := by decide +kernel
theorem dX5_asked_184 : decode cX5_asked 184 = .ok (.iconst 1, 1) := by decide +kernel
theorem dX5_asked_185 : decode cX5_asked 185 = .ok (.iadd, 1) := by decide +kernel
theorem dX5_asked_186 : decode cX5_asked 186 = .ok (.iastore, 1) := by decide +kernel
theorem dX5_asked_187 : decode cX5_asked 187 = .ok (.aload_n 0, 1) := by decide +kernel
theorem dX5_asked_188 : decode cX5_asked 188 = .ok (.iconst 3, 1) := by decide +kernel
theorem dX5_asked_189 : decode cX5_asked 189 = .ok (.iload_n 1, 1) := by decide +kernel
theorem dX5_asked_190 : decode cX5_asked 190 = .ok (.iload 4, 2) := by decide +kernel
theorem dX5_asked_192 : decode cX5_asked 192 = .ok (.iload_n 2, 1) := by decide +kernel
theorem dX5_asked_193 : decode cX5_asked 193 = .ok (.iconst (-1), 1) := by decide +kernel
theorem dX5_asked_194 : decode cX5_asked 194 = .ok (.iconst 0, 1) := by decide +kernel
theorem dX5_asked_195 : decode cX5_asked 195 = .ok (.invokevirtual 113, 3) := by decide +kernel
theorem dX5_asked_198 : decode cX5_asked 198 = .ok (.goto 63, 3) := by decide +kernel
theorem dX5_asked_201 : decode cX5_asked 201 = .ok (.aload_n 0, 1) := by decide +kernel
theorem dX5_asked_202 : decode cX5_asked 202 = .ok (.getfield 69, 3) := by decide +kernel
theorem dX5_asked_205 : decode cX5_asked 205 = .ok (.iconst 4, 1) := by decide +kernel
theorem dX5_asked_206 : decode cX5_asked 206 = .ok (.dup2, 1) := by decide +kernel
theorem dX5_asked_207 : decode cX5_asked 207 = .ok (.iaload, 1) := by decide +kernel
theorem dX5_asked_208 : decode cX5_asked 208 = .ok (.iconst 1, 1) := by decide +kernel
theorem dX5_asked_209 : decode cX5_asked 209 = .ok (.iadd, 1) := by decide +kernel
theorem dX5_asked_210 : decode cX5_asked 210 = .ok (.iastore, 1) := by decide +kernel
theorem dX5_asked_211 : decode cX5_asked 211 = .ok (.aload_n 0, 1) := by decide +kernel
theorem dX5_asked_212 : decode cX5_asked 212 = .ok (.iconst 4, 1) := by decide +kernel
theorem dX5_asked_213 : decode cX5_asked 213 = .ok (.iload_n 1, 1) := by decide +kernel
theorem dX5_asked_214 : decode cX5_asked 214 = .ok (.iload 4, 2) := by decide +kernel
theorem dX5_asked_216 : decode cX5_asked 216 = .ok (.iload_n 2, 1) := by decide +kernel
theorem dX5_asked_217 : decode cX5_asked 217 = .ok (.iconst (-1), 1) := by decide +kernel
theorem dX5_asked_218 : decode cX5_asked 218 = .ok (.aload_n 0, 1) := by decide +kernel
theorem dX5_asked_219 : decode cX5_asked 219 = .ok (.getfield 20, 3) := by decide +kernel
theorem dX5_asked_222 : decode cX5_asked 222 = .ok (.iload 5, 2) := by decide +kernel
theorem dX5_asked_224 : decode cX5_asked 224 = .ok (.iaload, 1) := by decide +kernel
theorem dX5_asked_225 : decode cX5_asked 225 = .ok (.invokevirtual 113, 3) := by decide +kernel
theorem dX5_asked_228 : decode cX5_asked 228 = .ok (.aload_n 0, 1) := by decide +kernel
theorem dX5_asked_229 : decode cX5_asked 229 = .ok (.getfield 13, 3) := by decide +kernel
theorem dX5_asked_232 : decode cX5_asked 232 = .ok (.iload 5, 2) := by decide +kernel
theorem dX5_asked_234 : decode cX5_asked 234 = .ok (.iconst 0, 1) := by decide +kernel
theorem dX5_asked_235 : decode cX5_asked 235 = .ok (.bastore, 1) := by decide +kernel
theorem dX5_asked_236 : decode cX5_asked 236 = .ok (.aload_n 0, 1) := by decide +kernel
theorem dX5_asked_237 : decode cX5_asked 237 = .ok (.getfield 20, 3) := by decide +kernel
theorem dX5_asked_240 : decode cX5_asked 240 = .ok (.iload 5, 2) := by decide +kernel
theorem dX5_asked_242 : decode cX5_asked 242 = .ok (.iconst 0, 1) := by decide +kernel
theorem dX5_asked_243 : decode cX5_asked 243 = .ok (.iastore, 1) := by decide +kernel
theorem dX5_asked_244 : decode cX5_asked 244 = .ok (.aload_n 0, 1) := by decide +kernel
theorem dX5_asked_245 : decode cX5_asked 245 = .ok (.getfield 7, 3) := by decide +kernel
theorem dX5_asked_248 : decode cX5_asked 248 = .ok (.iload 5, 2) := by decide +kernel
theorem dX5_asked_250 : decode cX5_asked 250 = .ok (.iconst 0, 1) := by decide +kernel
theorem dX5_asked_251 : decode cX5_asked 251 = .ok (.iastore, 1) := by decide +kernel
theorem dX5_asked_252 : decode cX5_asked 252 = .ok (.aload_n 0, 1) := by decide +kernel
theorem dX5_asked_253 : decode cX5_asked 253 = .ok (.getfield 17, 3) := by decide +kernel
theorem dX5_asked_256 : decode cX5_asked 256 = .ok (.iload 5, 2) := by decide +kernel
theorem dX5_asked_258 : decode cX5_asked 258 = .ok (.iload 4, 2) := by decide +kernel
theorem dX5_asked_260 : decode cX5_asked 260 = .ok (.iastore, 1) := by decide +kernel
theorem dX5_asked_261 : decode cX5_asked 261 = .ok (.return_, 1) := by decide +kernel
set_option maxRecDepth 20000 in
theorem ggX5_deliver_X5_drop : GoodIn wsX5_deliver wsX5_drop := goodIn_r _ [18, 1, 3, 5, 57, 58, 59, 60, 61, 62, 63, 64, 65, 66, 67, 68, 69, 70, 71, 72, 73, 74, 75, 76, 77, 78, 79, 80, 81] (by decide +kernel) (by decide +kernel)
set_option maxRecDepth 20000 in
theorem gX5_deliver_X5_drop : GoodIn wsX5_deliver (wsV RX5 125 RX5 yX5_drop wsX5_drop) := goodIn_app (goodIn_of _ (by decide +kernel)) ggX5_deliver_X5_drop
set_option maxRecDepth 20000 in
theorem ggX5_deliver_X5_place : GoodIn wsX5_deliver wsX5_place := goodIn_r _ [21] (by decide +kernel) (by decide +kernel)
set_option maxRecDepth 20000 in
theorem gX5_deliver_X5_place : GoodIn wsX5_deliver (va_wsS RX5 92 yX5_place wsX5_place) := goodIn_app (goodIn_of _ (by decide +kernel)) ggX5_deliver_X5_place
set_option maxRecDepth 20000 in
theorem ggX5_deliver_X5_asked : GoodIn wsX5_deliver wsX5_asked := goodIn_r _ [25, 11, 12, 26, 27, 10, 28, 6, 9, 7, 19, 20, 17, 21, 29, 30, 31, 32, 1, 3, 5, 33, 57, 58, 59, 60, 61, 62, 63, 64, 65, 66, 67, 68, 69, 70, 71, 72, 73, 74, 75, 76, 77, 78, 79, 80, 81] (by decide +kernel) (by decide +kernel)
set_option maxRecDepth 20000 in
theorem gX5_deliver_X5_asked : GoodIn wsX5_deliver (wsV RX5 121 RX5 yX5_asked wsX5_asked) := goodIn_app (goodIn_of _ (by decide +kernel)) ggX5_deliver_X5_asked
set_option maxRecDepth 20000 in
theorem ggX5_deliver_X5_takeWords : GoodIn wsX5_deliver wsX5_takeWords := goodIn_r _ [37, 33, 4, 57, 58, 59, 60, 61, 62, 63, 64, 65, 66, 67, 68, 69, 70, 71, 72, 73, 74, 75, 76, 77, 78, 79, 80, 81] (by decide +kernel) (by decide +kernel)
set_option maxRecDepth 20000 in
theorem gX5_deliver_X5_takeWords : GoodIn wsX5_deliver (wsV RX5 128 RX5 yX5_takeWords wsX5_takeWords) := goodIn_app (goodIn_of _ (by decide +kernel)) ggX5_deliver_X5_takeWords
set_option maxRecDepth 20000 in
theorem ggX5_deliver_X5_finish : GoodIn wsX5_deliver wsX5_finish := goodIn_r _ [41, 12, 42, 43, 33, 44, 45, 11, 46, 28, 19, 20, 17, 21, 57, 58, 59, 60, 61, 62, 63, 64, 65, 66, 67, 68, 69, 70, 71, 72, 73, 74, 75, 76, 77, 78, 79, 80, 81] (by decide +kernel) (by decide +kernel)
set_option maxRecDepth 20000 in
theorem gX5_deliver_X5_finish : GoodIn wsX5_deliver (wsV RX5 106 RX5 yX5_finish wsX5_finish) := goodIn_app (goodIn_of _ (by decide +kernel)) ggX5_deliver_X5_finish
set_option maxRecDepth 20000 in
theorem ggX5_deliver_X5_callBack : GoodIn wsX5_deliver wsX5_callBack := goodIn_r _ [50, 12, 51, 9, 28, 13, 7, 11, 19, 20, 17, 21, 29, 30, 31, 32, 1, 3, 5, 33, 38, 39, 40, 41, 42, 43, 44, 45, 46, 57, 58, 59, 60, 61, 62, 63, 64, 65, 66, 67, 68, 69, 70, 71, 72, 73, 74, 75, 76, 77, 78, 79, 80, 81] (by decide +kernel) (by decide +kernel)
set_option maxRecDepth 20000 in
theorem gX5_deliver_X5_callBack : GoodIn wsX5_deliver (wsV RX5 110 RX5 yX5_callBack wsX5_callBack) := goodIn_app (goodIn_of _ (by decide +kernel)) ggX5_deliver_X5_callBack
set_option maxRecDepth 20000 in
theorem ggX5_deliver_X5_goOver : GoodIn wsX5_deliver wsX5_goOver := goodIn_r _ [55, 27, 56, 26, 19, 20, 17, 21, 22, 23, 24, 25, 11, 12, 10, 28, 6, 9, 7, 29, 30, 31, 32, 1, 3, 5, 33, 57, 58, 59, 60, 61, 62, 63, 64, 65, 66, 67, 68, 69, 70, 71, 72, 73, 74, 75, 76, 77, 78, 79, 80, 81] (by decide +kernel) (by decide +kernel)
set_option maxRecDepth 20000 in
theorem gX5_deliver_X5_goOver : GoodIn wsX5_deliver (wsV RX5 131 RX5 yX5_goOver wsX5_goOver) := goodIn_app (goodIn_of _ (by decide +kernel)) ggX5_deliver_X5_goOver
set_option maxRecDepth 20000 in
theorem ggX5_deliver_X5_send : GoodIn wsX5_deliver wsX5_send := goodIn_r _ [32, 1, 3, 5, 33, 28, 19, 20, 17, 21, 57, 58, 59, 60, 61, 62, 63, 64, 65, 66, 67, 68, 69, 70, 71, 72, 73, 74, 75, 76, 77, 78, 79, 80, 81] (by decide +kernel) (by decide +kernel)
set_option maxRecDepth 20000 in
theorem gX5_deliver_X5_send : GoodIn wsX5_deliver (wsV RX5 113 RX5 yX5_send wsX5_send) := goodIn_app (goodIn_of _ (by decide +kernel)) ggX5_deliver_X5_send
theorem dX5_deliver_0 : decode cX5_deliver 0 = .ok (.iload_n 1, 1) := by decide +kernel
theorem dX5_deliver_1 : decode cX5_deliver 1 = .ok (.ifCond .lt 11, 3) := by decide +kernel
theorem dX5_deliver_4 : decode cX5_deliver 4 = .ok (.iload_n 1, 1) := by decide +kernel
theorem dX5_deliver_5 : decode cX5_deliver 5 = .ok (.aload_n 0, 1) := by decide +kernel
theorem dX5_deliver_6 : decode cX5_deliver 6 = .ok (.getfield 89, 3) := by decide +kernel
theorem dX5_deliver_9 : decode cX5_deliver 9 = .ok (.if_icmp .lt 5, 3) := by decide +kernel
theorem dX5_deliver_12 : decode cX5_deliver 12 = .ok (.iconst (-1), 1) := by decide +kernel
theorem dX5_deliver_13 : decode cX5_deliver 13 = .ok (.ireturn, 1) := by decide +kernel
theorem dX5_deliver_14 : decode cX5_deliver 14 = .ok (.iconst 0, 1) := by decide +kernel
theorem dX5_deliver_15 : decode cX5_deliver 15 = .ok (.istore_n 2, 1) := by decide +kernel
theorem dX5_deliver_16 : decode cX5_deliver 16 = .ok (.iload_n 2, 1) := by decide +kernel
theorem dX5_deliver_17 : decode cX5_deliver 17 = .ok (.bipush 7, 2) := by decide +kernel
theorem dX5_deliver_19 : decode cX5_deliver 19 = .ok (.if_icmp .ge 26, 3) := by decide +kernel
theorem dX5_deliver_22 : decode cX5_deliver 22 = .ok (.aload_n 0, 1) := by decide +kernel
theorem dX5_deliver_23 : decode cX5_deliver 23 = .ok (.getfield 72, 3) := by decide +kernel
theorem dX5_deliver_26 : decode cX5_deliver 26 = .ok (.iload_n 2, 1) := by decide +kernel
theorem dX5_deliver_27 : decode cX5_deliver 27 = .ok (.aload_n 0, 1) := by decide +kernel
theorem dX5_deliver_28 : decode cX5_deliver 28 = .ok (.getfield 63, 3) := by decide +kernel
theorem dX5_deliver_31 : decode cX5_deliver 31 = .ok (.bipush 7, 2) := by decide +kernel
theorem dX5_deliver_33 : decode cX5_deliver 33 = .ok (.iload_n 1, 1) := by decide +kernel
theorem dX5_deliver_34 : decode cX5_deliver 34 = .ok (.imul, 1) := by decide +kernel
theorem dX5_deliver_35 : decode cX5_deliver 35 = .ok (.iload_n 2, 1) := by decide +kernel
theorem dX5_deliver_36 : decode cX5_deliver 36 = .ok (.iadd, 1) := by decide +kernel
theorem dX5_deliver_37 : decode cX5_deliver 37 = .ok (.iaload, 1) := by decide +kernel
theorem dX5_deliver_38 : decode cX5_deliver 38 = .ok (.iastore, 1) := by decide +kernel
theorem dX5_deliver_39 : decode cX5_deliver 39 = .ok (.iinc 2 1, 3) := by decide +kernel
theorem dX5_deliver_42 : decode cX5_deliver 42 = .ok (.goto (-26), 3) := by decide +kernel
theorem dX5_deliver_45 : decode cX5_deliver 45 = .ok (.iconst 0, 1) := by decide +kernel
theorem dX5_deliver_46 : decode cX5_deliver 46 = .ok (.istore_n 2, 1) := by decide +kernel
theorem dX5_deliver_47 : decode cX5_deliver 47 = .ok (.iload_n 2, 1) := by decide +kernel
theorem dX5_deliver_48 : decode cX5_deliver 48 = .ok (.iconst 4, 1) := by decide +kernel
theorem dX5_deliver_49 : decode cX5_deliver 49 = .ok (.if_icmp .ge 25, 3) := by decide +kernel
theorem dX5_deliver_52 : decode cX5_deliver 52 = .ok (.aload_n 0, 1) := by decide +kernel
theorem dX5_deliver_53 : decode cX5_deliver 53 = .ok (.getfield 75, 3) := by decide +kernel
theorem dX5_deliver_56 : decode cX5_deliver 56 = .ok (.iload_n 2, 1) := by decide +kernel
theorem dX5_deliver_57 : decode cX5_deliver 57 = .ok (.aload_n 0, 1) := by decide +kernel
theorem dX5_deliver_58 : decode cX5_deliver 58 = .ok (.getfield 66, 3) := by decide +kernel
theorem dX5_deliver_61 : decode cX5_deliver 61 = .ok (.iconst 4, 1) := by decide +kernel
theorem dX5_deliver_62 : decode cX5_deliver 62 = .ok (.iload_n 1, 1) := by decide +kernel
theorem dX5_deliver_63 : decode cX5_deliver 63 = .ok (.imul, 1) := by decide +kernel
theorem dX5_deliver_64 : decode cX5_deliver 64 = .ok (.iload_n 2, 1) := by decide +kernel
theorem dX5_deliver_65 : decode cX5_deliver 65 = .ok (.iadd, 1) := by decide +kernel
theorem dX5_deliver_66 : decode cX5_deliver 66 = .ok (.laload, 1) := by decide +kernel
theorem dX5_deliver_67 : decode cX5_deliver 67 = .ok (.lastore, 1) := by decide +kernel
theorem dX5_deliver_68 : decode cX5_deliver 68 = .ok (.iinc 2 1, 3) := by decide +kernel
theorem dX5_deliver_71 : decode cX5_deliver 71 = .ok (.goto (-24), 3) := by decide +kernel
theorem dX5_deliver_74 : decode cX5_deliver 74 = .ok (.aload_n 0, 1) := by decide +kernel
theorem dX5_deliver_75 : decode cX5_deliver 75 = .ok (.iload_n 1, 1) := by decide +kernel
theorem dX5_deliver_76 : decode cX5_deliver 76 = .ok (.invokevirtual 125, 3) := by decide +kernel
theorem dX5_deliver_79 : decode cX5_deliver 79 = .ok (.aload_n 0, 1) := by decide +kernel
theorem dX5_deliver_80 : decode cX5_deliver 80 = .ok (.getfield 72, 3) := by decide +kernel
theorem dX5_deliver_83 : decode cX5_deliver 83 = .ok (.iconst 0, 1) := by decide +kernel
theorem dX5_deliver_84 : decode cX5_deliver 84 = .ok (.iaload, 1) := by decide +kernel
theorem dX5_deliver_85 : decode cX5_deliver 85 = .ok (.istore_n 2, 1) := by decide +kernel
theorem dX5_deliver_86 : decode cX5_deliver 86 = .ok (.aload_n 0, 1) := by decide +kernel
theorem dX5_deliver_87 : decode cX5_deliver 87 = .ok (.getfield 72, 3) := by decide +kernel
theorem dX5_deliver_90 : decode cX5_deliver 90 = .ok (.iconst 1, 1) := by decide +kernel
theorem dX5_deliver_91 : decode cX5_deliver 91 = .ok (.iaload, 1) := by decide +kernel
theorem dX5_deliver_92 : decode cX5_deliver 92 = .ok (.istore_n 3, 1) := by decide +kernel
theorem dX5_deliver_93 : decode cX5_deliver 93 = .ok (.aload_n 0, 1) := by decide +kernel
theorem dX5_deliver_94 : decode cX5_deliver 94 = .ok (.getfield 72, 3) := by decide +kernel
theorem dX5_deliver_97 : decode cX5_deliver 97 = .ok (.iconst 2, 1) := by decide +kernel
theorem dX5_deliver_98 : decode cX5_deliver 98 = .ok (.iaload, 1) := by decide +kernel
theorem dX5_deliver_99 : decode cX5_deliver 99 = .ok (.istore 4, 2) := by decide +kernel
theorem dX5_deliver_101 : decode cX5_deliver 101 = .ok (.aload_n 0, 1) := by decide +kernel
theorem dX5_deliver_102 : decode cX5_deliver 102 = .ok (.getfield 72, 3) := by decide +kernel
theorem dX5_deliver_105 : decode cX5_deliver 105 = .ok (.iconst 3, 1) := by decide +kernel
theorem dX5_deliver_106 : decode cX5_deliver 106 = .ok (.iaload, 1) := by decide +kernel
theorem dX5_deliver_107 : decode cX5_deliver 107 = .ok (.istore 5, 2) := by decide +kernel
theorem dX5_deliver_109 : decode cX5_deliver 109 = .ok (.iload 4, 2) := by decide +kernel
theorem dX5_deliver_111 : decode cX5_deliver 111 = .ok (.iload 5, 2) := by decide +kernel
theorem dX5_deliver_113 : decode cX5_deliver 113 = .ok (.invokestatic 92, 3) := by decide +kernel
theorem dX5_deliver_116 : decode cX5_deliver 116 = .ok (.istore 6, 2) := by decide +kernel
theorem dX5_deliver_118 : decode cX5_deliver 118 = .ok (.iload_n 2, 1) := by decide +kernel
theorem dX5_deliver_119 : decode cX5_deliver 119 = .ok (.tableswitch 229 1 5 #[33, 33, 51, 96, 159], 33) := by decide +kernel
theorem dX5_deliver_152 : decode cX5_deliver 152 = .ok (.aload_n 0, 1) := by decide +kernel
theorem dX5_deliver_153 : decode cX5_deliver 153 = .ok (.iload 4, 2) := by decide +kernel
theorem dX5_deliver_155 : decode cX5_deliver 155 = .ok (.iload 5, 2) := by decide +kernel
theorem dX5_deliver_157 : decode cX5_deliver 157 = .ok (.iload_n 2, 1) := by decide +kernel
theorem dX5_deliver_158 : decode cX5_deliver 158 = .ok (.aload_n 0, 1) := by decide +kernel
theorem dX5_deliver_159 : decode cX5_deliver 159 = .ok (.getfield 72, 3) := by decide +kernel
theorem dX5_deliver_162 : decode cX5_deliver 162 = .ok (.iconst 4, 1) := by decide +kernel
theorem dX5_deliver_163 : decode cX5_deliver 163 = .ok (.iaload, 1) := by decide +kernel
theorem dX5_deliver_164 : decode cX5_deliver 164 = .ok (.invokevirtual 121, 3) := by decide +kernel
theorem dX5_deliver_167 : decode cX5_deliver 167 = .ok (.goto 224, 3) := by decide +kernel
theorem dX5_deliver_170 : decode cX5_deliver 170 = .ok (.aload_n 0, 1) := by decide +kernel
theorem dX5_deliver_171 : decode cX5_deliver 171 = .ok (.iload 6, 2) := by decide +kernel
theorem dX5_deliver_173 : decode cX5_deliver 173 = .ok (.invokevirtual 128, 3) := by decide +kernel
theorem dX5_deliver_176 : decode cX5_deliver 176 = .ok (.aload_n 0, 1) := by decide +kernel
theorem dX5_deliver_177 : decode cX5_deliver 177 = .ok (.getfield 17, 3) := by decide +kernel
theorem dX5_deliver_180 : decode cX5_deliver 180 = .ok (.iload 6, 2) := by decide +kernel
theorem dX5_deliver_182 : decode cX5_deliver 182 = .ok (.iload_n 3, 1) := by decide +kernel
theorem dX5_deliver_183 : decode cX5_deliver 183 = .ok (.iastore, 1) := by decide +kernel
theorem dX5_deliver_184 : decode cX5_deliver 184 = .ok (.aload_n 0, 1) := by decide +kernel
theorem dX5_deliver_185 : decode cX5_deliver 185 = .ok (.getfield 7, 3) := by decide +kernel
theorem dX5_deliver_188 : decode cX5_deliver 188 = .ok (.iload 6, 2) := by decide +kernel
theorem dX5_deliver_190 : decode cX5_deliver 190 = .ok (.aload_n 0, 1) := by decide +kernel
theorem dX5_deliver_191 : decode cX5_deliver 191 = .ok (.getfield 51, 3) := by decide +kernel
theorem dX5_deliver_194 : decode cX5_deliver 194 = .ok (.iload 4, 2) := by decide +kernel
theorem dX5_deliver_196 : decode cX5_deliver 196 = .ok (.baload, 1) := by decide +kernel
theorem dX5_deliver_197 : decode cX5_deliver 197 = .ok (.ifCond .eq 7, 3) := by decide +kernel
theorem dX5_deliver_200 : decode cX5_deliver 200 = .ok (.iconst 0, 1) := by decide +kernel
theorem dX5_deliver_201 : decode cX5_deliver 201 = .ok (.goto 4, 3) := by decide +kernel
theorem dX5_deliver_204 : decode cX5_deliver 204 = .ok (.iconst 1, 1) := by decide +kernel
theorem dX5_deliver_205 : decode cX5_deliver 205 = .ok (.iastore, 1) := by decide +kernel
theorem dX5_deliver_206 : decode cX5_deliver 206 = .ok (.aload_n 0, 1) := by decide +kernel
theorem dX5_deliver_207 : decode cX5_deliver 207 = .ok (.iload 4, 2) := by decide +kernel
theorem dX5_deliver_209 : decode cX5_deliver 209 = .ok (.invokevirtual 106, 3) := by decide +kernel
theorem dX5_deliver_212 : decode cX5_deliver 212 = .ok (.goto 179, 3) := by decide +kernel
theorem dX5_deliver_215 : decode cX5_deliver 215 = .ok (.aload_n 0, 1) := by decide +kernel
theorem dX5_deliver_216 : decode cX5_deliver 216 = .ok (.iload 6, 2) := by decide +kernel
theorem dX5_deliver_218 : decode cX5_deliver 218 = .ok (.invokevirtual 128, 3) := by decide +kernel
theorem dX5_deliver_221 : decode cX5_deliver 221 = .ok (.aload_n 0, 1) := by decide +kernel
theorem dX5_deliver_222 : decode cX5_deliver 222 = .ok (.getfield 20, 3) := by decide +kernel
theorem dX5_deliver_225 : decode cX5_deliver 225 = .ok (.iload 6, 2) := by decide +kernel
theorem dX5_deliver_227 : decode cX5_deliver 227 = .ok (.aload_n 0, 1) := by decide +kernel
theorem dX5_deliver_228 : decode cX5_deliver 228 = .ok (.getfield 72, 3) := by decide +kernel
theorem dX5_deliver_231 : decode cX5_deliver 231 = .ok (.iconst 5, 1) := by decide +kernel
theorem dX5_deliver_232 : decode cX5_deliver 232 = .ok (.iaload, 1) := by decide +kernel
theorem dX5_deliver_233 : decode cX5_deliver 233 = .ok (.iconst 1, 1) := by decide +kernel
theorem dX5_deliver_234 : decode cX5_deliver 234 = .ok (.iload 4, 2) := by decide +kernel
theorem dX5_deliver_236 : decode cX5_deliver 236 = .ok (.ishl, 1) := by decide +kernel
theorem dX5_deliver_237 : decode cX5_deliver 237 = .ok (.iconst (-1), 1) := by decide +kernel
theorem dX5_deliver_238 : decode cX5_deliver 238 = .ok (.ixor, 1) := by decide +kernel
theorem dX5_deliver_239 : decode cX5_deliver 239 = .ok (.iand, 1) := by decide +kernel
theorem dX5_deliver_240 : decode cX5_deliver 240 = .ok (.iastore, 1) := by decide +kernel
theorem dX5_deliver_241 : decode cX5_deliver 241 = .ok (.aload_n 0, 1) := by decide +kernel
theorem dX5_deliver_242 : decode cX5_deliver 242 = .ok (.getfield 13, 3) := by decide +kernel
theorem dX5_deliver_245 : decode cX5_deliver 245 = .ok (.iload 6, 2) := by decide +kernel
theorem dX5_deliver_247 : decode cX5_deliver 247 = .ok (.iconst 1, 1) := by decide +kernel
theorem dX5_deliver_248 : decode cX5_deliver 248 = .ok (.bastore, 1) := by decide +kernel
theorem dX5_deliver_249 : decode cX5_deliver 249 = .ok (.aload_n 0, 1) := by decide +kernel
theorem dX5_deliver_250 : decode cX5_deliver 250 = .ok (.getfield 17, 3) := by decide +kernel
theorem dX5_deliver_253 : decode cX5_deliver 253 = .ok (.iload 6, 2) := by decide +kernel
theorem dX5_deliver_255 : decode cX5_deliver 255 = .ok (.iload 4, 2) := by decide +kernel
theorem dX5_deliver_257 : decode cX5_deliver 257 = .ok (.iastore, 1) := by decide +kernel
theorem dX5_deliver_258 : decode cX5_deliver 258 = .ok (.aload_n 0, 1) := by decide +kernel
theorem dX5_deliver_259 : decode cX5_deliver 259 = .ok (.iload 4, 2) := by decide +kernel
theorem dX5_deliver_261 : decode cX5_deliver 261 = .ok (.invokevirtual 110, 3) := by decide +kernel
theorem dX5_deliver_264 : decode cX5_deliver 264 = .ok (.ifCond .eq 127, 3) := by decide +kernel
theorem dX5_deliver_267 : decode cX5_deliver 267 = .ok (.aload_n 0, 1) := by decide +kernel
theorem dX5_deliver_268 : decode cX5_deliver 268 = .ok (.iload 4, 2) := by decide +kernel
theorem dX5_deliver_270 : decode cX5_deliver 270 = .ok (.iload 5, 2) := by decide +kernel
theorem dX5_deliver_272 : decode cX5_deliver 272 = .ok (.invokevirtual 131, 3) := by decide +kernel
theorem dX5_deliver_275 : decode cX5_deliver 275 = .ok (.goto 116, 3) := by decide +kernel
theorem dX5_deliver_278 : decode cX5_deliver 278 = .ok (.aload_n 0, 1) := by decide +kernel
theorem dX5_deliver_279 : decode cX5_deliver 279 = .ok (.getfield 7, 3) := by decide +kernel
theorem dX5_deliver_282 : decode cX5_deliver 282 = .ok (.iload 6, 2) := by decide +kernel
theorem dX5_deliver_284 : decode cX5_deliver 284 = .ok (.iconst 0, 1) := by decide +kernel
theorem dX5_deliver_285 : decode cX5_deliver 285 = .ok (.iastore, 1) := by decide +kernel
theorem dX5_deliver_286 : decode cX5_deliver 286 = .ok (.aload_n 0, 1) := by decide +kernel
theorem dX5_deliver_287 : decode cX5_deliver 287 = .ok (.getfield 17, 3) := by decide +kernel
theorem dX5_deliver_290 : decode cX5_deliver 290 = .ok (.iload 6, 2) := by decide +kernel
theorem dX5_deliver_292 : decode cX5_deliver 292 = .ok (.iload_n 3, 1) := by decide +kernel
theorem dX5_deliver_293 : decode cX5_deliver 293 = .ok (.iastore, 1) := by decide +kernel
theorem dX5_deliver_294 : decode cX5_deliver 294 = .ok (.aload_n 0, 1) := by decide +kernel
theorem dX5_deliver_295 : decode cX5_deliver 295 = .ok (.getfield 51, 3) := by decide +kernel
theorem dX5_deliver_298 : decode cX5_deliver 298 = .ok (.iload 4, 2) := by decide +kernel
theorem dX5_deliver_300 : decode cX5_deliver 300 = .ok (.dup2, 1) := by decide +kernel
theorem dX5_deliver_301 : decode cX5_deliver 301 = .ok (.baload, 1) := by decide +kernel
theorem dX5_deliver_302 : decode cX5_deliver 302 = .ok (.aload_n 0, 1) := by decide +kernel
theorem dX5_deliver_303 : decode cX5_deliver 303 = .ok (.getfield 33, 3) := by decide +kernel
theorem dX5_deliver_306 : decode cX5_deliver 306 = .ok (.iload 4, 2) := by decide +kernel
theorem dX5_deliver_308 : decode cX5_deliver 308 = .ok (.iaload, 1) := by decide +kernel
theorem dX5_deliver_309 : decode cX5_deliver 309 = .ok (.iconst 1, 1) := by decide +kernel
theorem dX5_deliver_310 : decode cX5_deliver 310 = .ok (.if_icmp .ne 19, 3) := by decide +kernel
theorem dX5_deliver_313 : decode cX5_deliver 313 = .ok (.aload_n 0, 1) := by decide +kernel
theorem dX5_deliver_314 : decode cX5_deliver 314 = .ok (.getfield 36, 3) := by decide +kernel
theorem dX5_deliver_317 : decode cX5_deliver 317 = .ok (.iload 4, 2) := by decide +kernel
theorem dX5_deliver_319 : decode cX5_deliver 319 = .ok (.iaload, 1) := by decide +kernel
theorem dX5_deliver_320 : decode cX5_deliver 320 = .ok (.iload 5, 2) := by decide +kernel
theorem dX5_deliver_322 : decode cX5_deliver 322 = .ok (.if_icmp .ne 7, 3) := by decide +kernel
theorem dX5_deliver_325 : decode cX5_deliver 325 = .ok (.iconst 1, 1) := by decide +kernel
theorem dX5_deliver_326 : decode cX5_deliver 326 = .ok (.goto 4, 3) := by decide +kernel
theorem dX5_deliver_329 : decode cX5_deliver 329 = .ok (.iconst 0, 1) := by decide +kernel
theorem dX5_deliver_330 : decode cX5_deliver 330 = .ok (.ior, 1) := by decide +kernel
theorem dX5_deliver_331 : decode cX5_deliver 331 = .ok (.bastore, 1) := by decide +kernel
theorem dX5_deliver_332 : decode cX5_deliver 332 = .ok (.aload_n 0, 1) := by decide +kernel
theorem dX5_deliver_333 : decode cX5_deliver 333 = .ok (.bipush 6, 2) := by decide +kernel
theorem dX5_deliver_335 : decode cX5_deliver 335 = .ok (.iload 4, 2) := by decide +kernel
theorem dX5_deliver_337 : decode cX5_deliver 337 = .ok (.iload_n 3, 1) := by decide +kernel
theorem dX5_deliver_338 : decode cX5_deliver 338 = .ok (.iload 5, 2) := by decide +kernel
theorem dX5_deliver_340 : decode cX5_deliver 340 = .ok (.iconst (-1), 1) := by decide +kernel
theorem dX5_deliver_341 : decode cX5_deliver 341 = .ok (.iconst 0, 1) := by decide +kernel
theorem dX5_deliver_342 : decode cX5_deliver 342 = .ok (.invokevirtual 113, 3) := by decide +kernel
theorem dX5_deliver_345 : decode cX5_deliver 345 = .ok (.goto 46, 3) := by decide +kernel
theorem dX5_deliver_348 : decode cX5_deliver 348 = .ok (.aload_n 0, 1) := by decide +kernel
theorem dX5_deliver_349 : decode cX5_deliver 349 = .ok (.getfield 48, 3) := by decide +kernel
theorem dX5_deliver_352 : decode cX5_deliver 352 = .ok (.iload 4, 2) := by decide +kernel
theorem dX5_deliver_354 : decode cX5_deliver 354 = .ok (.dup2, 1) := by decide +kernel
theorem dX5_deliver_355 : decode cX5_deliver 355 = .ok (.iaload, 1) := by decide +kernel
theorem dX5_deliver_356 : decode cX5_deliver 356 = .ok (.iconst 1, 1) := by decide +kernel
theorem dX5_deliver_357 : decode cX5_deliver 357 = .ok (.isub, 1) := by decide +kernel
theorem dX5_deliver_358 : decode cX5_deliver 358 = .ok (.iastore, 1) := by decide +kernel
theorem dX5_deliver_359 : decode cX5_deliver 359 = .ok (.aload_n 0, 1) := by decide +kernel
theorem dX5_deliver_360 : decode cX5_deliver 360 = .ok (.getfield 48, 3) := by decide +kernel
theorem dX5_deliver_363 : decode cX5_deliver 363 = .ok (.iload 4, 2) := by decide +kernel
theorem dX5_deliver_365 : decode cX5_deliver 365 = .ok (.iaload, 1) := by decide +kernel
theorem dX5_deliver_366 : decode cX5_deliver 366 = .ok (.ifCond .ne 25, 3) := by decide +kernel
theorem dX5_deliver_369 : decode cX5_deliver 369 = .ok (.aload_n 0, 1) := by decide +kernel
theorem dX5_deliver_370 : decode cX5_deliver 370 = .ok (.getfield 7, 3) := by decide +kernel
theorem dX5_deliver_373 : decode cX5_deliver 373 = .ok (.iload 6, 2) := by decide +kernel
theorem dX5_deliver_375 : decode cX5_deliver 375 = .ok (.iconst 2, 1) := by decide +kernel
theorem dX5_deliver_376 : decode cX5_deliver 376 = .ok (.iastore, 1) := by decide +kernel
theorem dX5_deliver_377 : decode cX5_deliver 377 = .ok (.aload_n 0, 1) := by decide +kernel
theorem dX5_deliver_378 : decode cX5_deliver 378 = .ok (.iload 4, 2) := by decide +kernel
theorem dX5_deliver_380 : decode cX5_deliver 380 = .ok (.invokevirtual 106, 3) := by decide +kernel
theorem dX5_deliver_383 : decode cX5_deliver 383 = .ok (.aload_n 0, 1) := by decide +kernel
theorem dX5_deliver_384 : decode cX5_deliver 384 = .ok (.iload 4, 2) := by decide +kernel
theorem dX5_deliver_386 : decode cX5_deliver 386 = .ok (.iload 5, 2) := by decide +kernel
theorem dX5_deliver_388 : decode cX5_deliver 388 = .ok (.invokevirtual 131, 3) := by decide +kernel
theorem dX5_deliver_391 : decode cX5_deliver 391 = .ok (.iload_n 2, 1) := by decide +kernel
theorem dX5_deliver_392 : decode cX5_deliver 392 = .ok (.ireturn, 1) := by decide +kernel
theorem dX5_takeWords_0 : decode cX5_takeWords 0 = .ok (.iconst 0, 1) := by decide +kernel
theorem dX5_takeWords_1 : decode cX5_takeWords 1 = .ok (.istore_n 2, 1) := by decide +kernel
theorem dX5_takeWords_2 : decode cX5_takeWords 2 = .ok (.iload_n 2, 1) := by decide +kernel
theorem dX5_takeWords_3 : decode cX5_takeWords 3 = .ok (.iconst 4, 1) := by decide +kernel
theorem dX5_takeWords_4 : decode cX5_takeWords 4 = .ok (.if_icmp .ge 25, 3) := by decide +kernel
theorem dX5_takeWords_7 : decode cX5_takeWords 7 = .ok (.aload_n 0, 1) := by decide +kernel
theorem dX5_takeWords_8 : decode cX5_takeWords 8 = .ok (.getfield 23, 3) := by decide +kernel
theorem dX5_takeWords_11 : decode cX5_takeWords 11 = .ok (.iconst 4, 1) := by decide +kernel
theorem dX5_takeWords_12 : decode cX5_takeWords 12 = .ok (.iload_n 1, 1) := by decide +kernel
theorem dX5_takeWords_13 : decode cX5_takeWords 13 = .ok (.imul, 1) := by decide +kernel
theorem dX5_takeWords_14 : decode cX5_takeWords 14 = .ok (.iload_n 2, 1) := by decide +kernel
theorem dX5_takeWords_15 : decode cX5_takeWords 15 = .ok (.iadd, 1) := by decide +kernel
theorem dX5_takeWords_16 : decode cX5_takeWords 16 = .ok (.aload_n 0, 1) := by decide +kernel
theorem dX5_takeWords_17 : decode cX5_takeWords 17 = .ok (.getfield 75, 3) := by decide +kernel
theorem dX5_takeWords_20 : decode cX5_takeWords 20 = .ok (.iload_n 2, 1) := by decide +kernel
theorem dX5_takeWords_21 : decode cX5_takeWords 21 = .ok (.laload, 1) := by decide +kernel
theorem dX5_takeWords_22 : decode cX5_takeWords 22 = .ok (.lastore, 1) := by decide +kernel
theorem dX5_takeWords_23 : decode cX5_takeWords 23 = .ok (.iinc 2 1, 3) := by decide +kernel
theorem dX5_takeWords_26 : decode cX5_takeWords 26 = .ok (.goto (-24), 3) := by decide +kernel
theorem dX5_takeWords_29 : decode cX5_takeWords 29 = .ok (.return_, 1) := by decide +kernel
set_option maxRecDepth 20000 in
theorem ggX5_waits_X5_isNode : GoodIn wsX5_waits wsX5_isNode := goodIn_r _ [6, 7, 8, 9, 10, 11, 12, 13, 14, 15, 16, 17, 18, 19, 20, 21, 22, 23, 24, 25, 26, 27, 28, 29, 30, 31, 32] (by decide +kernel) (by decide +kernel)
set_option maxRecDepth 20000 in
theorem gX5_waits_X5_isNode : GoodIn wsX5_waits (wsV RX5 96 RX5 yX5_isNode wsX5_isNode) := goodIn_app (goodIn_of _ (by decide +kernel)) ggX5_waits_X5_isNode
theorem dX5_waits_0 : decode cX5_waits 0 = .ok (.aload_n 0, 1) := by decide +kernel
theorem dX5_waits_1 : decode cX5_waits 1 = .ok (.iload_n 1, 1) := by decide +kernel
theorem dX5_waits_2 : decode cX5_waits 2 = .ok (.invokevirtual 96, 3) := by decide +kernel
theorem dX5_waits_5 : decode cX5_waits 5 = .ok (.ifCond .eq 12, 3) := by decide +kernel
theorem dX5_waits_8 : decode cX5_waits 8 = .ok (.aload_n 0, 1) := by decide +kernel
theorem dX5_waits_9 : decode cX5_waits 9 = .ok (.getfield 33, 3) := by decide +kernel
theorem dX5_waits_12 : decode cX5_waits 12 = .ok (.iload_n 1, 1) := by decide +kernel
theorem dX5_waits_13 : decode cX5_waits 13 = .ok (.iaload, 1) := by decide +kernel
theorem dX5_waits_14 : decode cX5_waits 14 = .ok (.goto 4, 3) := by decide +kernel
theorem dX5_waits_17 : decode cX5_waits 17 = .ok (.iconst (-1), 1) := by decide +kernel
theorem dX5_waits_18 : decode cX5_waits 18 = .ok (.ireturn, 1) := by decide +kernel
set_option maxRecDepth 20000 in
theorem ggX5_at_X5_isNode : GoodIn wsX5_at wsX5_isNode := goodIn_r _ [12, 13, 14, 15, 16, 17, 18, 19, 20, 21, 22, 23, 24, 25, 26, 27, 28, 29, 30, 31, 32, 33, 34, 35, 36, 37, 38] (by decide +kernel) (by decide +kernel)
set_option maxRecDepth 20000 in
theorem gX5_at_X5_isNode : GoodIn wsX5_at (wsV RX5 96 RX5 yX5_isNode wsX5_isNode) := goodIn_app (goodIn_of _ (by decide +kernel)) ggX5_at_X5_isNode
theorem dX5_at_0 : decode cX5_at 0 = .ok (.aload_n 0, 1) := by decide +kernel
theorem dX5_at_1 : decode cX5_at 1 = .ok (.iload_n 1, 1) := by decide +kernel
theorem dX5_at_2 : decode cX5_at 2 = .ok (.invokevirtual 96, 3) := by decide +kernel
theorem dX5_at_5 : decode cX5_at 5 = .ok (.ifCond .eq 17, 3) := by decide +kernel
theorem dX5_at_8 : decode cX5_at 8 = .ok (.iload_n 2, 1) := by decide +kernel
theorem dX5_at_9 : decode cX5_at 9 = .ok (.iconst 4, 1) := by decide +kernel
theorem dX5_at_10 : decode cX5_at 10 = .ok (.if_icmp .eq 14, 3) := by decide +kernel
theorem dX5_at_13 : decode cX5_at 13 = .ok (.aload_n 0, 1) := by decide +kernel
theorem dX5_at_14 : decode cX5_at 14 = .ok (.getfield 54, 3) := by decide +kernel
theorem dX5_at_17 : decode cX5_at 17 = .ok (.iload_n 1, 1) := by decide +kernel
theorem dX5_at_18 : decode cX5_at 18 = .ok (.baload, 1) := by decide +kernel
theorem dX5_at_19 : decode cX5_at 19 = .ok (.ifCond .ne 5, 3) := by decide +kernel
theorem dX5_at_22 : decode cX5_at 22 = .ok (.iconst (-1), 1) := by decide +kernel
theorem dX5_at_23 : decode cX5_at 23 = .ok (.ireturn, 1) := by decide +kernel
theorem dX5_at_24 : decode cX5_at 24 = .ok (.iload_n 2, 1) := by decide +kernel
theorem dX5_at_25 : decode cX5_at 25 = .ok (.tableswitch 92 0 4 #[35, 42, 49, 64, 85], 35) := by decide +kernel
theorem dX5_at_60 : decode cX5_at 60 = .ok (.aload_n 0, 1) := by decide +kernel
theorem dX5_at_61 : decode cX5_at 61 = .ok (.getfield 36, 3) := by decide +kernel
theorem dX5_at_64 : decode cX5_at 64 = .ok (.iload_n 1, 1) := by decide +kernel
theorem dX5_at_65 : decode cX5_at 65 = .ok (.iaload, 1) := by decide +kernel
theorem dX5_at_66 : decode cX5_at 66 = .ok (.ireturn, 1) := by decide +kernel
theorem dX5_at_67 : decode cX5_at 67 = .ok (.aload_n 0, 1) := by decide +kernel
theorem dX5_at_68 : decode cX5_at 68 = .ok (.getfield 39, 3) := by decide +kernel
theorem dX5_at_71 : decode cX5_at 71 = .ok (.iload_n 1, 1) := by decide +kernel
theorem dX5_at_72 : decode cX5_at 72 = .ok (.iaload, 1) := by decide +kernel
theorem dX5_at_73 : decode cX5_at 73 = .ok (.ireturn, 1) := by decide +kernel
theorem dX5_at_74 : decode cX5_at 74 = .ok (.aload_n 0, 1) := by decide +kernel
theorem dX5_at_75 : decode cX5_at 75 = .ok (.getfield 42, 3) := by decide +kernel
theorem dX5_at_78 : decode cX5_at 78 = .ok (.iload_n 1, 1) := by decide +kernel
theorem dX5_at_79 : decode cX5_at 79 = .ok (.baload, 1) := by decide +kernel
theorem dX5_at_80 : decode cX5_at 80 = .ok (.ifCond .eq 7, 3) := by decide +kernel
theorem dX5_at_83 : decode cX5_at 83 = .ok (.iconst 1, 1) := by decide +kernel
theorem dX5_at_84 : decode cX5_at 84 = .ok (.goto 4, 3) := by decide +kernel
theorem dX5_at_87 : decode cX5_at 87 = .ok (.iconst 0, 1) := by decide +kernel
theorem dX5_at_88 : decode cX5_at 88 = .ok (.ireturn, 1) := by decide +kernel
theorem dX5_at_89 : decode cX5_at 89 = .ok (.aload_n 0, 1) := by decide +kernel
theorem dX5_at_90 : decode cX5_at 90 = .ok (.getfield 33, 3) := by decide +kernel
theorem dX5_at_93 : decode cX5_at 93 = .ok (.iload_n 1, 1) := by decide +kernel
theorem dX5_at_94 : decode cX5_at 94 = .ok (.iaload, 1) := by decide +kernel
theorem dX5_at_95 : decode cX5_at 95 = .ok (.iconst 3, 1) := by decide +kernel
theorem dX5_at_96 : decode cX5_at 96 = .ok (.if_icmp .ne 12, 3) := by decide +kernel
theorem dX5_at_99 : decode cX5_at 99 = .ok (.aload_n 0, 1) := by decide +kernel
theorem dX5_at_100 : decode cX5_at 100 = .ok (.getfield 48, 3) := by decide +kernel
theorem dX5_at_103 : decode cX5_at 103 = .ok (.iload_n 1, 1) := by decide +kernel
theorem dX5_at_104 : decode cX5_at 104 = .ok (.iaload, 1) := by decide +kernel
theorem dX5_at_105 : decode cX5_at 105 = .ok (.goto 4, 3) := by decide +kernel
theorem dX5_at_108 : decode cX5_at 108 = .ok (.iconst 0, 1) := by decide +kernel
theorem dX5_at_109 : decode cX5_at 109 = .ok (.ireturn, 1) := by decide +kernel
theorem dX5_at_110 : decode cX5_at 110 = .ok (.aload_n 0, 1) := by decide +kernel
theorem dX5_at_111 : decode cX5_at 111 = .ok (.getfield 57, 3) := by decide +kernel
theorem dX5_at_114 : decode cX5_at 114 = .ok (.iload_n 1, 1) := by decide +kernel
theorem dX5_at_115 : decode cX5_at 115 = .ok (.iaload, 1) := by decide +kernel
theorem dX5_at_116 : decode cX5_at 116 = .ok (.ireturn, 1) := by decide +kernel
theorem dX5_at_117 : decode cX5_at 117 = .ok (.iconst (-1), 1) := by decide +kernel
theorem dX5_at_118 : decode cX5_at 118 = .ok (.ireturn, 1) := by decide +kernel
set_option maxRecDepth 20000 in
theorem ggX5_result_X5_isNode : GoodIn wsX5_result wsX5_isNode := goodIn_r _ [6, 7, 8, 9, 10, 11, 12, 13, 14, 15, 16, 17, 18, 19, 20, 21, 22, 23, 24, 25, 26, 27, 28, 29, 30, 31, 32] (by decide +kernel) (by decide +kernel)
set_option maxRecDepth 20000 in
theorem gX5_result_X5_isNode : GoodIn wsX5_result (wsV RX5 96 RX5 yX5_isNode wsX5_isNode) := goodIn_app (goodIn_of _ (by decide +kernel)) ggX5_result_X5_isNode
theorem dX5_result_0 : decode cX5_result 0 = .ok (.aload_n 0, 1) := by decide +kernel
theorem dX5_result_1 : decode cX5_result 1 = .ok (.iload_n 1, 1) := by decide +kernel
theorem dX5_result_2 : decode cX5_result 2 = .ok (.invokevirtual 96, 3) := by decide +kernel
theorem dX5_result_5 : decode cX5_result 5 = .ok (.ifCond .eq 12, 3) := by decide +kernel
theorem dX5_result_8 : decode cX5_result 8 = .ok (.aload_n 0, 1) := by decide +kernel
theorem dX5_result_9 : decode cX5_result 9 = .ok (.getfield 60, 3) := by decide +kernel
theorem dX5_result_12 : decode cX5_result 12 = .ok (.iload_n 1, 1) := by decide +kernel
theorem dX5_result_13 : decode cX5_result 13 = .ok (.laload, 1) := by decide +kernel
theorem dX5_result_14 : decode cX5_result 14 = .ok (.goto 4, 3) := by decide +kernel
theorem dX5_result_17 : decode cX5_result 17 = .ok (.lconst 0, 1) := by decide +kernel
theorem dX5_result_18 : decode cX5_result 18 = .ok (.lreturn, 1) := by decide +kernel
set_option maxRecDepth 20000 in
theorem ggX5_isPlace_X5_isNode : GoodIn wsX5_isPlace wsX5_isNode := goodIn_r _ [5, 6, 10, 11, 12, 13, 14, 15, 16, 17, 18, 19, 20, 21, 22, 23, 24, 25, 26, 27, 28, 29, 30, 31, 32, 33, 34] (by decide +kernel) (by decide +kernel)
set_option maxRecDepth 20000 in
theorem gX5_isPlace_X5_isNode : GoodIn wsX5_isPlace (wsV RX5 96 RX5 yX5_isNode wsX5_isNode) := goodIn_app (goodIn_of _ (by decide +kernel)) ggX5_isPlace_X5_isNode
set_option maxRecDepth 20000 in
theorem ggX5_isPlace_X5_isPage : GoodIn wsX5_isPlace wsX5_isPage := goodIn_r _ [9] (by decide +kernel) (by decide +kernel)
set_option maxRecDepth 20000 in
theorem gX5_isPlace_X5_isPage : GoodIn wsX5_isPlace (va_wsS RX5 99 yX5_isPage wsX5_isPage) := goodIn_app (goodIn_of _ (by decide +kernel)) ggX5_isPlace_X5_isPage
theorem dX5_isPlace_0 : decode cX5_isPlace 0 = .ok (.aload_n 0, 1) := by decide +kernel
theorem dX5_isPlace_1 : decode cX5_isPlace 1 = .ok (.iload_n 1, 1) := by decide +kernel
theorem dX5_isPlace_2 : decode cX5_isPlace 2 = .ok (.invokevirtual 96, 3) := by decide +kernel
theorem dX5_isPlace_5 : decode cX5_isPlace 5 = .ok (.ifCond .eq 14, 3) := by decide +kernel
theorem dX5_isPlace_8 : decode cX5_isPlace 8 = .ok (.iload_n 2, 1) := by decide +kernel
theorem dX5_isPlace_9 : decode cX5_isPlace 9 = .ok (.invokestatic 99, 3) := by decide +kernel
theorem dX5_isPlace_12 : decode cX5_isPlace 12 = .ok (.ifCond .eq 7, 3) := by decide +kernel
theorem dX5_isPlace_15 : decode cX5_isPlace 15 = .ok (.iconst 1, 1) := by decide +kernel
theorem dX5_isPlace_16 : decode cX5_isPlace 16 = .ok (.goto 4, 3) := by decide +kernel
theorem dX5_isPlace_19 : decode cX5_isPlace 19 = .ok (.iconst 0, 1) := by decide +kernel
theorem dX5_isPlace_20 : decode cX5_isPlace 20 = .ok (.ireturn, 1) := by decide +kernel
set_option maxRecDepth 20000 in
theorem ggX5_access_X5_isPlace : GoodIn wsX5_access wsX5_isPlace := goodIn_r _ [6, 7, 8, 9, 5, 10, 11, 12, 13, 14, 18, 19, 20, 21, 22, 23, 24, 25, 26, 27, 28, 29, 30, 31, 32, 33, 34, 35, 36, 37, 38, 39, 40, 41, 42] (by decide +kernel) (by decide +kernel)
set_option maxRecDepth 20000 in
theorem gX5_access_X5_isPlace : GoodIn wsX5_access (wsV RX5 135 RX5 yX5_isPlace wsX5_isPlace) := goodIn_app (goodIn_of _ (by decide +kernel)) ggX5_access_X5_isPlace
set_option maxRecDepth 20000 in
theorem ggX5_access_X5_place : GoodIn wsX5_access wsX5_place := goodIn_r _ [17] (by decide +kernel) (by decide +kernel)
set_option maxRecDepth 20000 in
theorem gX5_access_X5_place : GoodIn wsX5_access (va_wsS RX5 92 yX5_place wsX5_place) := goodIn_app (goodIn_of _ (by decide +kernel)) ggX5_access_X5_place
theorem dX5_access_0 : decode cX5_access 0 = .ok (.aload_n 0, 1) := by decide +kernel
theorem dX5_access_1 : decode cX5_access 1 = .ok (.iload_n 1, 1) := by decide +kernel
theorem dX5_access_2 : decode cX5_access 2 = .ok (.iload_n 2, 1) := by decide +kernel
theorem dX5_access_3 : decode cX5_access 3 = .ok (.invokevirtual 135, 3) := by decide +kernel
theorem dX5_access_6 : decode cX5_access 6 = .ok (.ifCond .eq 16, 3) := by decide +kernel
theorem dX5_access_9 : decode cX5_access 9 = .ok (.aload_n 0, 1) := by decide +kernel
theorem dX5_access_10 : decode cX5_access 10 = .ok (.getfield 7, 3) := by decide +kernel
theorem dX5_access_13 : decode cX5_access 13 = .ok (.iload_n 1, 1) := by decide +kernel
theorem dX5_access_14 : decode cX5_access 14 = .ok (.iload_n 2, 1) := by decide +kernel
theorem dX5_access_15 : decode cX5_access 15 = .ok (.invokestatic 92, 3) := by decide +kernel
theorem dX5_access_18 : decode cX5_access 18 = .ok (.iaload, 1) := by decide +kernel
theorem dX5_access_19 : decode cX5_access 19 = .ok (.goto 4, 3) := by decide +kernel
theorem dX5_access_22 : decode cX5_access 22 = .ok (.iconst (-1), 1) := by decide +kernel
theorem dX5_access_23 : decode cX5_access 23 = .ok (.ireturn, 1) := by decide +kernel
set_option maxRecDepth 20000 in
theorem ggX5_owner_X5_isPage : GoodIn wsX5_owner wsX5_isPage := goodIn_r _ [6] (by decide +kernel) (by decide +kernel)
set_option maxRecDepth 20000 in
theorem gX5_owner_X5_isPage : GoodIn wsX5_owner (va_wsS RX5 99 yX5_isPage wsX5_isPage) := goodIn_app (goodIn_of _ (by decide +kernel)) ggX5_owner_X5_isPage
set_option maxRecDepth 20000 in
theorem ggX5_owner_X5_place : GoodIn wsX5_owner wsX5_place := goodIn_r _ [9] (by decide +kernel) (by decide +kernel)
set_option maxRecDepth 20000 in
theorem gX5_owner_X5_place : GoodIn wsX5_owner (va_wsS RX5 92 yX5_place wsX5_place) := goodIn_app (goodIn_of _ (by decide +kernel)) ggX5_owner_X5_place
theorem dX5_owner_0 : decode cX5_owner 0 = .ok (.iconst 0, 1) := by decide +kernel
theorem dX5_owner_1 : decode cX5_owner 1 = .ok (.istore_n 2, 1) := by decide +kernel
theorem dX5_owner_2 : decode cX5_owner 2 = .ok (.iload_n 2, 1) := by decide +kernel
theorem dX5_owner_3 : decode cX5_owner 3 = .ok (.aload_n 0, 1) := by decide +kernel
theorem dX5_owner_4 : decode cX5_owner 4 = .ok (.getfield 85, 3) := by decide +kernel
theorem dX5_owner_7 : decode cX5_owner 7 = .ok (.if_icmp .ge 31, 3) := by decide +kernel
theorem dX5_owner_10 : decode cX5_owner 10 = .ok (.iload_n 1, 1) := by decide +kernel
theorem dX5_owner_11 : decode cX5_owner 11 = .ok (.invokestatic 99, 3) := by decide +kernel
theorem dX5_owner_14 : decode cX5_owner 14 = .ok (.ifCond .eq 24, 3) := by decide +kernel
theorem dX5_owner_17 : decode cX5_owner 17 = .ok (.aload_n 0, 1) := by decide +kernel
theorem dX5_owner_18 : decode cX5_owner 18 = .ok (.getfield 13, 3) := by decide +kernel
theorem dX5_owner_21 : decode cX5_owner 21 = .ok (.iload_n 2, 1) := by decide +kernel
theorem dX5_owner_22 : decode cX5_owner 22 = .ok (.iload_n 1, 1) := by decide +kernel
theorem dX5_owner_23 : decode cX5_owner 23 = .ok (.invokestatic 92, 3) := by decide +kernel
theorem dX5_owner_26 : decode cX5_owner 26 = .ok (.baload, 1) := by decide +kernel
theorem dX5_owner_27 : decode cX5_owner 27 = .ok (.ifCond .eq 5, 3) := by decide +kernel
theorem dX5_owner_30 : decode cX5_owner 30 = .ok (.iload_n 2, 1) := by decide +kernel
theorem dX5_owner_31 : decode cX5_owner 31 = .ok (.ireturn, 1) := by decide +kernel
theorem dX5_owner_32 : decode cX5_owner 32 = .ok (.iinc 2 1, 3) := by decide +kernel
theorem dX5_owner_35 : decode cX5_owner 35 = .ok (.goto (-33), 3) := by decide +kernel
theorem dX5_owner_38 : decode cX5_owner 38 = .ok (.iconst (-1), 1) := by decide +kernel
theorem dX5_owner_39 : decode cX5_owner 39 = .ok (.ireturn, 1) := by decide +kernel
set_option maxRecDepth 20000 in
theorem ggX5_guess_X5_isPlace : GoodIn wsX5_guess wsX5_isPlace := goodIn_r _ [6, 7, 8, 9, 5, 10, 11, 12, 13, 14, 18, 19, 20, 21, 22, 23, 24, 25, 26, 27, 28, 29, 30, 31, 32, 33, 34, 35, 36, 37, 38, 39, 40, 41, 42] (by decide +kernel) (by decide +kernel)
set_option maxRecDepth 20000 in
theorem gX5_guess_X5_isPlace : GoodIn wsX5_guess (wsV RX5 135 RX5 yX5_isPlace wsX5_isPlace) := goodIn_app (goodIn_of _ (by decide +kernel)) ggX5_guess_X5_isPlace
set_option maxRecDepth 20000 in
theorem ggX5_guess_X5_place : GoodIn wsX5_guess wsX5_place := goodIn_r _ [17] (by decide +kernel) (by decide +kernel)
set_option maxRecDepth 20000 in
theorem gX5_guess_X5_place : GoodIn wsX5_guess (va_wsS RX5 92 yX5_place wsX5_place) := goodIn_app (goodIn_of _ (by decide +kernel)) ggX5_guess_X5_place
theorem dX5_guess_0 : decode cX5_guess 0 = .ok (.aload_n 0, 1) := by decide +kernel
theorem dX5_guess_1 : decode cX5_guess 1 = .ok (.iload_n 1, 1) := by decide +kernel
theorem dX5_guess_2 : decode cX5_guess 2 = .ok (.iload_n 2, 1) := by decide +kernel
theorem dX5_guess_3 : decode cX5_guess 3 = .ok (.invokevirtual 135, 3) := by decide +kernel
theorem dX5_guess_6 : decode cX5_guess 6 = .ok (.ifCond .eq 16, 3) := by decide +kernel
theorem dX5_guess_9 : decode cX5_guess 9 = .ok (.aload_n 0, 1) := by decide +kernel
theorem dX5_guess_10 : decode cX5_guess 10 = .ok (.getfield 17, 3) := by decide +kernel
theorem dX5_guess_13 : decode cX5_guess 13 = .ok (.iload_n 1, 1) := by decide +kernel
theorem dX5_guess_14 : decode cX5_guess 14 = .ok (.iload_n 2, 1) := by decide +kernel
theorem dX5_guess_15 : decode cX5_guess 15 = .ok (.invokestatic 92, 3) := by decide +kernel
theorem dX5_guess_18 : decode cX5_guess 18 = .ok (.iaload, 1) := by decide +kernel
theorem dX5_guess_19 : decode cX5_guess 19 = .ok (.goto 4, 3) := by decide +kernel
theorem dX5_guess_22 : decode cX5_guess 22 = .ok (.iconst (-1), 1) := by decide +kernel
theorem dX5_guess_23 : decode cX5_guess 23 = .ok (.ireturn, 1) := by decide +kernel
set_option maxRecDepth 20000 in
theorem ggX5_copies_X5_isPlace : GoodIn wsX5_copies wsX5_isPlace := goodIn_r _ [6, 7, 8, 9, 5, 10, 11, 12, 13, 14, 18, 19, 20, 21, 22, 23, 24, 25, 26, 27, 28, 29, 30, 31, 32, 33, 34, 35, 36, 37, 38, 39, 40, 41, 42] (by decide +kernel) (by decide +kernel)
set_option maxRecDepth 20000 in
theorem gX5_copies_X5_isPlace : GoodIn wsX5_copies (wsV RX5 135 RX5 yX5_isPlace wsX5_isPlace) := goodIn_app (goodIn_of _ (by decide +kernel)) ggX5_copies_X5_isPlace
set_option maxRecDepth 20000 in
theorem ggX5_copies_X5_place : GoodIn wsX5_copies wsX5_place := goodIn_r _ [17] (by decide +kernel) (by decide +kernel)
set_option maxRecDepth 20000 in
theorem gX5_copies_X5_place : GoodIn wsX5_copies (va_wsS RX5 92 yX5_place wsX5_place) := goodIn_app (goodIn_of _ (by decide +kernel)) ggX5_copies_X5_place
theorem dX5_copies_0 : decode cX5_copies 0 = .ok (.aload_n 0, 1) := by decide +kernel
theorem dX5_copies_1 : decode cX5_copies 1 = .ok (.iload_n 1, 1) := by decide +kernel
theorem dX5_copies_2 : decode cX5_copies 2 = .ok (.iload_n 2, 1) := by decide +kernel
theorem dX5_copies_3 : decode cX5_copies 3 = .ok (.invokevirtual 135, 3) := by decide +kernel
theorem dX5_copies_6 : decode cX5_copies 6 = .ok (.ifCond .eq 16, 3) := by decide +kernel
theorem dX5_copies_9 : decode cX5_copies 9 = .ok (.aload_n 0, 1) := by decide +kernel
theorem dX5_copies_10 : decode cX5_copies 10 = .ok (.getfield 20, 3) := by decide +kernel
theorem dX5_copies_13 : decode cX5_copies 13 = .ok (.iload_n 1, 1) := by decide +kernel
theorem dX5_copies_14 : decode cX5_copies 14 = .ok (.iload_n 2, 1) := by decide +kernel
theorem dX5_copies_15 : decode cX5_copies 15 = .ok (.invokestatic 92, 3) := by decide +kernel
theorem dX5_copies_18 : decode cX5_copies 18 = .ok (.iaload, 1) := by decide +kernel
theorem dX5_copies_19 : decode cX5_copies 19 = .ok (.goto 4, 3) := by decide +kernel
theorem dX5_copies_22 : decode cX5_copies 22 = .ok (.iconst (-1), 1) := by decide +kernel
theorem dX5_copies_23 : decode cX5_copies 23 = .ok (.ireturn, 1) := by decide +kernel
set_option maxRecDepth 20000 in
theorem ggX5_word_X5_isPlace : GoodIn wsX5_word wsX5_isPlace := goodIn_r _ [6, 7, 8, 9, 5, 10, 11, 12, 13, 14, 18, 19, 20, 21, 22, 23, 24, 25, 26, 27, 28, 29, 30, 31, 32, 33, 34, 35, 36, 37, 38, 39, 40, 41, 42] (by decide +kernel) (by decide +kernel)
set_option maxRecDepth 20000 in
theorem gX5_word_X5_isPlace : GoodIn wsX5_word (wsV RX5 135 RX5 yX5_isPlace wsX5_isPlace) := goodIn_app (goodIn_of _ (by decide +kernel)) ggX5_word_X5_isPlace
set_option maxRecDepth 20000 in
theorem ggX5_word_X5_place : GoodIn wsX5_word wsX5_place := goodIn_r _ [17] (by decide +kernel) (by decide +kernel)
set_option maxRecDepth 20000 in
theorem gX5_word_X5_place : GoodIn wsX5_word (va_wsS RX5 92 yX5_place wsX5_place) := goodIn_app (goodIn_of _ (by decide +kernel)) ggX5_word_X5_place
theorem dX5_word_0 : decode cX5_word 0 = .ok (.aload_n 0, 1) := by decide +kernel
theorem dX5_word_1 : decode cX5_word 1 = .ok (.iload_n 1, 1) := by decide +kernel
theorem dX5_word_2 : decode cX5_word 2 = .ok (.iload_n 2, 1) := by decide +kernel
theorem dX5_word_3 : decode cX5_word 3 = .ok (.invokevirtual 135, 3) := by decide +kernel
theorem dX5_word_6 : decode cX5_word 6 = .ok (.ifCond .eq 29, 3) := by decide +kernel
theorem dX5_word_9 : decode cX5_word 9 = .ok (.iload_n 3, 1) := by decide +kernel
theorem dX5_word_10 : decode cX5_word 10 = .ok (.ifCond .lt 25, 3) := by decide +kernel
theorem dX5_word_13 : decode cX5_word 13 = .ok (.iload_n 3, 1) := by decide +kernel
theorem dX5_word_14 : decode cX5_word 14 = .ok (.iconst 4, 1) := by decide +kernel
theorem dX5_word_15 : decode cX5_word 15 = .ok (.if_icmp .ge 20, 3) := by decide +kernel
theorem dX5_word_18 : decode cX5_word 18 = .ok (.aload_n 0, 1) := by decide +kernel
theorem dX5_word_19 : decode cX5_word 19 = .ok (.getfield 23, 3) := by decide +kernel
theorem dX5_word_22 : decode cX5_word 22 = .ok (.iconst 4, 1) := by decide +kernel
theorem dX5_word_23 : decode cX5_word 23 = .ok (.iload_n 1, 1) := by decide +kernel
theorem dX5_word_24 : decode cX5_word 24 = .ok (.iload_n 2, 1) := by decide +kernel
theorem dX5_word_25 : decode cX5_word 25 = .ok (.invokestatic 92, 3) := by decide +kernel
theorem dX5_word_28 : decode cX5_word 28 = .ok (.imul, 1) := by decide +kernel
theorem dX5_word_29 : decode cX5_word 29 = .ok (.iload_n 3, 1) := by decide +kernel
theorem dX5_word_30 : decode cX5_word 30 = .ok (.iadd, 1) := by decide +kernel
theorem dX5_word_31 : decode cX5_word 31 = .ok (.laload, 1) := by decide +kernel
theorem dX5_word_32 : decode cX5_word 32 = .ok (.goto 4, 3) := by decide +kernel
theorem dX5_word_35 : decode cX5_word 35 = .ok (.lconst 0, 1) := by decide +kernel
theorem dX5_word_36 : decode cX5_word 36 = .ok (.lreturn, 1) := by decide +kernel
set_option maxRecDepth 20000 in
theorem ggX5_queue_X5_isPlace : GoodIn wsX5_queue wsX5_isPlace := goodIn_r _ [6, 7, 8, 9, 5, 10, 11, 12, 13, 14, 18, 19, 20, 21, 22, 23, 24, 25, 26, 27, 28, 29, 30, 31, 32, 33, 34, 35, 36, 37, 38, 39, 40, 41, 42] (by decide +kernel) (by decide +kernel)
set_option maxRecDepth 20000 in
theorem gX5_queue_X5_isPlace : GoodIn wsX5_queue (wsV RX5 135 RX5 yX5_isPlace wsX5_isPlace) := goodIn_app (goodIn_of _ (by decide +kernel)) ggX5_queue_X5_isPlace
set_option maxRecDepth 20000 in
theorem ggX5_queue_X5_place : GoodIn wsX5_queue wsX5_place := goodIn_r _ [17] (by decide +kernel) (by decide +kernel)
set_option maxRecDepth 20000 in
theorem gX5_queue_X5_place : GoodIn wsX5_queue (va_wsS RX5 92 yX5_place wsX5_place) := goodIn_app (goodIn_of _ (by decide +kernel)) ggX5_queue_X5_place
theorem dX5_queue_0 : decode cX5_queue 0 = .ok (.aload_n 0, 1) := by decide +kernel
theorem dX5_queue_1 : decode cX5_queue 1 = .ok (.iload_n 1, 1) := by decide +kernel
theorem dX5_queue_2 : decode cX5_queue 2 = .ok (.iload_n 2, 1) := by decide +kernel
theorem dX5_queue_3 : decode cX5_queue 3 = .ok (.invokevirtual 135, 3) := by decide +kernel
theorem dX5_queue_6 : decode cX5_queue 6 = .ok (.ifCond .eq 16, 3) := by decide +kernel
theorem dX5_queue_9 : decode cX5_queue 9 = .ok (.aload_n 0, 1) := by decide +kernel
theorem dX5_queue_10 : decode cX5_queue 10 = .ok (.getfield 30, 3) := by decide +kernel
theorem dX5_queue_13 : decode cX5_queue 13 = .ok (.iload_n 1, 1) := by decide +kernel
theorem dX5_queue_14 : decode cX5_queue 14 = .ok (.iload_n 2, 1) := by decide +kernel
theorem dX5_queue_15 : decode cX5_queue 15 = .ok (.invokestatic 92, 3) := by decide +kernel
theorem dX5_queue_18 : decode cX5_queue 18 = .ok (.iaload, 1) := by decide +kernel
theorem dX5_queue_19 : decode cX5_queue 19 = .ok (.goto 4, 3) := by decide +kernel
theorem dX5_queue_22 : decode cX5_queue 22 = .ok (.iconst (-1), 1) := by decide +kernel
theorem dX5_queue_23 : decode cX5_queue 23 = .ok (.ireturn, 1) := by decide +kernel
set_option maxRecDepth 20000 in
theorem ggX5_chain_X5_isPlace : GoodIn wsX5_chain wsX5_isPlace := goodIn_r _ [11, 12, 13, 14, 10, 15, 5, 16, 17, 18, 27, 28, 29, 30, 31, 32, 33, 34, 35, 36, 37, 38, 39, 40, 41, 42, 43, 44, 45, 46, 47, 48, 49, 50, 51] (by decide +kernel) (by decide +kernel)
set_option maxRecDepth 20000 in
theorem gX5_chain_X5_isPlace : GoodIn wsX5_chain (wsV RX5 135 RX5 yX5_isPlace wsX5_isPlace) := goodIn_app (goodIn_of _ (by decide +kernel)) ggX5_chain_X5_isPlace
set_option maxRecDepth 20000 in
theorem ggX5_chain_X5_owner : GoodIn wsX5_chain wsX5_owner := goodIn_r _ [22, 5, 23, 16, 17, 10, 18, 24, 25, 26, 27, 28, 29, 30, 31, 32, 33, 34, 35, 36, 37, 38, 39, 40, 41, 42, 43, 44, 45, 46, 47, 48, 49, 50, 51] (by decide +kernel) (by decide +kernel)
set_option maxRecDepth 20000 in
theorem gX5_chain_X5_owner : GoodIn wsX5_chain (wsV RX5 139 RX5 yX5_owner wsX5_owner) := goodIn_app (goodIn_of _ (by decide +kernel)) ggX5_chain_X5_owner
set_option maxRecDepth 20000 in
theorem ggX5_chain_X5_place : GoodIn wsX5_chain wsX5_place := goodIn_r _ [26] (by decide +kernel) (by decide +kernel)
set_option maxRecDepth 20000 in
theorem gX5_chain_X5_place : GoodIn wsX5_chain (va_wsS RX5 92 yX5_place wsX5_place) := goodIn_app (goodIn_of _ (by decide +kernel)) ggX5_chain_X5_place
theorem dX5_chain_0 : decode cX5_chain 0 = .ok (.aload_n 0, 1) := by decide +kernel
theorem dX5_chain_1 : decode cX5_chain 1 = .ok (.iload_n 1, 1) := by decide +kernel
theorem dX5_chain_2 : decode cX5_chain 2 = .ok (.iload_n 2, 1) := by decide +kernel
theorem dX5_chain_3 : decode cX5_chain 3 = .ok (.invokevirtual 135, 3) := by decide +kernel
theorem dX5_chain_6 : decode cX5_chain 6 = .ok (.ifCond .ne 5, 3) := by decide +kernel
theorem dX5_chain_9 : decode cX5_chain 9 = .ok (.iconst (-1), 1) := by decide +kernel
theorem dX5_chain_10 : decode cX5_chain 10 = .ok (.ireturn, 1) := by decide +kernel
theorem dX5_chain_11 : decode cX5_chain 11 = .ok (.aload_n 0, 1) := by decide +kernel
theorem dX5_chain_12 : decode cX5_chain 12 = .ok (.iload_n 2, 1) := by decide +kernel
theorem dX5_chain_13 : decode cX5_chain 13 = .ok (.invokevirtual 139, 3) := by decide +kernel
theorem dX5_chain_16 : decode cX5_chain 16 = .ok (.istore_n 3, 1) := by decide +kernel
theorem dX5_chain_17 : decode cX5_chain 17 = .ok (.iconst 0, 1) := by decide +kernel
theorem dX5_chain_18 : decode cX5_chain 18 = .ok (.istore 4, 2) := by decide +kernel
theorem dX5_chain_20 : decode cX5_chain 20 = .ok (.iload 4, 2) := by decide +kernel
theorem dX5_chain_22 : decode cX5_chain 22 = .ok (.aload_n 0, 1) := by decide +kernel
theorem dX5_chain_23 : decode cX5_chain 23 = .ok (.getfield 89, 3) := by decide +kernel
theorem dX5_chain_26 : decode cX5_chain 26 = .ok (.if_icmp .ge 52, 3) := by decide +kernel
theorem dX5_chain_29 : decode cX5_chain 29 = .ok (.aload_n 0, 1) := by decide +kernel
theorem dX5_chain_30 : decode cX5_chain 30 = .ok (.getfield 63, 3) := by decide +kernel
theorem dX5_chain_33 : decode cX5_chain 33 = .ok (.bipush 7, 2) := by decide +kernel
theorem dX5_chain_35 : decode cX5_chain 35 = .ok (.iload 4, 2) := by decide +kernel
theorem dX5_chain_37 : decode cX5_chain 37 = .ok (.imul, 1) := by decide +kernel
theorem dX5_chain_38 : decode cX5_chain 38 = .ok (.iaload, 1) := by decide +kernel
theorem dX5_chain_39 : decode cX5_chain 39 = .ok (.iconst 4, 1) := by decide +kernel
theorem dX5_chain_40 : decode cX5_chain 40 = .ok (.if_icmp .ne 32, 3) := by decide +kernel
theorem dX5_chain_43 : decode cX5_chain 43 = .ok (.aload_n 0, 1) := by decide +kernel
theorem dX5_chain_44 : decode cX5_chain 44 = .ok (.getfield 63, 3) := by decide +kernel
theorem dX5_chain_47 : decode cX5_chain 47 = .ok (.bipush 7, 2) := by decide +kernel
theorem dX5_chain_49 : decode cX5_chain 49 = .ok (.iload 4, 2) := by decide +kernel
theorem dX5_chain_51 : decode cX5_chain 51 = .ok (.imul, 1) := by decide +kernel
theorem dX5_chain_52 : decode cX5_chain 52 = .ok (.iconst 3, 1) := by decide +kernel
theorem dX5_chain_53 : decode cX5_chain 53 = .ok (.iadd, 1) := by decide +kernel
theorem dX5_chain_54 : decode cX5_chain 54 = .ok (.iaload, 1) := by decide +kernel
theorem dX5_chain_55 : decode cX5_chain 55 = .ok (.iload_n 2, 1) := by decide +kernel
theorem dX5_chain_56 : decode cX5_chain 56 = .ok (.if_icmp .ne 16, 3) := by decide +kernel
theorem dX5_chain_59 : decode cX5_chain 59 = .ok (.aload_n 0, 1) := by decide +kernel
theorem dX5_chain_60 : decode cX5_chain 60 = .ok (.getfield 63, 3) := by decide +kernel
theorem dX5_chain_63 : decode cX5_chain 63 = .ok (.bipush 7, 2) := by decide +kernel
theorem dX5_chain_65 : decode cX5_chain 65 = .ok (.iload 4, 2) := by decide +kernel
theorem dX5_chain_67 : decode cX5_chain 67 = .ok (.imul, 1) := by decide +kernel
theorem dX5_chain_68 : decode cX5_chain 68 = .ok (.iconst 2, 1) := by decide +kernel
theorem dX5_chain_69 : decode cX5_chain 69 = .ok (.iadd, 1) := by decide +kernel
theorem dX5_chain_70 : decode cX5_chain 70 = .ok (.iaload, 1) := by decide +kernel
theorem dX5_chain_71 : decode cX5_chain 71 = .ok (.istore_n 3, 1) := by decide +kernel
theorem dX5_chain_72 : decode cX5_chain 72 = .ok (.iinc 4 1, 3) := by decide +kernel
theorem dX5_chain_75 : decode cX5_chain 75 = .ok (.goto (-55), 3) := by decide +kernel
theorem dX5_chain_78 : decode cX5_chain 78 = .ok (.iload_n 1, 1) := by decide +kernel
theorem dX5_chain_79 : decode cX5_chain 79 = .ok (.istore 4, 2) := by decide +kernel
theorem dX5_chain_81 : decode cX5_chain 81 = .ok (.iconst 0, 1) := by decide +kernel
theorem dX5_chain_82 : decode cX5_chain 82 = .ok (.istore 5, 2) := by decide +kernel
theorem dX5_chain_84 : decode cX5_chain 84 = .ok (.iload 4, 2) := by decide +kernel
theorem dX5_chain_86 : decode cX5_chain 86 = .ok (.iload_n 3, 1) := by decide +kernel
theorem dX5_chain_87 : decode cX5_chain 87 = .ok (.if_icmp .eq 53, 3) := by decide +kernel
theorem dX5_chain_90 : decode cX5_chain 90 = .ok (.aload_n 0, 1) := by decide +kernel
theorem dX5_chain_91 : decode cX5_chain 91 = .ok (.getfield 33, 3) := by decide +kernel
theorem dX5_chain_94 : decode cX5_chain 94 = .ok (.iload 4, 2) := by decide +kernel
theorem dX5_chain_96 : decode cX5_chain 96 = .ok (.iaload, 1) := by decide +kernel
theorem dX5_chain_97 : decode cX5_chain 97 = .ok (.iconst 2, 1) := by decide +kernel
theorem dX5_chain_98 : decode cX5_chain 98 = .ok (.if_icmp .ne 14, 3) := by decide +kernel
theorem dX5_chain_101 : decode cX5_chain 101 = .ok (.aload_n 0, 1) := by decide +kernel
theorem dX5_chain_102 : decode cX5_chain 102 = .ok (.getfield 36, 3) := by decide +kernel
theorem dX5_chain_105 : decode cX5_chain 105 = .ok (.iload 4, 2) := by decide +kernel
theorem dX5_chain_107 : decode cX5_chain 107 = .ok (.iaload, 1) := by decide +kernel
theorem dX5_chain_108 : decode cX5_chain 108 = .ok (.iload_n 2, 1) := by decide +kernel
theorem dX5_chain_109 : decode cX5_chain 109 = .ok (.if_icmp .eq 31, 3) := by decide +kernel
theorem dX5_chain_112 : decode cX5_chain 112 = .ok (.iload 5, 2) := by decide +kernel
theorem dX5_chain_114 : decode cX5_chain 114 = .ok (.aload_n 0, 1) := by decide +kernel
theorem dX5_chain_115 : decode cX5_chain 115 = .ok (.getfield 85, 3) := by decide +kernel
theorem dX5_chain_118 : decode cX5_chain 118 = .ok (.if_icmp .gt 22, 3) := by decide +kernel
theorem dX5_chain_121 : decode cX5_chain 121 = .ok (.aload_n 0, 1) := by decide +kernel
theorem dX5_chain_122 : decode cX5_chain 122 = .ok (.getfield 17, 3) := by decide +kernel
theorem dX5_chain_125 : decode cX5_chain 125 = .ok (.iload 4, 2) := by decide +kernel
theorem dX5_chain_127 : decode cX5_chain 127 = .ok (.iload_n 2, 1) := by decide +kernel
theorem dX5_chain_128 : decode cX5_chain 128 = .ok (.invokestatic 92, 3) := by decide +kernel
theorem dX5_chain_131 : decode cX5_chain 131 = .ok (.iaload, 1) := by decide +kernel
theorem dX5_chain_132 : decode cX5_chain 132 = .ok (.istore 4, 2) := by decide +kernel
theorem dX5_chain_134 : decode cX5_chain 134 = .ok (.iinc 5 1, 3) := by decide +kernel
theorem dX5_chain_137 : decode cX5_chain 137 = .ok (.goto (-53), 3) := by decide +kernel
theorem dX5_chain_140 : decode cX5_chain 140 = .ok (.iload 5, 2) := by decide +kernel
theorem dX5_chain_142 : decode cX5_chain 142 = .ok (.aload_n 0, 1) := by decide +kernel
theorem dX5_chain_143 : decode cX5_chain 143 = .ok (.getfield 85, 3) := by decide +kernel
theorem dX5_chain_146 : decode cX5_chain 146 = .ok (.if_icmp .gt 8, 3) := by decide +kernel
theorem dX5_chain_149 : decode cX5_chain 149 = .ok (.iload 5, 2) := by decide +kernel
theorem dX5_chain_151 : decode cX5_chain 151 = .ok (.goto 4, 3) := by decide +kernel
theorem dX5_chain_154 : decode cX5_chain 154 = .ok (.iconst (-1), 1) := by decide +kernel
theorem dX5_chain_155 : decode cX5_chain 155 = .ok (.ireturn, 1) := by decide +kernel
theorem dX5_flying_0 : decode cX5_flying 0 = .ok (.aload_n 0, 1) := by decide +kernel
theorem dX5_flying_1 : decode cX5_flying 1 = .ok (.getfield 89, 3) := by decide +kernel
theorem dX5_flying_4 : decode cX5_flying 4 = .ok (.ireturn, 1) := by decide +kernel
theorem dX5_letter_0 : decode cX5_letter 0 = .ok (.iload_n 1, 1) := by decide +kernel
theorem dX5_letter_1 : decode cX5_letter 1 = .ok (.ifCond .lt 34, 3) := by decide +kernel
theorem dX5_letter_4 : decode cX5_letter 4 = .ok (.iload_n 1, 1) := by decide +kernel
theorem dX5_letter_5 : decode cX5_letter 5 = .ok (.aload_n 0, 1) := by decide +kernel
theorem dX5_letter_6 : decode cX5_letter 6 = .ok (.getfield 89, 3) := by decide +kernel
theorem dX5_letter_9 : decode cX5_letter 9 = .ok (.if_icmp .ge 26, 3) := by decide +kernel
theorem dX5_letter_12 : decode cX5_letter 12 = .ok (.iload_n 2, 1) := by decide +kernel
theorem dX5_letter_13 : decode cX5_letter 13 = .ok (.ifCond .lt 22, 3) := by decide +kernel
theorem dX5_letter_16 : decode cX5_letter 16 = .ok (.iload_n 2, 1) := by decide +kernel
theorem dX5_letter_17 : decode cX5_letter 17 = .ok (.iconst 5, 1) := by decide +kernel
theorem dX5_letter_18 : decode cX5_letter 18 = .ok (.if_icmp .gt 17, 3) := by decide +kernel
theorem dX5_letter_21 : decode cX5_letter 21 = .ok (.aload_n 0, 1) := by decide +kernel
theorem dX5_letter_22 : decode cX5_letter 22 = .ok (.getfield 63, 3) := by decide +kernel
theorem dX5_letter_25 : decode cX5_letter 25 = .ok (.bipush 7, 2) := by decide +kernel
theorem dX5_letter_27 : decode cX5_letter 27 = .ok (.iload_n 1, 1) := by decide +kernel
theorem dX5_letter_28 : decode cX5_letter 28 = .ok (.imul, 1) := by decide +kernel
theorem dX5_letter_29 : decode cX5_letter 29 = .ok (.iload_n 2, 1) := by decide +kernel
theorem dX5_letter_30 : decode cX5_letter 30 = .ok (.iadd, 1) := by decide +kernel
theorem dX5_letter_31 : decode cX5_letter 31 = .ok (.iaload, 1) := by decide +kernel
theorem dX5_letter_32 : decode cX5_letter 32 = .ok (.goto 5, 3) := by decide +kernel
theorem dX5_letter_35 : decode cX5_letter 35 = .ok (.bipush (-2), 2) := by decide +kernel
theorem dX5_letter_37 : decode cX5_letter 37 = .ok (.ireturn, 1) := by decide +kernel
theorem dX5_letterWord_0 : decode cX5_letterWord 0 = .ok (.iload_n 1, 1) := by decide +kernel
theorem dX5_letterWord_1 : decode cX5_letterWord 1 = .ok (.ifCond .lt 33, 3) := by decide +kernel
theorem dX5_letterWord_4 : decode cX5_letterWord 4 = .ok (.iload_n 1, 1) := by decide +kernel
theorem dX5_letterWord_5 : decode cX5_letterWord 5 = .ok (.aload_n 0, 1) := by decide +kernel
theorem dX5_letterWord_6 : decode cX5_letterWord 6 = .ok (.getfield 89, 3) := by decide +kernel
theorem dX5_letterWord_9 : decode cX5_letterWord 9 = .ok (.if_icmp .ge 25, 3) := by decide +kernel
theorem dX5_letterWord_12 : decode cX5_letterWord 12 = .ok (.iload_n 2, 1) := by decide +kernel
theorem dX5_letterWord_13 : decode cX5_letterWord 13 = .ok (.ifCond .lt 21, 3) := by decide +kernel
theorem dX5_letterWord_16 : decode cX5_letterWord 16 = .ok (.iload_n 2, 1) := by decide +kernel
theorem dX5_letterWord_17 : decode cX5_letterWord 17 = .ok (.iconst 4, 1) := by decide +kernel
theorem dX5_letterWord_18 : decode cX5_letterWord 18 = .ok (.if_icmp .ge 16, 3) := by decide +kernel
theorem dX5_letterWord_21 : decode cX5_letterWord 21 = .ok (.aload_n 0, 1) := by decide +kernel
theorem dX5_letterWord_22 : decode cX5_letterWord 22 = .ok (.getfield 66, 3) := by decide +kernel
theorem dX5_letterWord_25 : decode cX5_letterWord 25 = .ok (.iconst 4, 1) := by decide +kernel
theorem dX5_letterWord_26 : decode cX5_letterWord 26 = .ok (.iload_n 1, 1) := by decide +kernel
theorem dX5_letterWord_27 : decode cX5_letterWord 27 = .ok (.imul, 1) := by decide +kernel
theorem dX5_letterWord_28 : decode cX5_letterWord 28 = .ok (.iload_n 2, 1) := by decide +kernel
theorem dX5_letterWord_29 : decode cX5_letterWord 29 = .ok (.iadd, 1) := by decide +kernel
theorem dX5_letterWord_30 : decode cX5_letterWord 30 = .ok (.laload, 1) := by decide +kernel
theorem dX5_letterWord_31 : decode cX5_letterWord 31 = .ok (.goto 4, 3) := by decide +kernel
theorem dX5_letterWord_34 : decode cX5_letterWord 34 = .ok (.lconst 0, 1) := by decide +kernel
theorem dX5_letterWord_35 : decode cX5_letterWord 35 = .ok (.lreturn, 1) := by decide +kernel
theorem dX5_count_0 : decode cX5_count 0 = .ok (.iload_n 1, 1) := by decide +kernel
theorem dX5_count_1 : decode cX5_count 1 = .ok (.ifCond .ne 10, 3) := by decide +kernel
theorem dX5_count_4 : decode cX5_count 4 = .ok (.aload_n 0, 1) := by decide +kernel
theorem dX5_count_5 : decode cX5_count 5 = .ok (.getfield 85, 3) := by decide +kernel
theorem dX5_count_8 : decode cX5_count 8 = .ok (.goto 23, 3) := by decide +kernel
theorem dX5_count_11 : decode cX5_count 11 = .ok (.iload_n 1, 1) := by decide +kernel
theorem dX5_count_12 : decode cX5_count 12 = .ok (.ifCond .le 18, 3) := by decide +kernel
theorem dX5_count_15 : decode cX5_count 15 = .ok (.iload_n 1, 1) := by decide +kernel
theorem dX5_count_16 : decode cX5_count 16 = .ok (.bipush 8, 2) := by decide +kernel
theorem dX5_count_18 : decode cX5_count 18 = .ok (.if_icmp .ge 12, 3) := by decide +kernel
theorem dX5_count_21 : decode cX5_count 21 = .ok (.aload_n 0, 1) := by decide +kernel
theorem dX5_count_22 : decode cX5_count 22 = .ok (.getfield 69, 3) := by decide +kernel
theorem dX5_count_25 : decode cX5_count 25 = .ok (.iload_n 1, 1) := by decide +kernel
theorem dX5_count_26 : decode cX5_count 26 = .ok (.iaload, 1) := by decide +kernel
theorem dX5_count_27 : decode cX5_count 27 = .ok (.goto 4, 3) := by decide +kernel
theorem dX5_count_30 : decode cX5_count 30 = .ok (.iconst (-1), 1) := by decide +kernel
theorem dX5_count_31 : decode cX5_count 31 = .ok (.ireturn, 1) := by decide +kernel
end
section
theorem dJ9_floorMod_7cf53_0 : decode cJ9_floorMod_7cf53 0 = .ok (.iload_n 0, 1) := by decide +kernel
theorem dJ9_floorMod_7cf53_1 : decode cJ9_floorMod_7cf53 1 = .ok (.iload_n 1, 1) := by decide +kernel
theorem dJ9_floorMod_7cf53_2 : decode cJ9_floorMod_7cf53 2 = .ok (.irem, 1) := by decide +kernel
theorem dJ9_floorMod_7cf53_3 : decode cJ9_floorMod_7cf53 3 = .ok (.istore_n 2, 1) := by decide +kernel
theorem dJ9_floorMod_7cf53_4 : decode cJ9_floorMod_7cf53 4 = .ok (.iload_n 0, 1) := by decide +kernel
theorem dJ9_floorMod_7cf53_5 : decode cJ9_floorMod_7cf53 5 = .ok (.iload_n 1, 1) := by decide +kernel
theorem dJ9_floorMod_7cf53_6 : decode cJ9_floorMod_7cf53 6 = .ok (.ixor, 1) := by decide +kernel
theorem dJ9_floorMod_7cf53_7 : decode cJ9_floorMod_7cf53 7 = .ok (.ifCond .ge 11, 3) := by decide +kernel
theorem dJ9_floorMod_7cf53_10 : decode cJ9_floorMod_7cf53 10 = .ok (.iload_n 2, 1) := by decide +kernel
theorem dJ9_floorMod_7cf53_11 : decode cJ9_floorMod_7cf53 11 = .ok (.ifCond .eq 7, 3) := by decide +kernel
theorem dJ9_floorMod_7cf53_14 : decode cJ9_floorMod_7cf53 14 = .ok (.iload_n 2, 1) := by decide +kernel
theorem dJ9_floorMod_7cf53_15 : decode cJ9_floorMod_7cf53 15 = .ok (.iload_n 1, 1) := by decide +kernel
theorem dJ9_floorMod_7cf53_16 : decode cJ9_floorMod_7cf53 16 = .ok (.iadd, 1) := by decide +kernel
theorem dJ9_floorMod_7cf53_17 : decode cJ9_floorMod_7cf53 17 = .ok (.ireturn, 1) := by decide +kernel
theorem dJ9_floorMod_7cf53_18 : decode cJ9_floorMod_7cf53 18 = .ok (.iload_n 2, 1) := by decide +kernel
theorem dJ9_floorMod_7cf53_19 : decode cJ9_floorMod_7cf53 19 = .ok (.ireturn, 1) := by decide +kernel
theorem dJ9_max_7cf53_0 : decode cJ9_max_7cf53 0 = .ok (.iload_n 0, 1) := by decide +kernel
theorem dJ9_max_7cf53_1 : decode cJ9_max_7cf53 1 = .ok (.iload_n 1, 1) := by decide +kernel
theorem dJ9_max_7cf53_2 : decode cJ9_max_7cf53 2 = .ok (.if_icmp .lt 7, 3) := by decide +kernel
theorem dJ9_max_7cf53_5 : decode cJ9_max_7cf53 5 = .ok (.iload_n 0, 1) := by decide +kernel
theorem dJ9_max_7cf53_6 : decode cJ9_max_7cf53 6 = .ok (.goto 4, 3) := by decide +kernel
theorem dJ9_max_7cf53_9 : decode cJ9_max_7cf53 9 = .ok (.iload_n 1, 1) := by decide +kernel
theorem dJ9_max_7cf53_10 : decode cJ9_max_7cf53 10 = .ok (.ireturn, 1) := by decide +kernel
theorem dJ9_min_7cf53_0 : decode cJ9_min_7cf53 0 = .ok (.iload_n 0, 1) := by decide +kernel
theorem dJ9_min_7cf53_1 : decode cJ9_min_7cf53 1 = .ok (.iload_n 1, 1) := by decide +kernel
theorem dJ9_min_7cf53_2 : decode cJ9_min_7cf53 2 = .ok (.if_icmp .gt 7, 3) := by decide +kernel
theorem dJ9_min_7cf53_5 : decode cJ9_min_7cf53 5 = .ok (.iload_n 0, 1) := by decide +kernel
theorem dJ9_min_7cf53_6 : decode cJ9_min_7cf53 6 = .ok (.goto 4, 3) := by decide +kernel
theorem dJ9_min_7cf53_9 : decode cJ9_min_7cf53 9 = .ok (.iload_n 1, 1) := by decide +kernel
theorem dJ9_min_7cf53_10 : decode cJ9_min_7cf53 10 = .ok (.ireturn, 1) := by decide +kernel
theorem dJ7_fill_d0a16_0 : decode cJ7_fill_d0a16 0 = .ok (.iconst 0, 1) := by decide +kernel
theorem dJ7_fill_d0a16_1 : decode cJ7_fill_d0a16 1 = .ok (.istore_n 3, 1) := by decide +kernel
theorem dJ7_fill_d0a16_2 : decode cJ7_fill_d0a16 2 = .ok (.aload_n 0, 1) := by decide +kernel
theorem dJ7_fill_d0a16_3 : decode cJ7_fill_d0a16 3 = .ok (.arraylength, 1) := by decide +kernel
theorem dJ7_fill_d0a16_4 : decode cJ7_fill_d0a16 4 = .ok (.istore 4, 2) := by decide +kernel
theorem dJ7_fill_d0a16_6 : decode cJ7_fill_d0a16 6 = .ok (.iload_n 3, 1) := by decide +kernel
theorem dJ7_fill_d0a16_7 : decode cJ7_fill_d0a16 7 = .ok (.iload 4, 2) := by decide +kernel
theorem dJ7_fill_d0a16_9 : decode cJ7_fill_d0a16 9 = .ok (.if_icmp .ge 13, 3) := by decide +kernel
theorem dJ7_fill_d0a16_12 : decode cJ7_fill_d0a16 12 = .ok (.aload_n 0, 1) := by decide +kernel
theorem dJ7_fill_d0a16_13 : decode cJ7_fill_d0a16 13 = .ok (.iload_n 3, 1) := by decide +kernel
theorem dJ7_fill_d0a16_14 : decode cJ7_fill_d0a16 14 = .ok (.lload_n 1, 1) := by decide +kernel
theorem dJ7_fill_d0a16_15 : decode cJ7_fill_d0a16 15 = .ok (.lastore, 1) := by decide +kernel
theorem dJ7_fill_d0a16_16 : decode cJ7_fill_d0a16 16 = .ok (.iinc 3 1, 3) := by decide +kernel
theorem dJ7_fill_d0a16_19 : decode cJ7_fill_d0a16 19 = .ok (.goto (-13), 3) := by decide +kernel
theorem dJ7_fill_d0a16_22 : decode cJ7_fill_d0a16 22 = .ok (.return_, 1) := by decide +kernel
theorem dJ7_fill_53178_0 : decode cJ7_fill_53178 0 = .ok (.iconst 0, 1) := by decide +kernel
theorem dJ7_fill_53178_1 : decode cJ7_fill_53178 1 = .ok (.istore_n 2, 1) := by decide +kernel
theorem dJ7_fill_53178_2 : decode cJ7_fill_53178 2 = .ok (.aload_n 0, 1) := by decide +kernel
theorem dJ7_fill_53178_3 : decode cJ7_fill_53178 3 = .ok (.arraylength, 1) := by decide +kernel
theorem dJ7_fill_53178_4 : decode cJ7_fill_53178 4 = .ok (.istore_n 3, 1) := by decide +kernel
theorem dJ7_fill_53178_5 : decode cJ7_fill_53178 5 = .ok (.iload_n 2, 1) := by decide +kernel
theorem dJ7_fill_53178_6 : decode cJ7_fill_53178 6 = .ok (.iload_n 3, 1) := by decide +kernel
theorem dJ7_fill_53178_7 : decode cJ7_fill_53178 7 = .ok (.if_icmp .ge 13, 3) := by decide +kernel
theorem dJ7_fill_53178_10 : decode cJ7_fill_53178 10 = .ok (.aload_n 0, 1) := by decide +kernel
theorem dJ7_fill_53178_11 : decode cJ7_fill_53178 11 = .ok (.iload_n 2, 1) := by decide +kernel
theorem dJ7_fill_53178_12 : decode cJ7_fill_53178 12 = .ok (.iload_n 1, 1) := by decide +kernel
theorem dJ7_fill_53178_13 : decode cJ7_fill_53178 13 = .ok (.iastore, 1) := by decide +kernel
theorem dJ7_fill_53178_14 : decode cJ7_fill_53178 14 = .ok (.iinc 2 1, 3) := by decide +kernel
theorem dJ7_fill_53178_17 : decode cJ7_fill_53178 17 = .ok (.goto (-12), 3) := by decide +kernel
theorem dJ7_fill_53178_20 : decode cJ7_fill_53178 20 = .ok (.return_, 1) := by decide +kernel
set_option maxRecDepth 20000 in
theorem ggL_law_X4_init : GoodIn wsL_law wsX4_init := goodIn_r _ [9, 10, 11, 12, 13, 14, 15, 16, 17, 18, 19, 20, 21, 22, 23, 24, 25, 26, 27, 28, 29, 30, 31, 32, 33, 34, 35, 36, 37, 38, 39, 40, 41, 42, 43, 44, 45, 46, 47, 48, 49, 50, 51, 52, 53, 54, 55, 56, 57, 58, 59, 2, 60, 61, 62, 63, 64, 65, 66, 67, 68, 69, 70, 71, 72, 73, 74, 75, 76, 77, 78, 79, 80, 81, 82, 83, 84, 85, 86, 87, 88, 89, 90, 91, 92, 93, 94, 95, 96, 97, 98, 99, 471, 472, 473, 474, 500, 501, 502, 503, 504, 505, 506, 507, 508, 509, 510, 511, 512, 513, 514, 515, 516, 517, 518, 519, 520, 521, 522, 523, 524, 525, 526, 527, 528] (by decide +kernel) (by decide +kernel)
set_option maxRecDepth 20000 in
theorem gL_law_X4_init : GoodIn wsL_law (wsX4_init) := ggL_law_X4_init
set_option maxRecDepth 20000 in
theorem ggL_law_X5_init : GoodIn wsL_law wsX5_init := goodIn_r _ [102, 103, 11, 12, 19, 104, 45, 105, 106, 107, 34, 108, 109, 110, 111, 112, 113, 114, 115, 116, 117, 118, 119, 120, 121, 122, 123, 124, 125, 126, 127, 128, 129, 5, 130, 131, 132, 475, 476, 477, 478, 479, 480, 481, 482, 483, 484, 485, 486, 487, 488, 489, 490, 491, 492, 493, 494, 495, 496, 497, 498, 499] (by decide +kernel) (by decide +kernel)
set_option maxRecDepth 20000 in
theorem gL_law_X5_init : GoodIn wsL_law (wsX5_init) := ggL_law_X5_init
set_option maxRecDepth 20000 in
theorem ggL_law_X4_begin : GoodIn wsL_law wsX4_begin := goodIn_r _ [136, 57, 58, 59, 2, 60, 61, 14, 18, 62, 20, 63, 64, 65, 22, 66, 43, 49, 67, 68, 69, 70, 46, 53, 44, 47, 48, 50, 71, 72, 73, 42, 74, 75, 76, 77, 78, 79, 80, 81, 82, 83, 84, 85, 86, 87, 88, 89, 90, 91, 92, 93, 94, 95, 96, 97, 98, 99, 471, 472, 473, 474, 500, 501, 502, 503, 504, 505, 506, 507, 508, 509, 510, 511, 519, 520, 521, 522, 523, 524, 525, 526, 527, 528] (by decide +kernel) (by decide +kernel)
set_option maxRecDepth 20000 in
theorem gL_law_X4_begin : GoodIn wsL_law (wsV RL 13 RX4 yX4_begin wsX4_begin) := goodIn_app (goodIn_of _ (by decide +kernel)) ggL_law_X4_begin
set_option maxRecDepth 20000 in
theorem ggL_law_X5_begin : GoodIn wsL_law wsX5_begin := goodIn_r _ [130, 131, 105, 104, 106, 107, 110, 108, 111, 116, 117, 118, 119, 120, 123, 132, 475, 476, 477, 478, 479, 480, 481, 482, 483, 484, 485, 486, 487, 488, 489, 490, 491, 492, 493, 494, 495, 496, 497, 498, 499] (by decide +kernel) (by decide +kernel)
set_option maxRecDepth 20000 in
theorem gL_law_X5_begin : GoodIn wsL_law (wsV RL 17 RX5 yX5_begin wsX5_begin) := goodIn_app (goodIn_of _ (by decide +kernel)) ggL_law_X5_begin
set_option maxRecDepth 20000 in
theorem ggL_law_X4_read : GoodIn wsL_law wsX4_read := goodIn_r _ [141, 14, 142, 143, 144, 145, 146, 2, 147, 148, 149, 150, 151, 152, 61, 153, 154, 155, 156, 157, 158, 159, 80, 81, 42, 82, 75, 83, 84, 85, 86, 87, 88, 160, 161, 162, 163, 164, 165, 166, 167, 168, 169, 170, 171, 20, 18, 172, 173, 174, 17, 175, 176, 177, 178, 69, 179, 28, 180, 181, 182, 183, 184, 185, 186, 187, 188, 189, 190, 191, 192, 22, 193, 43, 194, 195, 196, 49, 197, 198, 199, 200, 201, 202, 203, 204, 471, 472, 473, 474, 502, 503, 504, 505, 506, 507, 508, 509, 510, 511, 519, 520, 521, 522, 523, 524, 525, 526, 527, 528, 512, 513, 514, 515, 516, 517, 518, 500, 501] (by decide +kernel) (by decide +kernel)
set_option maxRecDepth 20000 in
theorem gL_law_X4_read : GoodIn wsL_law (wsV RL 18 RX4 yX4_read wsX4_read) := goodIn_app (goodIn_of _ (by decide +kernel)) ggL_law_X4_read
set_option maxRecDepth 20000 in
theorem ggL_law_X5_read : GoodIn wsL_law wsX5_read := goodIn_r _ [208, 209, 210, 211, 5, 212, 111, 115, 104, 123, 105, 106, 213, 214, 215, 216, 131, 217, 218, 219, 220, 221, 222, 223, 112, 113, 114, 116, 117, 118, 224, 225, 226, 227, 228, 229, 230, 108, 120, 119, 231, 232, 233, 234, 107, 235, 236, 237, 238, 132, 121, 122, 475, 476, 477, 478, 479, 480, 481, 482, 483, 484, 485, 486, 487, 488, 489, 490, 491, 492, 493, 494, 495, 496, 497, 498, 499] (by decide +kernel) (by decide +kernel)
set_option maxRecDepth 20000 in
theorem gL_law_X5_read : GoodIn wsL_law (wsV RL 22 RX5 yX5_read wsX5_read) := goodIn_app (goodIn_of _ (by decide +kernel)) ggL_law_X5_read
set_option maxRecDepth 20000 in
theorem ggL_law_X4_write : GoodIn wsL_law wsX4_write := goodIn_r _ [242, 14, 142, 143, 243, 144, 145, 146, 2, 147, 148, 149, 150, 151, 152, 61, 153, 154, 155, 156, 157, 158, 159, 80, 81, 42, 82, 75, 83, 84, 85, 86, 87, 88, 186, 187, 188, 189, 20, 190, 191, 192, 22, 193, 43, 194, 195, 196, 49, 197, 198, 199, 200, 244, 245, 246, 247, 164, 248, 165, 249, 168, 169, 170, 171, 18, 172, 173, 174, 17, 175, 176, 177, 178, 69, 179, 28, 180, 181, 182, 183, 184, 185, 250, 251, 252, 253, 254, 255, 256, 257, 258, 259, 260, 261, 262, 263, 264, 265, 266, 267, 268, 76, 269, 270, 271, 272, 50, 51, 52, 273, 274, 275, 276, 166, 167, 277, 278, 279, 280, 281, 282, 283, 284, 285, 286, 287, 288, 289, 290, 291, 160, 161, 162, 163, 201, 202, 203, 204, 471, 472, 473, 474, 502, 503, 504, 505, 506, 507, 508, 509, 510, 511, 519, 520, 521, 522, 523, 524, 525, 526, 527, 528, 500, 501, 512, 513, 514, 515, 516, 517, 518] (by decide +kernel) (by decide +kernel)
set_option maxRecDepth 20000 in
theorem gL_law_X4_write : GoodIn wsL_law (wsV RL 25 RX4 yX4_write wsX4_write) := goodIn_app (goodIn_of _ (by decide +kernel)) ggL_law_X4_write
set_option maxRecDepth 20000 in
theorem ggL_law_X5_write : GoodIn wsL_law wsX5_write := goodIn_r _ [295, 209, 210, 211, 5, 212, 111, 115, 104, 123, 105, 106, 213, 214, 215, 216, 131, 217, 218, 219, 220, 221, 222, 223, 112, 113, 114, 116, 117, 118, 224, 225, 226, 227, 228, 229, 230, 108, 120, 119, 231, 232, 233, 234, 107, 235, 236, 237, 238, 132, 121, 122, 475, 476, 477, 478, 479, 480, 481, 482, 483, 484, 485, 486, 487, 488, 489, 490, 491, 492, 493, 494, 495, 496, 497, 498, 499] (by decide +kernel) (by decide +kernel)
set_option maxRecDepth 20000 in
theorem gL_law_X5_write : GoodIn wsL_law (wsV RL 29 RX5 yX5_write wsX5_write) := goodIn_app (goodIn_of _ (by decide +kernel)) ggL_law_X5_write
set_option maxRecDepth 20000 in
theorem ggL_law_X4_deliver : GoodIn wsL_law wsX4_deliver := goodIn_r _ [299, 18, 14, 300, 301, 302, 167, 303, 142, 249, 304, 305, 306, 17, 307, 176, 308, 309, 310, 311, 28, 261, 262, 263, 2, 264, 243, 265, 266, 267, 42, 268, 76, 83, 269, 270, 271, 22, 272, 50, 51, 52, 273, 274, 275, 276, 165, 166, 20, 168, 169, 170, 171, 172, 173, 174, 175, 177, 178, 69, 179, 180, 181, 182, 183, 184, 185, 277, 278, 279, 280, 248, 143, 281, 282, 283, 284, 285, 286, 287, 288, 289, 290, 291, 312, 313, 314, 315, 316, 186, 187, 188, 189, 190, 191, 192, 193, 43, 194, 195, 196, 49, 197, 198, 199, 200, 317, 318, 319, 320, 244, 245, 246, 247, 164, 148, 61, 250, 251, 252, 253, 254, 255, 256, 257, 258, 259, 260, 321, 322, 323, 324, 471, 472, 473, 474, 512, 513, 514, 515, 516, 517, 518, 502, 503, 504, 505, 506, 507, 508, 509, 510, 511, 519, 520, 521, 522, 523, 524, 525, 526, 527, 528, 500, 501] (by decide +kernel) (by decide +kernel)
set_option maxRecDepth 20000 in
theorem gL_law_X4_deliver : GoodIn wsL_law (wsV RL 30 RX4 yX4_deliver wsX4_deliver) := goodIn_app (goodIn_of _ (by decide +kernel)) ggL_law_X4_deliver
set_option maxRecDepth 20000 in
theorem ggL_law_X5_deliver : GoodIn wsL_law wsX5_deliver := goodIn_r _ [328, 132, 124, 121, 125, 122, 106, 104, 117, 107, 105, 111, 112, 116, 329, 330, 331, 5, 332, 224, 225, 226, 333, 334, 335, 336, 109, 110, 123, 235, 236, 237, 238, 108, 337, 338, 339, 340, 227, 228, 229, 230, 113, 114, 115, 120, 119, 231, 232, 233, 234, 131, 341, 342, 343, 344, 126, 475, 476, 477, 478, 479, 480, 481, 482, 483, 484, 485, 486, 487, 488, 489, 490, 491, 492, 493, 494, 495, 496, 497, 498, 499] (by decide +kernel) (by decide +kernel)
set_option maxRecDepth 20000 in
theorem gL_law_X5_deliver : GoodIn wsL_law (wsV RL 34 RX5 yX5_deliver wsX5_deliver) := goodIn_app (goodIn_of _ (by decide +kernel)) ggL_law_X5_deliver
set_option maxRecDepth 20000 in
theorem ggL_law_X4_waits : GoodIn wsL_law wsX4_waits := goodIn_r _ [348, 14, 142, 148, 149, 150, 151, 2, 152, 61, 471, 472, 473, 474, 502, 503, 504, 505, 506, 507, 508, 509, 510, 511, 519, 520, 521, 522, 523, 524, 525, 526, 527, 528] (by decide +kernel) (by decide +kernel)
set_option maxRecDepth 20000 in
theorem gL_law_X4_waits : GoodIn wsL_law (wsV RL 35 RX4 yX4_waits wsX4_waits) := goodIn_app (goodIn_of _ (by decide +kernel)) ggL_law_X4_waits
set_option maxRecDepth 20000 in
theorem ggL_law_X5_waits : GoodIn wsL_law wsX5_waits := goodIn_r _ [352, 111, 213, 214, 215, 5, 216, 131, 475, 476, 477, 478, 479, 480, 481, 482, 483, 484, 485, 486, 487, 488, 489, 490, 491, 492, 493, 494, 495, 496, 497, 498, 499] (by decide +kernel) (by decide +kernel)
set_option maxRecDepth 20000 in
theorem gL_law_X5_waits : GoodIn wsL_law (wsV RL 38 RX5 yX5_waits wsX5_waits) := goodIn_app (goodIn_of _ (by decide +kernel)) ggL_law_X5_waits
set_option maxRecDepth 20000 in
theorem ggL_law_X4_at : GoodIn wsL_law wsX4_at := goodIn_r _ [356, 14, 142, 357, 358, 164, 359, 360, 249, 149, 150, 151, 2, 152, 61, 471, 472, 473, 474, 502, 503, 504, 505, 506, 507, 508, 509, 510, 511, 519, 520, 521, 522, 523, 524, 525, 526, 527, 528] (by decide +kernel) (by decide +kernel)
set_option maxRecDepth 20000 in
theorem gL_law_X4_at : GoodIn wsL_law (wsV RL 39 RX4 yX4_at wsX4_at) := goodIn_app (goodIn_of _ (by decide +kernel)) ggL_law_X4_at
set_option maxRecDepth 20000 in
theorem ggL_law_X5_at : GoodIn wsL_law wsX5_at := goodIn_r _ [364, 118, 112, 113, 114, 111, 116, 119, 213, 214, 215, 5, 216, 131, 475, 476, 477, 478, 479, 480, 481, 482, 483, 484, 485, 486, 487, 488, 489, 490, 491, 492, 493, 494, 495, 496, 497, 498, 499] (by decide +kernel) (by decide +kernel)
set_option maxRecDepth 20000 in
theorem gL_law_X5_at : GoodIn wsL_law (wsV RL 43 RX5 yX5_at wsX5_at) := goodIn_app (goodIn_of _ (by decide +kernel)) ggL_law_X5_at
set_option maxRecDepth 20000 in
theorem ggL_law_X4_result : GoodIn wsL_law wsX4_result := goodIn_r _ [368, 14, 142, 369, 149, 150, 151, 2, 152, 61, 471, 472, 473, 474, 502, 503, 504, 505, 506, 507, 508, 509, 510, 511, 519, 520, 521, 522, 523, 524, 525, 526, 527, 528] (by decide +kernel) (by decide +kernel)
set_option maxRecDepth 20000 in
theorem gL_law_X4_result : GoodIn wsL_law (wsV RL 44 RX4 yX4_result wsX4_result) := goodIn_app (goodIn_of _ (by decide +kernel)) ggL_law_X4_result
set_option maxRecDepth 20000 in
theorem ggL_law_X5_result : GoodIn wsL_law wsX5_result := goodIn_r _ [373, 120, 213, 214, 215, 5, 216, 131, 475, 476, 477, 478, 479, 480, 481, 482, 483, 484, 485, 486, 487, 488, 489, 490, 491, 492, 493, 494, 495, 496, 497, 498, 499] (by decide +kernel) (by decide +kernel)
set_option maxRecDepth 20000 in
theorem gL_law_X5_result : GoodIn wsL_law (wsV RL 48 RX5 yX5_result wsX5_result) := goodIn_app (goodIn_of _ (by decide +kernel)) ggL_law_X5_result
set_option maxRecDepth 20000 in
theorem ggL_law_X4_access : GoodIn wsL_law wsX4_access := goodIn_r _ [377, 14, 143, 149, 150, 151, 2, 152, 61, 153, 154, 155, 471, 472, 473, 474, 502, 503, 504, 505, 506, 507, 508, 509, 510, 511] (by decide +kernel) (by decide +kernel)
set_option maxRecDepth 20000 in
theorem gL_law_X4_access : GoodIn wsL_law (wsV RL 49 RX4 yX4_access wsX4_access) := goodIn_app (goodIn_of _ (by decide +kernel)) ggL_law_X4_access
set_option maxRecDepth 20000 in
theorem ggL_law_X5_access : GoodIn wsL_law wsX5_access := goodIn_r _ [381, 104, 382, 383, 384, 5, 385, 213, 214, 215, 216, 131, 217, 218, 219, 224, 225, 226, 475, 476, 477, 478, 479, 480, 481, 482, 483, 484, 485, 486, 487, 488, 489, 490, 491, 492, 493, 494, 495, 496, 497, 498, 499] (by decide +kernel) (by decide +kernel)
set_option maxRecDepth 20000 in
theorem gL_law_X5_access : GoodIn wsL_law (wsV RL 52 RX5 yX5_access wsX5_access) := goodIn_app (goodIn_of _ (by decide +kernel)) ggL_law_X5_access
set_option maxRecDepth 20000 in
theorem ggL_law_X4_owner : GoodIn wsL_law wsX4_owner := goodIn_r _ [389, 61, 14, 243, 153, 154, 2, 155, 471, 472, 473, 474, 502, 503, 504, 505, 506, 507, 508, 509, 510, 511] (by decide +kernel) (by decide +kernel)
set_option maxRecDepth 20000 in
theorem gL_law_X4_owner : GoodIn wsL_law (wsV RL 53 RX4 yX4_owner wsX4_owner) := goodIn_app (goodIn_of _ (by decide +kernel)) ggL_law_X4_owner
set_option maxRecDepth 20000 in
theorem ggL_law_X5_owner : GoodIn wsL_law wsX5_owner := goodIn_r _ [393, 131, 105, 217, 218, 5, 219, 224, 225, 226, 475, 476, 477, 478, 479, 480, 481, 482, 483, 484, 485, 486, 487, 488, 489, 490, 491, 492, 493, 494, 495, 496, 497, 498, 499] (by decide +kernel) (by decide +kernel)
set_option maxRecDepth 20000 in
theorem gL_law_X5_owner : GoodIn wsL_law (wsV RL 56 RX5 yX5_owner wsX5_owner) := goodIn_app (goodIn_of _ (by decide +kernel)) ggL_law_X5_owner
set_option maxRecDepth 20000 in
theorem ggL_law_X4_guess : GoodIn wsL_law wsX4_guess := goodIn_r _ [397, 14, 166, 149, 150, 151, 2, 152, 61, 153, 154, 155, 471, 472, 473, 474, 502, 503, 504, 505, 506, 507, 508, 509, 510, 511] (by decide +kernel) (by decide +kernel)
set_option maxRecDepth 20000 in
theorem gL_law_X4_guess : GoodIn wsL_law (wsV RL 57 RX4 yX4_guess wsX4_guess) := goodIn_app (goodIn_of _ (by decide +kernel)) ggL_law_X4_guess
set_option maxRecDepth 20000 in
theorem ggL_law_X5_guess : GoodIn wsL_law wsX5_guess := goodIn_r _ [401, 106, 382, 383, 384, 5, 385, 213, 214, 215, 216, 131, 217, 218, 219, 224, 225, 226, 475, 476, 477, 478, 479, 480, 481, 482, 483, 484, 485, 486, 487, 488, 489, 490, 491, 492, 493, 494, 495, 496, 497, 498, 499] (by decide +kernel) (by decide +kernel)
set_option maxRecDepth 20000 in
theorem gL_law_X5_guess : GoodIn wsL_law (wsV RL 60 RX5 yX5_guess wsX5_guess) := goodIn_app (goodIn_of _ (by decide +kernel)) ggL_law_X5_guess
set_option maxRecDepth 20000 in
theorem ggL_law_X4_copies : GoodIn wsL_law wsX4_copies := goodIn_r _ [405, 14, 248, 149, 150, 151, 2, 152, 61, 153, 154, 155, 471, 472, 473, 474, 502, 503, 504, 505, 506, 507, 508, 509, 510, 511] (by decide +kernel) (by decide +kernel)
set_option maxRecDepth 20000 in
theorem gL_law_X4_copies : GoodIn wsL_law (wsV RL 61 RX4 yX4_copies wsX4_copies) := goodIn_app (goodIn_of _ (by decide +kernel)) ggL_law_X4_copies
set_option maxRecDepth 20000 in
theorem ggL_law_X5_copies : GoodIn wsL_law wsX5_copies := goodIn_r _ [409, 107, 382, 383, 384, 5, 385, 213, 214, 215, 216, 131, 217, 218, 219, 224, 225, 226, 475, 476, 477, 478, 479, 480, 481, 482, 483, 484, 485, 486, 487, 488, 489, 490, 491, 492, 493, 494, 495, 496, 497, 498, 499] (by decide +kernel) (by decide +kernel)
set_option maxRecDepth 20000 in
theorem gL_law_X5_copies : GoodIn wsL_law (wsV RL 64 RX5 yX5_copies wsX5_copies) := goodIn_app (goodIn_of _ (by decide +kernel)) ggL_law_X5_copies
set_option maxRecDepth 20000 in
theorem ggL_law_X4_word : GoodIn wsL_law wsX4_word := goodIn_r _ [413, 14, 281, 149, 150, 151, 2, 152, 61, 153, 154, 155, 156, 157, 158, 471, 472, 473, 474, 502, 503, 504, 505, 506, 507, 508, 509, 510, 511] (by decide +kernel) (by decide +kernel)
set_option maxRecDepth 20000 in
theorem gL_law_X4_word : GoodIn wsL_law (wsV RL 65 RX4 yX4_word wsX4_word) := goodIn_app (goodIn_of _ (by decide +kernel)) ggL_law_X4_word
set_option maxRecDepth 20000 in
theorem ggL_law_X5_word : GoodIn wsL_law wsX5_word := goodIn_r _ [417, 108, 382, 383, 384, 5, 385, 213, 214, 215, 216, 131, 217, 218, 219, 224, 225, 226, 475, 476, 477, 478, 479, 480, 481, 482, 483, 484, 485, 486, 487, 488, 489, 490, 491, 492, 493, 494, 495, 496, 497, 498, 499] (by decide +kernel) (by decide +kernel)
set_option maxRecDepth 20000 in
theorem gL_law_X5_word : GoodIn wsL_law (wsV RL 69 RX5 yX5_word wsX5_word) := goodIn_app (goodIn_of _ (by decide +kernel)) ggL_law_X5_word
set_option maxRecDepth 20000 in
theorem ggL_law_X4_queue : GoodIn wsL_law wsX4_queue := goodIn_r _ [421, 14, 258, 149, 150, 151, 2, 152, 61, 153, 154, 155, 471, 472, 473, 474, 502, 503, 504, 505, 506, 507, 508, 509, 510, 511] (by decide +kernel) (by decide +kernel)
set_option maxRecDepth 20000 in
theorem gL_law_X4_queue : GoodIn wsL_law (wsV RL 70 RX4 yX4_queue wsX4_queue) := goodIn_app (goodIn_of _ (by decide +kernel)) ggL_law_X4_queue
set_option maxRecDepth 20000 in
theorem ggL_law_X5_queue : GoodIn wsL_law wsX5_queue := goodIn_r _ [425, 110, 382, 383, 384, 5, 385, 213, 214, 215, 216, 131, 217, 218, 219, 224, 225, 226, 475, 476, 477, 478, 479, 480, 481, 482, 483, 484, 485, 486, 487, 488, 489, 490, 491, 492, 493, 494, 495, 496, 497, 498, 499] (by decide +kernel) (by decide +kernel)
set_option maxRecDepth 20000 in
theorem gL_law_X5_queue : GoodIn wsL_law (wsV RL 73 RX5 yX5_queue wsX5_queue) := goodIn_app (goodIn_of _ (by decide +kernel)) ggL_law_X5_queue
set_option maxRecDepth 20000 in
theorem ggL_law_X4_chain : GoodIn wsL_law wsX4_chain := goodIn_r _ [429, 14, 61, 166, 149, 150, 151, 2, 152, 153, 154, 155, 430, 431, 432, 243, 142, 265, 266, 267, 42, 268, 76, 83, 471, 472, 473, 474, 502, 503, 504, 505, 506, 507, 508, 509, 510, 511, 519, 520, 521, 522, 523, 524, 525, 526, 527, 528] (by decide +kernel) (by decide +kernel)
set_option maxRecDepth 20000 in
theorem gL_law_X4_chain : GoodIn wsL_law (wsV RL 74 RX4 yX4_chain wsX4_chain) := goodIn_app (goodIn_of _ (by decide +kernel)) ggL_law_X4_chain
set_option maxRecDepth 20000 in
theorem ggL_law_X5_chain : GoodIn wsL_law wsX5_chain := goodIn_r _ [436, 132, 121, 111, 112, 131, 106, 382, 383, 384, 5, 385, 213, 214, 215, 216, 217, 218, 219, 437, 391, 392, 393, 105, 224, 225, 226, 475, 476, 477, 478, 479, 480, 481, 482, 483, 484, 485, 486, 487, 488, 489, 490, 491, 492, 493, 494, 495, 496, 497, 498, 499] (by decide +kernel) (by decide +kernel)
set_option maxRecDepth 20000 in
theorem gL_law_X5_chain : GoodIn wsL_law (wsV RL 77 RX5 yX5_chain wsX5_chain) := goodIn_app (goodIn_of _ (by decide +kernel)) ggL_law_X5_chain
set_option maxRecDepth 20000 in
theorem ggL_law_X4_flying : GoodIn wsL_law wsX4_flying := goodIn_r _ [441, 18, 62, 471, 472, 473, 474, 500, 501] (by decide +kernel) (by decide +kernel)
set_option maxRecDepth 20000 in
theorem gL_law_X4_flying : GoodIn wsL_law (wsV RL 78 RX4 yX4_flying wsX4_flying) := goodIn_app (goodIn_of _ (by decide +kernel)) ggL_law_X4_flying
set_option maxRecDepth 20000 in
theorem ggL_law_X5_flying : GoodIn wsL_law wsX5_flying := goodIn_r _ [445, 132, 475, 476, 477, 478, 479, 480, 481, 482, 483, 484, 485, 486, 487, 488, 489, 490, 491, 492, 493, 494, 495, 496, 497, 498, 499] (by decide +kernel) (by decide +kernel)
set_option maxRecDepth 20000 in
theorem gL_law_X5_flying : GoodIn wsL_law (wsV RL 82 RX5 yX5_flying wsX5_flying) := goodIn_app (goodIn_of _ (by decide +kernel)) ggL_law_X5_flying
set_option maxRecDepth 20000 in
theorem ggL_law_X4_letter : GoodIn wsL_law wsX4_letter := goodIn_r _ [449, 18, 450, 301, 303, 300, 302, 167, 291, 304, 305, 306, 17, 307, 176, 471, 472, 473, 474, 500, 501, 512, 513, 514, 515, 516, 517, 518] (by decide +kernel) (by decide +kernel)
set_option maxRecDepth 20000 in
theorem gL_law_X4_letter : GoodIn wsL_law (wsV RL 83 RX4 yX4_letter wsX4_letter) := goodIn_app (goodIn_of _ (by decide +kernel)) ggL_law_X4_letter
set_option maxRecDepth 20000 in
theorem ggL_law_X5_letter : GoodIn wsL_law wsX5_letter := goodIn_r _ [454, 132, 121, 475, 476, 477, 478, 479, 480, 481, 482, 483, 484, 485, 486, 487, 488, 489, 490, 491, 492, 493, 494, 495, 496, 497, 498, 499] (by decide +kernel) (by decide +kernel)
set_option maxRecDepth 20000 in
theorem gL_law_X5_letter : GoodIn wsL_law (wsV RL 86 RX5 yX5_letter wsX5_letter) := goodIn_app (goodIn_of _ (by decide +kernel)) ggL_law_X5_letter
set_option maxRecDepth 20000 in
theorem ggL_law_X4_letterWord : GoodIn wsL_law wsX4_letterWord := goodIn_r _ [458, 18, 450, 301, 282, 304, 305, 306, 17, 307, 176, 156, 157, 2, 158, 471, 472, 473, 474, 500, 501, 512, 513, 514, 515, 516, 517, 518] (by decide +kernel) (by decide +kernel)
set_option maxRecDepth 20000 in
theorem gL_law_X4_letterWord : GoodIn wsL_law (wsV RL 87 RX4 yX4_letterWord wsX4_letterWord) := goodIn_app (goodIn_of _ (by decide +kernel)) ggL_law_X4_letterWord
set_option maxRecDepth 20000 in
theorem ggL_law_X5_letterWord : GoodIn wsL_law wsX5_letterWord := goodIn_r _ [462, 132, 122, 475, 476, 477, 478, 479, 480, 481, 482, 483, 484, 485, 486, 487, 488, 489, 490, 491, 492, 493, 494, 495, 496, 497, 498, 499] (by decide +kernel) (by decide +kernel)
set_option maxRecDepth 20000 in
theorem gL_law_X5_letterWord : GoodIn wsL_law (wsV RL 91 RX5 yX5_letterWord wsX5_letterWord) := goodIn_app (goodIn_of _ (by decide +kernel)) ggL_law_X5_letterWord
set_option maxRecDepth 20000 in
theorem ggL_law_X4_count : GoodIn wsL_law wsX4_count := goodIn_r _ [466, 20, 471, 472, 473, 474] (by decide +kernel) (by decide +kernel)
set_option maxRecDepth 20000 in
theorem gL_law_X4_count : GoodIn wsL_law (wsV RL 92 RX4 yX4_count wsX4_count) := goodIn_app (goodIn_of _ (by decide +kernel)) ggL_law_X4_count
set_option maxRecDepth 20000 in
theorem ggL_law_X5_count : GoodIn wsL_law wsX5_count := goodIn_r _ [470, 131, 123, 475, 476, 477, 478, 479, 480, 481, 482, 483, 484, 485, 486, 487, 488, 489, 490, 491, 492, 493, 494, 495, 496, 497, 498, 499] (by decide +kernel) (by decide +kernel)
set_option maxRecDepth 20000 in
theorem gL_law_X5_count : GoodIn wsL_law (wsV RL 95 RX5 yX5_count wsX5_count) := goodIn_app (goodIn_of _ (by decide +kernel)) ggL_law_X5_count
end
section
theorem dL_law_0 : decode cL_law 0 = .ok (.new 7, 3) := by decide +kernel
theorem dL_law_3 : decode cL_law 3 = .ok (.dup, 1) := by decide +kernel
theorem dL_law_4 : decode cL_law 4 = .ok (.invokespecial 9, 3) := by decide +kernel
theorem dL_law_7 : decode cL_law 7 = .ok (.astore_n 1, 1) := by decide +kernel
theorem dL_law_8 : decode cL_law 8 = .ok (.new 10, 3) := by decide +kernel
theorem dL_law_11 : decode cL_law 11 = .ok (.dup, 1) := by decide +kernel
theorem dL_law_12 : decode cL_law 12 = .ok (.invokespecial 12, 3) := by decide +kernel
theorem dL_law_15 : decode cL_law 15 = .ok (.astore_n 2, 1) := by decide +kernel
theorem dL_law_16 : decode cL_law 16 = .ok (.iconst 0, 1) := by decide +kernel
theorem dL_law_17 : decode cL_law 17 = .ok (.istore_n 3, 1) := by decide +kernel
theorem dL_law_18 : decode cL_law 18 = .ok (.iload_n 3, 1) := by decide +kernel
theorem dL_law_19 : decode cL_law 19 = .ok (.aload_n 0, 1) := by decide +kernel
theorem dL_law_20 : decode cL_law 20 = .ok (.arraylength, 1) := by decide +kernel
theorem dL_law_21 : decode cL_law 21 = .ok (.bipush 6, 2) := by decide +kernel
theorem dL_law_23 : decode cL_law 23 = .ok (.isub, 1) := by decide +kernel
theorem dL_law_24 : decode cL_law 24 = .ok (.if_icmp .gt 689, 3) := by decide +kernel
theorem dL_law_27 : decode cL_law 27 = .ok (.aload_n 0, 1) := by decide +kernel
theorem dL_law_28 : decode cL_law 28 = .ok (.iload_n 3, 1) := by decide +kernel
theorem dL_law_29 : decode cL_law 29 = .ok (.iaload, 1) := by decide +kernel
theorem dL_law_30 : decode cL_law 30 = .ok (.bipush 31, 2) := by decide +kernel
theorem dL_law_32 : decode cL_law 32 = .ok (.iand, 1) := by decide +kernel
theorem dL_law_33 : decode cL_law 33 = .ok (.tableswitch 674 0 17 #[87, 110, 153, 236, 259, 282, 315, 339, 372, 395, 428, 461, 505, 538, 571, 584, 617, 651], 87) := by decide +kernel
theorem dL_law_120 : decode cL_law 120 = .ok (.aload_n 1, 1) := by decide +kernel
theorem dL_law_121 : decode cL_law 121 = .ok (.aload_n 0, 1) := by decide +kernel
theorem dL_law_122 : decode cL_law 122 = .ok (.iload_n 3, 1) := by decide +kernel
theorem dL_law_123 : decode cL_law 123 = .ok (.iconst 1, 1) := by decide +kernel
theorem dL_law_124 : decode cL_law 124 = .ok (.iadd, 1) := by decide +kernel
theorem dL_law_125 : decode cL_law 125 = .ok (.iaload, 1) := by decide +kernel
theorem dL_law_126 : decode cL_law 126 = .ok (.invokevirtual 13, 3) := by decide +kernel
theorem dL_law_129 : decode cL_law 129 = .ok (.aload_n 2, 1) := by decide +kernel
theorem dL_law_130 : decode cL_law 130 = .ok (.aload_n 0, 1) := by decide +kernel
theorem dL_law_131 : decode cL_law 131 = .ok (.iload_n 3, 1) := by decide +kernel
theorem dL_law_132 : decode cL_law 132 = .ok (.iconst 1, 1) := by decide +kernel
theorem dL_law_133 : decode cL_law 133 = .ok (.iadd, 1) := by decide +kernel
theorem dL_law_134 : decode cL_law 134 = .ok (.iaload, 1) := by decide +kernel
theorem dL_law_135 : decode cL_law 135 = .ok (.invokevirtual 17, 3) := by decide +kernel
theorem dL_law_138 : decode cL_law 138 = .ok (.if_icmp .eq 569, 3) := by decide +kernel
theorem dL_law_141 : decode cL_law 141 = .ok (.iconst 0, 1) := by decide +kernel
theorem dL_law_142 : decode cL_law 142 = .ok (.ireturn, 1) := by decide +kernel
theorem dL_law_143 : decode cL_law 143 = .ok (.aload_n 1, 1) := by decide +kernel
theorem dL_law_144 : decode cL_law 144 = .ok (.aload_n 0, 1) := by decide +kernel
theorem dL_law_145 : decode cL_law 145 = .ok (.iload_n 3, 1) := by decide +kernel
theorem dL_law_146 : decode cL_law 146 = .ok (.iconst 1, 1) := by decide +kernel
theorem dL_law_147 : decode cL_law 147 = .ok (.iadd, 1) := by decide +kernel
theorem dL_law_148 : decode cL_law 148 = .ok (.iaload, 1) := by decide +kernel
theorem dL_law_149 : decode cL_law 149 = .ok (.aload_n 0, 1) := by decide +kernel
theorem dL_law_150 : decode cL_law 150 = .ok (.iload_n 3, 1) := by decide +kernel
theorem dL_law_151 : decode cL_law 151 = .ok (.iconst 2, 1) := by decide +kernel
theorem dL_law_152 : decode cL_law 152 = .ok (.iadd, 1) := by decide +kernel
theorem dL_law_153 : decode cL_law 153 = .ok (.iaload, 1) := by decide +kernel
theorem dL_law_154 : decode cL_law 154 = .ok (.aload_n 0, 1) := by decide +kernel
theorem dL_law_155 : decode cL_law 155 = .ok (.iload_n 3, 1) := by decide +kernel
theorem dL_law_156 : decode cL_law 156 = .ok (.iconst 3, 1) := by decide +kernel
theorem dL_law_157 : decode cL_law 157 = .ok (.iadd, 1) := by decide +kernel
theorem dL_law_158 : decode cL_law 158 = .ok (.iaload, 1) := by decide +kernel
theorem dL_law_159 : decode cL_law 159 = .ok (.invokevirtual 18, 3) := by decide +kernel
theorem dL_law_162 : decode cL_law 162 = .ok (.aload_n 2, 1) := by decide +kernel
theorem dL_law_163 : decode cL_law 163 = .ok (.aload_n 0, 1) := by decide +kernel
theorem dL_law_164 : decode cL_law 164 = .ok (.iload_n 3, 1) := by decide +kernel
theorem dL_law_165 : decode cL_law 165 = .ok (.iconst 1, 1) := by decide +kernel
theorem dL_law_166 : decode cL_law 166 = .ok (.iadd, 1) := by decide +kernel
theorem dL_law_167 : decode cL_law 167 = .ok (.iaload, 1) := by decide +kernel
theorem dL_law_168 : decode cL_law 168 = .ok (.aload_n 0, 1) := by decide +kernel
theorem dL_law_169 : decode cL_law 169 = .ok (.iload_n 3, 1) := by decide +kernel
theorem dL_law_170 : decode cL_law 170 = .ok (.iconst 2, 1) := by decide +kernel
theorem dL_law_171 : decode cL_law 171 = .ok (.iadd, 1) := by decide +kernel
theorem dL_law_172 : decode cL_law 172 = .ok (.iaload, 1) := by decide +kernel
theorem dL_law_173 : decode cL_law 173 = .ok (.aload_n 0, 1) := by decide +kernel
theorem dL_law_174 : decode cL_law 174 = .ok (.iload_n 3, 1) := by decide +kernel
theorem dL_law_175 : decode cL_law 175 = .ok (.iconst 3, 1) := by decide +kernel
theorem dL_law_176 : decode cL_law 176 = .ok (.iadd, 1) := by decide +kernel
theorem dL_law_177 : decode cL_law 177 = .ok (.iaload, 1) := by decide +kernel
theorem dL_law_178 : decode cL_law 178 = .ok (.invokevirtual 22, 3) := by decide +kernel
theorem dL_law_181 : decode cL_law 181 = .ok (.if_icmp .eq 526, 3) := by decide +kernel
theorem dL_law_184 : decode cL_law 184 = .ok (.iconst 0, 1) := by decide +kernel
theorem dL_law_185 : decode cL_law 185 = .ok (.ireturn, 1) := by decide +kernel
theorem dL_law_186 : decode cL_law 186 = .ok (.aload_n 1, 1) := by decide +kernel
theorem dL_law_187 : decode cL_law 187 = .ok (.aload_n 0, 1) := by decide +kernel
theorem dL_law_188 : decode cL_law 188 = .ok (.iload_n 3, 1) := by decide +kernel
theorem dL_law_189 : decode cL_law 189 = .ok (.iconst 1, 1) := by decide +kernel
theorem dL_law_190 : decode cL_law 190 = .ok (.iadd, 1) := by decide +kernel
theorem dL_law_191 : decode cL_law 191 = .ok (.iaload, 1) := by decide +kernel
theorem dL_law_192 : decode cL_law 192 = .ok (.aload_n 0, 1) := by decide +kernel
theorem dL_law_193 : decode cL_law 193 = .ok (.iload_n 3, 1) := by decide +kernel
theorem dL_law_194 : decode cL_law 194 = .ok (.iconst 2, 1) := by decide +kernel
theorem dL_law_195 : decode cL_law 195 = .ok (.iadd, 1) := by decide +kernel
theorem dL_law_196 : decode cL_law 196 = .ok (.iaload, 1) := by decide +kernel
theorem dL_law_197 : decode cL_law 197 = .ok (.aload_n 0, 1) := by decide +kernel
theorem dL_law_198 : decode cL_law 198 = .ok (.iload_n 3, 1) := by decide +kernel
theorem dL_law_199 : decode cL_law 199 = .ok (.iconst 3, 1) := by decide +kernel
theorem dL_law_200 : decode cL_law 200 = .ok (.iadd, 1) := by decide +kernel
theorem dL_law_201 : decode cL_law 201 = .ok (.iaload, 1) := by decide +kernel
theorem dL_law_202 : decode cL_law 202 = .ok (.aload_n 0, 1) := by decide +kernel
theorem dL_law_203 : decode cL_law 203 = .ok (.iload_n 3, 1) := by decide +kernel
theorem dL_law_204 : decode cL_law 204 = .ok (.iconst 4, 1) := by decide +kernel
theorem dL_law_205 : decode cL_law 205 = .ok (.iadd, 1) := by decide +kernel
theorem dL_law_206 : decode cL_law 206 = .ok (.iaload, 1) := by decide +kernel
theorem dL_law_207 : decode cL_law 207 = .ok (.i2l, 1) := by decide +kernel
theorem dL_law_208 : decode cL_law 208 = .ok (.bipush 32, 2) := by decide +kernel
theorem dL_law_210 : decode cL_law 210 = .ok (.lshl, 1) := by decide +kernel
theorem dL_law_211 : decode cL_law 211 = .ok (.aload_n 0, 1) := by decide +kernel
theorem dL_law_212 : decode cL_law 212 = .ok (.iload_n 3, 1) := by decide +kernel
theorem dL_law_213 : decode cL_law 213 = .ok (.iconst 5, 1) := by decide +kernel
theorem dL_law_214 : decode cL_law 214 = .ok (.iadd, 1) := by decide +kernel
theorem dL_law_215 : decode cL_law 215 = .ok (.iaload, 1) := by decide +kernel
theorem dL_law_216 : decode cL_law 216 = .ok (.i2l, 1) := by decide +kernel
theorem dL_law_217 : decode cL_law 217 = .ok (.ldc2_w 23, 3) := by decide +kernel
theorem dL_law_220 : decode cL_law 220 = .ok (.land, 1) := by decide +kernel
theorem dL_law_221 : decode cL_law 221 = .ok (.lor, 1) := by decide +kernel
theorem dL_law_222 : decode cL_law 222 = .ok (.invokevirtual 25, 3) := by decide +kernel
theorem dL_law_225 : decode cL_law 225 = .ok (.aload_n 2, 1) := by decide +kernel
theorem dL_law_226 : decode cL_law 226 = .ok (.aload_n 0, 1) := by decide +kernel
theorem dL_law_227 : decode cL_law 227 = .ok (.iload_n 3, 1) := by decide +kernel
theorem dL_law_228 : decode cL_law 228 = .ok (.iconst 1, 1) := by decide +kernel
theorem dL_law_229 : decode cL_law 229 = .ok (.iadd, 1) := by decide +kernel
theorem dL_law_230 : decode cL_law 230 = .ok (.iaload, 1) := by decide +kernel
theorem dL_law_231 : decode cL_law 231 = .ok (.aload_n 0, 1) := by decide +kernel
theorem dL_law_232 : decode cL_law 232 = .ok (.iload_n 3, 1) := by decide +kernel
theorem dL_law_233 : decode cL_law 233 = .ok (.iconst 2, 1) := by decide +kernel
theorem dL_law_234 : decode cL_law 234 = .ok (.iadd, 1) := by decide +kernel
theorem dL_law_235 : decode cL_law 235 = .ok (.iaload, 1) := by decide +kernel
theorem dL_law_236 : decode cL_law 236 = .ok (.aload_n 0, 1) := by decide +kernel
theorem dL_law_237 : decode cL_law 237 = .ok (.iload_n 3, 1) := by decide +kernel
theorem dL_law_238 : decode cL_law 238 = .ok (.iconst 3, 1) := by decide +kernel
theorem dL_law_239 : decode cL_law 239 = .ok (.iadd, 1) := by decide +kernel
theorem dL_law_240 : decode cL_law 240 = .ok (.iaload, 1) := by decide +kernel
theorem dL_law_241 : decode cL_law 241 = .ok (.aload_n 0, 1) := by decide +kernel
theorem dL_law_242 : decode cL_law 242 = .ok (.iload_n 3, 1) := by decide +kernel
theorem dL_law_243 : decode cL_law 243 = .ok (.iconst 4, 1) := by decide +kernel
theorem dL_law_244 : decode cL_law 244 = .ok (.iadd, 1) := by decide +kernel
theorem dL_law_245 : decode cL_law 245 = .ok (.iaload, 1) := by decide +kernel
theorem dL_law_246 : decode cL_law 246 = .ok (.i2l, 1) := by decide +kernel
theorem dL_law_247 : decode cL_law 247 = .ok (.bipush 32, 2) := by decide +kernel
theorem dL_law_249 : decode cL_law 249 = .ok (.lshl, 1) := by decide +kernel
theorem dL_law_250 : decode cL_law 250 = .ok (.aload_n 0, 1) := by decide +kernel
theorem dL_law_251 : decode cL_law 251 = .ok (.iload_n 3, 1) := by decide +kernel
theorem dL_law_252 : decode cL_law 252 = .ok (.iconst 5, 1) := by decide +kernel
theorem dL_law_253 : decode cL_law 253 = .ok (.iadd, 1) := by decide +kernel
theorem dL_law_254 : decode cL_law 254 = .ok (.iaload, 1) := by decide +kernel
theorem dL_law_255 : decode cL_law 255 = .ok (.i2l, 1) := by decide +kernel
theorem dL_law_256 : decode cL_law 256 = .ok (.ldc2_w 23, 3) := by decide +kernel
theorem dL_law_259 : decode cL_law 259 = .ok (.land, 1) := by decide +kernel
theorem dL_law_260 : decode cL_law 260 = .ok (.lor, 1) := by decide +kernel
theorem dL_law_261 : decode cL_law 261 = .ok (.invokevirtual 29, 3) := by decide +kernel
theorem dL_law_264 : decode cL_law 264 = .ok (.if_icmp .eq 443, 3) := by decide +kernel
theorem dL_law_267 : decode cL_law 267 = .ok (.iconst 0, 1) := by decide +kernel
theorem dL_law_268 : decode cL_law 268 = .ok (.ireturn, 1) := by decide +kernel
theorem dL_law_269 : decode cL_law 269 = .ok (.aload_n 1, 1) := by decide +kernel
theorem dL_law_270 : decode cL_law 270 = .ok (.aload_n 0, 1) := by decide +kernel
theorem dL_law_271 : decode cL_law 271 = .ok (.iload_n 3, 1) := by decide +kernel
theorem dL_law_272 : decode cL_law 272 = .ok (.iconst 1, 1) := by decide +kernel
theorem dL_law_273 : decode cL_law 273 = .ok (.iadd, 1) := by decide +kernel
theorem dL_law_274 : decode cL_law 274 = .ok (.iaload, 1) := by decide +kernel
theorem dL_law_275 : decode cL_law 275 = .ok (.invokevirtual 30, 3) := by decide +kernel
theorem dL_law_278 : decode cL_law 278 = .ok (.aload_n 2, 1) := by decide +kernel
theorem dL_law_279 : decode cL_law 279 = .ok (.aload_n 0, 1) := by decide +kernel
theorem dL_law_280 : decode cL_law 280 = .ok (.iload_n 3, 1) := by decide +kernel
theorem dL_law_281 : decode cL_law 281 = .ok (.iconst 1, 1) := by decide +kernel
theorem dL_law_282 : decode cL_law 282 = .ok (.iadd, 1) := by decide +kernel
theorem dL_law_283 : decode cL_law 283 = .ok (.iaload, 1) := by decide +kernel
theorem dL_law_284 : decode cL_law 284 = .ok (.invokevirtual 34, 3) := by decide +kernel
theorem dL_law_287 : decode cL_law 287 = .ok (.if_icmp .eq 420, 3) := by decide +kernel
theorem dL_law_290 : decode cL_law 290 = .ok (.iconst 0, 1) := by decide +kernel
theorem dL_law_291 : decode cL_law 291 = .ok (.ireturn, 1) := by decide +kernel
theorem dL_law_292 : decode cL_law 292 = .ok (.aload_n 1, 1) := by decide +kernel
theorem dL_law_293 : decode cL_law 293 = .ok (.aload_n 0, 1) := by decide +kernel
theorem dL_law_294 : decode cL_law 294 = .ok (.iload_n 3, 1) := by decide +kernel
theorem dL_law_295 : decode cL_law 295 = .ok (.iconst 1, 1) := by decide +kernel
theorem dL_law_296 : decode cL_law 296 = .ok (.iadd, 1) := by decide +kernel
theorem dL_law_297 : decode cL_law 297 = .ok (.iaload, 1) := by decide +kernel
theorem dL_law_298 : decode cL_law 298 = .ok (.invokevirtual 35, 3) := by decide +kernel
theorem dL_law_301 : decode cL_law 301 = .ok (.aload_n 2, 1) := by decide +kernel
theorem dL_law_302 : decode cL_law 302 = .ok (.aload_n 0, 1) := by decide +kernel
theorem dL_law_303 : decode cL_law 303 = .ok (.iload_n 3, 1) := by decide +kernel
theorem dL_law_304 : decode cL_law 304 = .ok (.iconst 1, 1) := by decide +kernel
theorem dL_law_305 : decode cL_law 305 = .ok (.iadd, 1) := by decide +kernel
theorem dL_law_306 : decode cL_law 306 = .ok (.iaload, 1) := by decide +kernel
theorem dL_law_307 : decode cL_law 307 = .ok (.invokevirtual 38, 3) := by decide +kernel
theorem dL_law_310 : decode cL_law 310 = .ok (.if_icmp .eq 397, 3) := by decide +kernel
theorem dL_law_313 : decode cL_law 313 = .ok (.iconst 0, 1) := by decide +kernel
theorem dL_law_314 : decode cL_law 314 = .ok (.ireturn, 1) := by decide +kernel
theorem dL_law_315 : decode cL_law 315 = .ok (.aload_n 1, 1) := by decide +kernel
theorem dL_law_316 : decode cL_law 316 = .ok (.aload_n 0, 1) := by decide +kernel
theorem dL_law_317 : decode cL_law 317 = .ok (.iload_n 3, 1) := by decide +kernel
theorem dL_law_318 : decode cL_law 318 = .ok (.iconst 1, 1) := by decide +kernel
theorem dL_law_319 : decode cL_law 319 = .ok (.iadd, 1) := by decide +kernel
theorem dL_law_320 : decode cL_law 320 = .ok (.iaload, 1) := by decide +kernel
theorem dL_law_321 : decode cL_law 321 = .ok (.aload_n 0, 1) := by decide +kernel
theorem dL_law_322 : decode cL_law 322 = .ok (.iload_n 3, 1) := by decide +kernel
theorem dL_law_323 : decode cL_law 323 = .ok (.iconst 2, 1) := by decide +kernel
theorem dL_law_324 : decode cL_law 324 = .ok (.iadd, 1) := by decide +kernel
theorem dL_law_325 : decode cL_law 325 = .ok (.iaload, 1) := by decide +kernel
theorem dL_law_326 : decode cL_law 326 = .ok (.invokevirtual 39, 3) := by decide +kernel
theorem dL_law_329 : decode cL_law 329 = .ok (.aload_n 2, 1) := by decide +kernel
theorem dL_law_330 : decode cL_law 330 = .ok (.aload_n 0, 1) := by decide +kernel
theorem dL_law_331 : decode cL_law 331 = .ok (.iload_n 3, 1) := by decide +kernel
theorem dL_law_332 : decode cL_law 332 = .ok (.iconst 1, 1) := by decide +kernel
theorem dL_law_333 : decode cL_law 333 = .ok (.iadd, 1) := by decide +kernel
theorem dL_law_334 : decode cL_law 334 = .ok (.iaload, 1) := by decide +kernel
theorem dL_law_335 : decode cL_law 335 = .ok (.aload_n 0, 1) := by decide +kernel
theorem dL_law_336 : decode cL_law 336 = .ok (.iload_n 3, 1) := by decide +kernel
theorem dL_law_337 : decode cL_law 337 = .ok (.iconst 2, 1) := by decide +kernel
theorem dL_law_338 : decode cL_law 338 = .ok (.iadd, 1) := by decide +kernel
theorem dL_law_339 : decode cL_law 339 = .ok (.iaload, 1) := by decide +kernel
theorem dL_law_340 : decode cL_law 340 = .ok (.invokevirtual 43, 3) := by decide +kernel
theorem dL_law_343 : decode cL_law 343 = .ok (.if_icmp .eq 364, 3) := by decide +kernel
theorem dL_law_346 : decode cL_law 346 = .ok (.iconst 0, 1) := by decide +kernel
theorem dL_law_347 : decode cL_law 347 = .ok (.ireturn, 1) := by decide +kernel
theorem dL_law_348 : decode cL_law 348 = .ok (.aload_n 1, 1) := by decide +kernel
theorem dL_law_349 : decode cL_law 349 = .ok (.aload_n 0, 1) := by decide +kernel
theorem dL_law_350 : decode cL_law 350 = .ok (.iload_n 3, 1) := by decide +kernel
theorem dL_law_351 : decode cL_law 351 = .ok (.iconst 1, 1) := by decide +kernel
theorem dL_law_352 : decode cL_law 352 = .ok (.iadd, 1) := by decide +kernel
theorem dL_law_353 : decode cL_law 353 = .ok (.iaload, 1) := by decide +kernel
theorem dL_law_354 : decode cL_law 354 = .ok (.invokevirtual 44, 3) := by decide +kernel
theorem dL_law_357 : decode cL_law 357 = .ok (.aload_n 2, 1) := by decide +kernel
theorem dL_law_358 : decode cL_law 358 = .ok (.aload_n 0, 1) := by decide +kernel
theorem dL_law_359 : decode cL_law 359 = .ok (.iload_n 3, 1) := by decide +kernel
theorem dL_law_360 : decode cL_law 360 = .ok (.iconst 1, 1) := by decide +kernel
theorem dL_law_361 : decode cL_law 361 = .ok (.iadd, 1) := by decide +kernel
theorem dL_law_362 : decode cL_law 362 = .ok (.iaload, 1) := by decide +kernel
theorem dL_law_363 : decode cL_law 363 = .ok (.invokevirtual 48, 3) := by decide +kernel
theorem dL_law_366 : decode cL_law 366 = .ok (.lcmp, 1) := by decide +kernel
theorem dL_law_367 : decode cL_law 367 = .ok (.ifCond .eq 340, 3) := by decide +kernel
theorem dL_law_370 : decode cL_law 370 = .ok (.iconst 0, 1) := by decide +kernel
theorem dL_law_371 : decode cL_law 371 = .ok (.ireturn, 1) := by decide +kernel
theorem dL_law_372 : decode cL_law 372 = .ok (.aload_n 1, 1) := by decide +kernel
theorem dL_law_373 : decode cL_law 373 = .ok (.aload_n 0, 1) := by decide +kernel
theorem dL_law_374 : decode cL_law 374 = .ok (.iload_n 3, 1) := by decide +kernel
theorem dL_law_375 : decode cL_law 375 = .ok (.iconst 1, 1) := by decide +kernel
theorem dL_law_376 : decode cL_law 376 = .ok (.iadd, 1) := by decide +kernel
theorem dL_law_377 : decode cL_law 377 = .ok (.iaload, 1) := by decide +kernel
theorem dL_law_378 : decode cL_law 378 = .ok (.aload_n 0, 1) := by decide +kernel
theorem dL_law_379 : decode cL_law 379 = .ok (.iload_n 3, 1) := by decide +kernel
theorem dL_law_380 : decode cL_law 380 = .ok (.iconst 2, 1) := by decide +kernel
theorem dL_law_381 : decode cL_law 381 = .ok (.iadd, 1) := by decide +kernel
theorem dL_law_382 : decode cL_law 382 = .ok (.iaload, 1) := by decide +kernel
theorem dL_law_383 : decode cL_law 383 = .ok (.invokevirtual 49, 3) := by decide +kernel
theorem dL_law_386 : decode cL_law 386 = .ok (.aload_n 2, 1) := by decide +kernel
theorem dL_law_387 : decode cL_law 387 = .ok (.aload_n 0, 1) := by decide +kernel
theorem dL_law_388 : decode cL_law 388 = .ok (.iload_n 3, 1) := by decide +kernel
theorem dL_law_389 : decode cL_law 389 = .ok (.iconst 1, 1) := by decide +kernel
theorem dL_law_390 : decode cL_law 390 = .ok (.iadd, 1) := by decide +kernel
theorem dL_law_391 : decode cL_law 391 = .ok (.iaload, 1) := by decide +kernel
theorem dL_law_392 : decode cL_law 392 = .ok (.aload_n 0, 1) := by decide +kernel
theorem dL_law_393 : decode cL_law 393 = .ok (.iload_n 3, 1) := by decide +kernel
theorem dL_law_394 : decode cL_law 394 = .ok (.iconst 2, 1) := by decide +kernel
theorem dL_law_395 : decode cL_law 395 = .ok (.iadd, 1) := by decide +kernel
theorem dL_law_396 : decode cL_law 396 = .ok (.iaload, 1) := by decide +kernel
theorem dL_law_397 : decode cL_law 397 = .ok (.invokevirtual 52, 3) := by decide +kernel
theorem dL_law_400 : decode cL_law 400 = .ok (.if_icmp .eq 307, 3) := by decide +kernel
theorem dL_law_403 : decode cL_law 403 = .ok (.iconst 0, 1) := by decide +kernel
theorem dL_law_404 : decode cL_law 404 = .ok (.ireturn, 1) := by decide +kernel
theorem dL_law_405 : decode cL_law 405 = .ok (.aload_n 1, 1) := by decide +kernel
theorem dL_law_406 : decode cL_law 406 = .ok (.aload_n 0, 1) := by decide +kernel
theorem dL_law_407 : decode cL_law 407 = .ok (.iload_n 3, 1) := by decide +kernel
theorem dL_law_408 : decode cL_law 408 = .ok (.iconst 1, 1) := by decide +kernel
theorem dL_law_409 : decode cL_law 409 = .ok (.iadd, 1) := by decide +kernel
theorem dL_law_410 : decode cL_law 410 = .ok (.iaload, 1) := by decide +kernel
theorem dL_law_411 : decode cL_law 411 = .ok (.invokevirtual 53, 3) := by decide +kernel
theorem dL_law_414 : decode cL_law 414 = .ok (.aload_n 2, 1) := by decide +kernel
theorem dL_law_415 : decode cL_law 415 = .ok (.aload_n 0, 1) := by decide +kernel
theorem dL_law_416 : decode cL_law 416 = .ok (.iload_n 3, 1) := by decide +kernel
theorem dL_law_417 : decode cL_law 417 = .ok (.iconst 1, 1) := by decide +kernel
theorem dL_law_418 : decode cL_law 418 = .ok (.iadd, 1) := by decide +kernel
theorem dL_law_419 : decode cL_law 419 = .ok (.iaload, 1) := by decide +kernel
theorem dL_law_420 : decode cL_law 420 = .ok (.invokevirtual 56, 3) := by decide +kernel
theorem dL_law_423 : decode cL_law 423 = .ok (.if_icmp .eq 284, 3) := by decide +kernel
theorem dL_law_426 : decode cL_law 426 = .ok (.iconst 0, 1) := by decide +kernel
theorem dL_law_427 : decode cL_law 427 = .ok (.ireturn, 1) := by decide +kernel
theorem dL_law_428 : decode cL_law 428 = .ok (.aload_n 1, 1) := by decide +kernel
theorem dL_law_429 : decode cL_law 429 = .ok (.aload_n 0, 1) := by decide +kernel
theorem dL_law_430 : decode cL_law 430 = .ok (.iload_n 3, 1) := by decide +kernel
theorem dL_law_431 : decode cL_law 431 = .ok (.iconst 1, 1) := by decide +kernel
theorem dL_law_432 : decode cL_law 432 = .ok (.iadd, 1) := by decide +kernel
theorem dL_law_433 : decode cL_law 433 = .ok (.iaload, 1) := by decide +kernel
theorem dL_law_434 : decode cL_law 434 = .ok (.aload_n 0, 1) := by decide +kernel
theorem dL_law_435 : decode cL_law 435 = .ok (.iload_n 3, 1) := by decide +kernel
theorem dL_law_436 : decode cL_law 436 = .ok (.iconst 2, 1) := by decide +kernel
theorem dL_law_437 : decode cL_law 437 = .ok (.iadd, 1) := by decide +kernel
theorem dL_law_438 : decode cL_law 438 = .ok (.iaload, 1) := by decide +kernel
theorem dL_law_439 : decode cL_law 439 = .ok (.invokevirtual 57, 3) := by decide +kernel
theorem dL_law_442 : decode cL_law 442 = .ok (.aload_n 2, 1) := by decide +kernel
theorem dL_law_443 : decode cL_law 443 = .ok (.aload_n 0, 1) := by decide +kernel
theorem dL_law_444 : decode cL_law 444 = .ok (.iload_n 3, 1) := by decide +kernel
theorem dL_law_445 : decode cL_law 445 = .ok (.iconst 1, 1) := by decide +kernel
theorem dL_law_446 : decode cL_law 446 = .ok (.iadd, 1) := by decide +kernel
theorem dL_law_447 : decode cL_law 447 = .ok (.iaload, 1) := by decide +kernel
theorem dL_law_448 : decode cL_law 448 = .ok (.aload_n 0, 1) := by decide +kernel
theorem dL_law_449 : decode cL_law 449 = .ok (.iload_n 3, 1) := by decide +kernel
theorem dL_law_450 : decode cL_law 450 = .ok (.iconst 2, 1) := by decide +kernel
theorem dL_law_451 : decode cL_law 451 = .ok (.iadd, 1) := by decide +kernel
theorem dL_law_452 : decode cL_law 452 = .ok (.iaload, 1) := by decide +kernel
theorem dL_law_453 : decode cL_law 453 = .ok (.invokevirtual 60, 3) := by decide +kernel
theorem dL_law_456 : decode cL_law 456 = .ok (.if_icmp .eq 251, 3) := by decide +kernel
theorem dL_law_459 : decode cL_law 459 = .ok (.iconst 0, 1) := by decide +kernel
theorem dL_law_460 : decode cL_law 460 = .ok (.ireturn, 1) := by decide +kernel
theorem dL_law_461 : decode cL_law 461 = .ok (.aload_n 1, 1) := by decide +kernel
theorem dL_law_462 : decode cL_law 462 = .ok (.aload_n 0, 1) := by decide +kernel
theorem dL_law_463 : decode cL_law 463 = .ok (.iload_n 3, 1) := by decide +kernel
theorem dL_law_464 : decode cL_law 464 = .ok (.iconst 1, 1) := by decide +kernel
theorem dL_law_465 : decode cL_law 465 = .ok (.iadd, 1) := by decide +kernel
theorem dL_law_466 : decode cL_law 466 = .ok (.iaload, 1) := by decide +kernel
theorem dL_law_467 : decode cL_law 467 = .ok (.aload_n 0, 1) := by decide +kernel
theorem dL_law_468 : decode cL_law 468 = .ok (.iload_n 3, 1) := by decide +kernel
theorem dL_law_469 : decode cL_law 469 = .ok (.iconst 2, 1) := by decide +kernel
theorem dL_law_470 : decode cL_law 470 = .ok (.iadd, 1) := by decide +kernel
theorem dL_law_471 : decode cL_law 471 = .ok (.iaload, 1) := by decide +kernel
theorem dL_law_472 : decode cL_law 472 = .ok (.invokevirtual 61, 3) := by decide +kernel
theorem dL_law_475 : decode cL_law 475 = .ok (.aload_n 2, 1) := by decide +kernel
theorem dL_law_476 : decode cL_law 476 = .ok (.aload_n 0, 1) := by decide +kernel
theorem dL_law_477 : decode cL_law 477 = .ok (.iload_n 3, 1) := by decide +kernel
theorem dL_law_478 : decode cL_law 478 = .ok (.iconst 1, 1) := by decide +kernel
theorem dL_law_479 : decode cL_law 479 = .ok (.iadd, 1) := by decide +kernel
theorem dL_law_480 : decode cL_law 480 = .ok (.iaload, 1) := by decide +kernel
theorem dL_law_481 : decode cL_law 481 = .ok (.aload_n 0, 1) := by decide +kernel
theorem dL_law_482 : decode cL_law 482 = .ok (.iload_n 3, 1) := by decide +kernel
theorem dL_law_483 : decode cL_law 483 = .ok (.iconst 2, 1) := by decide +kernel
theorem dL_law_484 : decode cL_law 484 = .ok (.iadd, 1) := by decide +kernel
theorem dL_law_485 : decode cL_law 485 = .ok (.iaload, 1) := by decide +kernel
theorem dL_law_486 : decode cL_law 486 = .ok (.invokevirtual 64, 3) := by decide +kernel
theorem dL_law_489 : decode cL_law 489 = .ok (.if_icmp .eq 218, 3) := by decide +kernel
theorem dL_law_492 : decode cL_law 492 = .ok (.iconst 0, 1) := by decide +kernel
theorem dL_law_493 : decode cL_law 493 = .ok (.ireturn, 1) := by decide +kernel
theorem dL_law_494 : decode cL_law 494 = .ok (.aload_n 1, 1) := by decide +kernel
theorem dL_law_495 : decode cL_law 495 = .ok (.aload_n 0, 1) := by decide +kernel
theorem dL_law_496 : decode cL_law 496 = .ok (.iload_n 3, 1) := by decide +kernel
theorem dL_law_497 : decode cL_law 497 = .ok (.iconst 1, 1) := by decide +kernel
theorem dL_law_498 : decode cL_law 498 = .ok (.iadd, 1) := by decide +kernel
theorem dL_law_499 : decode cL_law 499 = .ok (.iaload, 1) := by decide +kernel
theorem dL_law_500 : decode cL_law 500 = .ok (.aload_n 0, 1) := by decide +kernel
theorem dL_law_501 : decode cL_law 501 = .ok (.iload_n 3, 1) := by decide +kernel
theorem dL_law_502 : decode cL_law 502 = .ok (.iconst 2, 1) := by decide +kernel
theorem dL_law_503 : decode cL_law 503 = .ok (.iadd, 1) := by decide +kernel
theorem dL_law_504 : decode cL_law 504 = .ok (.iaload, 1) := by decide +kernel
theorem dL_law_505 : decode cL_law 505 = .ok (.aload_n 0, 1) := by decide +kernel
theorem dL_law_506 : decode cL_law 506 = .ok (.iload_n 3, 1) := by decide +kernel
theorem dL_law_507 : decode cL_law 507 = .ok (.iconst 3, 1) := by decide +kernel
theorem dL_law_508 : decode cL_law 508 = .ok (.iadd, 1) := by decide +kernel
theorem dL_law_509 : decode cL_law 509 = .ok (.iaload, 1) := by decide +kernel
theorem dL_law_510 : decode cL_law 510 = .ok (.invokevirtual 65, 3) := by decide +kernel
theorem dL_law_513 : decode cL_law 513 = .ok (.aload_n 2, 1) := by decide +kernel
theorem dL_law_514 : decode cL_law 514 = .ok (.aload_n 0, 1) := by decide +kernel
theorem dL_law_515 : decode cL_law 515 = .ok (.iload_n 3, 1) := by decide +kernel
theorem dL_law_516 : decode cL_law 516 = .ok (.iconst 1, 1) := by decide +kernel
theorem dL_law_517 : decode cL_law 517 = .ok (.iadd, 1) := by decide +kernel
theorem dL_law_518 : decode cL_law 518 = .ok (.iaload, 1) := by decide +kernel
theorem dL_law_519 : decode cL_law 519 = .ok (.aload_n 0, 1) := by decide +kernel
theorem dL_law_520 : decode cL_law 520 = .ok (.iload_n 3, 1) := by decide +kernel
theorem dL_law_521 : decode cL_law 521 = .ok (.iconst 2, 1) := by decide +kernel
theorem dL_law_522 : decode cL_law 522 = .ok (.iadd, 1) := by decide +kernel
theorem dL_law_523 : decode cL_law 523 = .ok (.iaload, 1) := by decide +kernel
theorem dL_law_524 : decode cL_law 524 = .ok (.aload_n 0, 1) := by decide +kernel
theorem dL_law_525 : decode cL_law 525 = .ok (.iload_n 3, 1) := by decide +kernel
theorem dL_law_526 : decode cL_law 526 = .ok (.iconst 3, 1) := by decide +kernel
theorem dL_law_527 : decode cL_law 527 = .ok (.iadd, 1) := by decide +kernel
theorem dL_law_528 : decode cL_law 528 = .ok (.iaload, 1) := by decide +kernel
theorem dL_law_529 : decode cL_law 529 = .ok (.invokevirtual 69, 3) := by decide +kernel
theorem dL_law_532 : decode cL_law 532 = .ok (.lcmp, 1) := by decide +kernel
theorem dL_law_533 : decode cL_law 533 = .ok (.ifCond .eq 174, 3) := by decide +kernel
theorem dL_law_536 : decode cL_law 536 = .ok (.iconst 0, 1) := by decide +kernel
theorem dL_law_537 : decode cL_law 537 = .ok (.ireturn, 1) := by decide +kernel
theorem dL_law_538 : decode cL_law 538 = .ok (.aload_n 1, 1) := by decide +kernel
theorem dL_law_539 : decode cL_law 539 = .ok (.aload_n 0, 1) := by decide +kernel
theorem dL_law_540 : decode cL_law 540 = .ok (.iload_n 3, 1) := by decide +kernel
theorem dL_law_541 : decode cL_law 541 = .ok (.iconst 1, 1) := by decide +kernel
theorem dL_law_542 : decode cL_law 542 = .ok (.iadd, 1) := by decide +kernel
theorem dL_law_543 : decode cL_law 543 = .ok (.iaload, 1) := by decide +kernel
theorem dL_law_544 : decode cL_law 544 = .ok (.aload_n 0, 1) := by decide +kernel
theorem dL_law_545 : decode cL_law 545 = .ok (.iload_n 3, 1) := by decide +kernel
theorem dL_law_546 : decode cL_law 546 = .ok (.iconst 2, 1) := by decide +kernel
theorem dL_law_547 : decode cL_law 547 = .ok (.iadd, 1) := by decide +kernel
theorem dL_law_548 : decode cL_law 548 = .ok (.iaload, 1) := by decide +kernel
theorem dL_law_549 : decode cL_law 549 = .ok (.invokevirtual 70, 3) := by decide +kernel
theorem dL_law_552 : decode cL_law 552 = .ok (.aload_n 2, 1) := by decide +kernel
theorem dL_law_553 : decode cL_law 553 = .ok (.aload_n 0, 1) := by decide +kernel
theorem dL_law_554 : decode cL_law 554 = .ok (.iload_n 3, 1) := by decide +kernel
theorem dL_law_555 : decode cL_law 555 = .ok (.iconst 1, 1) := by decide +kernel
theorem dL_law_556 : decode cL_law 556 = .ok (.iadd, 1) := by decide +kernel
theorem dL_law_557 : decode cL_law 557 = .ok (.iaload, 1) := by decide +kernel
theorem dL_law_558 : decode cL_law 558 = .ok (.aload_n 0, 1) := by decide +kernel
theorem dL_law_559 : decode cL_law 559 = .ok (.iload_n 3, 1) := by decide +kernel
theorem dL_law_560 : decode cL_law 560 = .ok (.iconst 2, 1) := by decide +kernel
theorem dL_law_561 : decode cL_law 561 = .ok (.iadd, 1) := by decide +kernel
theorem dL_law_562 : decode cL_law 562 = .ok (.iaload, 1) := by decide +kernel
theorem dL_law_563 : decode cL_law 563 = .ok (.invokevirtual 73, 3) := by decide +kernel
theorem dL_law_566 : decode cL_law 566 = .ok (.if_icmp .eq 141, 3) := by decide +kernel
theorem dL_law_569 : decode cL_law 569 = .ok (.iconst 0, 1) := by decide +kernel
theorem dL_law_570 : decode cL_law 570 = .ok (.ireturn, 1) := by decide +kernel
theorem dL_law_571 : decode cL_law 571 = .ok (.aload_n 1, 1) := by decide +kernel
theorem dL_law_572 : decode cL_law 572 = .ok (.aload_n 0, 1) := by decide +kernel
theorem dL_law_573 : decode cL_law 573 = .ok (.iload_n 3, 1) := by decide +kernel
theorem dL_law_574 : decode cL_law 574 = .ok (.iconst 1, 1) := by decide +kernel
theorem dL_law_575 : decode cL_law 575 = .ok (.iadd, 1) := by decide +kernel
theorem dL_law_576 : decode cL_law 576 = .ok (.iaload, 1) := by decide +kernel
theorem dL_law_577 : decode cL_law 577 = .ok (.aload_n 0, 1) := by decide +kernel
theorem dL_law_578 : decode cL_law 578 = .ok (.iload_n 3, 1) := by decide +kernel
theorem dL_law_579 : decode cL_law 579 = .ok (.iconst 2, 1) := by decide +kernel
theorem dL_law_580 : decode cL_law 580 = .ok (.iadd, 1) := by decide +kernel
theorem dL_law_581 : decode cL_law 581 = .ok (.iaload, 1) := by decide +kernel
theorem dL_law_582 : decode cL_law 582 = .ok (.invokevirtual 74, 3) := by decide +kernel
theorem dL_law_585 : decode cL_law 585 = .ok (.aload_n 2, 1) := by decide +kernel
theorem dL_law_586 : decode cL_law 586 = .ok (.aload_n 0, 1) := by decide +kernel
theorem dL_law_587 : decode cL_law 587 = .ok (.iload_n 3, 1) := by decide +kernel
theorem dL_law_588 : decode cL_law 588 = .ok (.iconst 1, 1) := by decide +kernel
theorem dL_law_589 : decode cL_law 589 = .ok (.iadd, 1) := by decide +kernel
theorem dL_law_590 : decode cL_law 590 = .ok (.iaload, 1) := by decide +kernel
theorem dL_law_591 : decode cL_law 591 = .ok (.aload_n 0, 1) := by decide +kernel
theorem dL_law_592 : decode cL_law 592 = .ok (.iload_n 3, 1) := by decide +kernel
theorem dL_law_593 : decode cL_law 593 = .ok (.iconst 2, 1) := by decide +kernel
theorem dL_law_594 : decode cL_law 594 = .ok (.iadd, 1) := by decide +kernel
theorem dL_law_595 : decode cL_law 595 = .ok (.iaload, 1) := by decide +kernel
theorem dL_law_596 : decode cL_law 596 = .ok (.invokevirtual 77, 3) := by decide +kernel
theorem dL_law_599 : decode cL_law 599 = .ok (.if_icmp .eq 108, 3) := by decide +kernel
theorem dL_law_602 : decode cL_law 602 = .ok (.iconst 0, 1) := by decide +kernel
theorem dL_law_603 : decode cL_law 603 = .ok (.ireturn, 1) := by decide +kernel
theorem dL_law_604 : decode cL_law 604 = .ok (.aload_n 1, 1) := by decide +kernel
theorem dL_law_605 : decode cL_law 605 = .ok (.invokevirtual 78, 3) := by decide +kernel
theorem dL_law_608 : decode cL_law 608 = .ok (.aload_n 2, 1) := by decide +kernel
theorem dL_law_609 : decode cL_law 609 = .ok (.invokevirtual 82, 3) := by decide +kernel
theorem dL_law_612 : decode cL_law 612 = .ok (.if_icmp .eq 95, 3) := by decide +kernel
theorem dL_law_615 : decode cL_law 615 = .ok (.iconst 0, 1) := by decide +kernel
theorem dL_law_616 : decode cL_law 616 = .ok (.ireturn, 1) := by decide +kernel
theorem dL_law_617 : decode cL_law 617 = .ok (.aload_n 1, 1) := by decide +kernel
theorem dL_law_618 : decode cL_law 618 = .ok (.aload_n 0, 1) := by decide +kernel
theorem dL_law_619 : decode cL_law 619 = .ok (.iload_n 3, 1) := by decide +kernel
theorem dL_law_620 : decode cL_law 620 = .ok (.iconst 1, 1) := by decide +kernel
theorem dL_law_621 : decode cL_law 621 = .ok (.iadd, 1) := by decide +kernel
theorem dL_law_622 : decode cL_law 622 = .ok (.iaload, 1) := by decide +kernel
theorem dL_law_623 : decode cL_law 623 = .ok (.aload_n 0, 1) := by decide +kernel
theorem dL_law_624 : decode cL_law 624 = .ok (.iload_n 3, 1) := by decide +kernel
theorem dL_law_625 : decode cL_law 625 = .ok (.iconst 2, 1) := by decide +kernel
theorem dL_law_626 : decode cL_law 626 = .ok (.iadd, 1) := by decide +kernel
theorem dL_law_627 : decode cL_law 627 = .ok (.iaload, 1) := by decide +kernel
theorem dL_law_628 : decode cL_law 628 = .ok (.invokevirtual 83, 3) := by decide +kernel
theorem dL_law_631 : decode cL_law 631 = .ok (.aload_n 2, 1) := by decide +kernel
theorem dL_law_632 : decode cL_law 632 = .ok (.aload_n 0, 1) := by decide +kernel
theorem dL_law_633 : decode cL_law 633 = .ok (.iload_n 3, 1) := by decide +kernel
theorem dL_law_634 : decode cL_law 634 = .ok (.iconst 1, 1) := by decide +kernel
theorem dL_law_635 : decode cL_law 635 = .ok (.iadd, 1) := by decide +kernel
theorem dL_law_636 : decode cL_law 636 = .ok (.iaload, 1) := by decide +kernel
theorem dL_law_637 : decode cL_law 637 = .ok (.aload_n 0, 1) := by decide +kernel
theorem dL_law_638 : decode cL_law 638 = .ok (.iload_n 3, 1) := by decide +kernel
theorem dL_law_639 : decode cL_law 639 = .ok (.iconst 2, 1) := by decide +kernel
theorem dL_law_640 : decode cL_law 640 = .ok (.iadd, 1) := by decide +kernel
theorem dL_law_641 : decode cL_law 641 = .ok (.iaload, 1) := by decide +kernel
theorem dL_law_642 : decode cL_law 642 = .ok (.invokevirtual 86, 3) := by decide +kernel
theorem dL_law_645 : decode cL_law 645 = .ok (.if_icmp .eq 62, 3) := by decide +kernel
theorem dL_law_648 : decode cL_law 648 = .ok (.iconst 0, 1) := by decide +kernel
theorem dL_law_649 : decode cL_law 649 = .ok (.ireturn, 1) := by decide +kernel
theorem dL_law_650 : decode cL_law 650 = .ok (.aload_n 1, 1) := by decide +kernel
theorem dL_law_651 : decode cL_law 651 = .ok (.aload_n 0, 1) := by decide +kernel
theorem dL_law_652 : decode cL_law 652 = .ok (.iload_n 3, 1) := by decide +kernel
theorem dL_law_653 : decode cL_law 653 = .ok (.iconst 1, 1) := by decide +kernel
theorem dL_law_654 : decode cL_law 654 = .ok (.iadd, 1) := by decide +kernel
theorem dL_law_655 : decode cL_law 655 = .ok (.iaload, 1) := by decide +kernel
theorem dL_law_656 : decode cL_law 656 = .ok (.aload_n 0, 1) := by decide +kernel
theorem dL_law_657 : decode cL_law 657 = .ok (.iload_n 3, 1) := by decide +kernel
theorem dL_law_658 : decode cL_law 658 = .ok (.iconst 2, 1) := by decide +kernel
theorem dL_law_659 : decode cL_law 659 = .ok (.iadd, 1) := by decide +kernel
theorem dL_law_660 : decode cL_law 660 = .ok (.iaload, 1) := by decide +kernel
theorem dL_law_661 : decode cL_law 661 = .ok (.invokevirtual 87, 3) := by decide +kernel
theorem dL_law_664 : decode cL_law 664 = .ok (.aload_n 2, 1) := by decide +kernel
theorem dL_law_665 : decode cL_law 665 = .ok (.aload_n 0, 1) := by decide +kernel
theorem dL_law_666 : decode cL_law 666 = .ok (.iload_n 3, 1) := by decide +kernel
theorem dL_law_667 : decode cL_law 667 = .ok (.iconst 1, 1) := by decide +kernel
theorem dL_law_668 : decode cL_law 668 = .ok (.iadd, 1) := by decide +kernel
theorem dL_law_669 : decode cL_law 669 = .ok (.iaload, 1) := by decide +kernel
theorem dL_law_670 : decode cL_law 670 = .ok (.aload_n 0, 1) := by decide +kernel
theorem dL_law_671 : decode cL_law 671 = .ok (.iload_n 3, 1) := by decide +kernel
theorem dL_law_672 : decode cL_law 672 = .ok (.iconst 2, 1) := by decide +kernel
theorem dL_law_673 : decode cL_law 673 = .ok (.iadd, 1) := by decide +kernel
theorem dL_law_674 : decode cL_law 674 = .ok (.iaload, 1) := by decide +kernel
theorem dL_law_675 : decode cL_law 675 = .ok (.invokevirtual 91, 3) := by decide +kernel
theorem dL_law_678 : decode cL_law 678 = .ok (.lcmp, 1) := by decide +kernel
theorem dL_law_679 : decode cL_law 679 = .ok (.ifCond .eq 28, 3) := by decide +kernel
theorem dL_law_682 : decode cL_law 682 = .ok (.iconst 0, 1) := by decide +kernel
theorem dL_law_683 : decode cL_law 683 = .ok (.ireturn, 1) := by decide +kernel
theorem dL_law_684 : decode cL_law 684 = .ok (.aload_n 1, 1) := by decide +kernel
theorem dL_law_685 : decode cL_law 685 = .ok (.aload_n 0, 1) := by decide +kernel
theorem dL_law_686 : decode cL_law 686 = .ok (.iload_n 3, 1) := by decide +kernel
theorem dL_law_687 : decode cL_law 687 = .ok (.iconst 1, 1) := by decide +kernel
theorem dL_law_688 : decode cL_law 688 = .ok (.iadd, 1) := by decide +kernel
theorem dL_law_689 : decode cL_law 689 = .ok (.iaload, 1) := by decide +kernel
theorem dL_law_690 : decode cL_law 690 = .ok (.invokevirtual 92, 3) := by decide +kernel
theorem dL_law_693 : decode cL_law 693 = .ok (.aload_n 2, 1) := by decide +kernel
theorem dL_law_694 : decode cL_law 694 = .ok (.aload_n 0, 1) := by decide +kernel
theorem dL_law_695 : decode cL_law 695 = .ok (.iload_n 3, 1) := by decide +kernel
theorem dL_law_696 : decode cL_law 696 = .ok (.iconst 1, 1) := by decide +kernel
theorem dL_law_697 : decode cL_law 697 = .ok (.iadd, 1) := by decide +kernel
theorem dL_law_698 : decode cL_law 698 = .ok (.iaload, 1) := by decide +kernel
theorem dL_law_699 : decode cL_law 699 = .ok (.invokevirtual 95, 3) := by decide +kernel
theorem dL_law_702 : decode cL_law 702 = .ok (.if_icmp .eq 5, 3) := by decide +kernel
theorem dL_law_705 : decode cL_law 705 = .ok (.iconst 0, 1) := by decide +kernel
theorem dL_law_706 : decode cL_law 706 = .ok (.ireturn, 1) := by decide +kernel
theorem dL_law_707 : decode cL_law 707 = .ok (.iinc 3 6, 3) := by decide +kernel
theorem dL_law_710 : decode cL_law 710 = .ok (.goto (-692), 3) := by decide +kernel
theorem dL_law_713 : decode cL_law 713 = .ok (.iconst 1, 1) := by decide +kernel
theorem dL_law_714 : decode cL_law 714 = .ok (.ireturn, 1) := by decide +kernel
end

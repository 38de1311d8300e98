section
-- ===== PART A: goes FIRST, ahead of the names: the tables' words, and 'selects' of the private methods out of them =====
/-- a private method of a class that the tables say can be made, by its rows of tables_1 -/
def lw_okq (q : MethodName × Nat) : Prop := (q.1.cls ≠ "java/lang/invoke/MethodHandle" ∧ q.1.cls ≠ "java/lang/invoke/VarHandle") ∧ Cond.instantiable q.1.cls q.2 ∈ tables_1 ∧ Cond.privateMethod q.1 ∈ tables_1 ∧ Cond.instanceMethod q.1 ∈ tables_1
theorem lw_p0 : lw_okq (⟨"CallMarket", "riskOf", "(I)J"⟩, 6) := ⟨⟨by decide +kernel, by decide +kernel⟩, List.mem_of_getElem? (i := 12) (by decide +kernel), List.mem_of_getElem? (i := 138) (by decide +kernel), List.mem_of_getElem? (i := 139) (by decide +kernel)⟩
theorem lw_p1 : lw_okq (⟨"CallMarket", "riskWith", "(IIII)J"⟩, 6) := ⟨⟨by decide +kernel, by decide +kernel⟩, List.mem_of_getElem? (i := 12) (by decide +kernel), List.mem_of_getElem? (i := 142) (by decide +kernel), List.mem_of_getElem? (i := 143) (by decide +kernel)⟩
theorem lw_p2 : lw_okq (⟨"CallMarket", "admit", "(LCallMarket$Order;LCallMarket$Book;)V"⟩, 6) := ⟨⟨by decide +kernel, by decide +kernel⟩, List.mem_of_getElem? (i := 12) (by decide +kernel), List.mem_of_getElem? (i := 254) (by decide +kernel), List.mem_of_getElem? (i := 255) (by decide +kernel)⟩
theorem lw_p3 : lw_okq (⟨"CallMarket", "meet", "(LCallMarket$Order;LCallMarket$Book;)V"⟩, 6) := ⟨⟨by decide +kernel, by decide +kernel⟩, List.mem_of_getElem? (i := 12) (by decide +kernel), List.mem_of_getElem? (i := 258) (by decide +kernel), List.mem_of_getElem? (i := 259) (by decide +kernel)⟩
theorem lw_p4 : lw_okq (⟨"CallMarket", "takeAway", "(LCallMarket$Order;I)V"⟩, 6) := ⟨⟨by decide +kernel, by decide +kernel⟩, List.mem_of_getElem? (i := 12) (by decide +kernel), List.mem_of_getElem? (i := 264) (by decide +kernel), List.mem_of_getElem? (i := 265) (by decide +kernel)⟩
theorem lw_p5 : lw_okq (⟨"CallMarket$Side", "link", "(LCallMarket$Order;LCallMarket$Order;)V"⟩, 1) := ⟨⟨by decide +kernel, by decide +kernel⟩, List.mem_of_getElem? (i := 77) (by decide +kernel), List.mem_of_getElem? (i := 276) (by decide +kernel), List.mem_of_getElem? (i := 277) (by decide +kernel)⟩
theorem lw_p6 : lw_okq (⟨"CallMarket", "tradeWithShown", "(LCallMarket$Order;LCallMarket$Order;LCallMarket$Side;)V"⟩, 6) := ⟨⟨by decide +kernel, by decide +kernel⟩, List.mem_of_getElem? (i := 12) (by decide +kernel), List.mem_of_getElem? (i := 280) (by decide +kernel), List.mem_of_getElem? (i := 281) (by decide +kernel)⟩
theorem lw_p7 : lw_okq (⟨"CallMarket", "exchange", "(LCallMarket$Order;LCallMarket$Order;II)V"⟩, 6) := ⟨⟨by decide +kernel, by decide +kernel⟩, List.mem_of_getElem? (i := 12) (by decide +kernel), List.mem_of_getElem? (i := 287) (by decide +kernel), List.mem_of_getElem? (i := 288) (by decide +kernel)⟩
theorem lw_p8 : lw_okq (⟨"CallMarket", "findResting", "(II)LCallMarket$Order;"⟩, 6) := ⟨⟨by decide +kernel, by decide +kernel⟩, List.mem_of_getElem? (i := 12) (by decide +kernel), List.mem_of_getElem? (i := 315) (by decide +kernel), List.mem_of_getElem? (i := 316) (by decide +kernel)⟩
theorem lw_p9 : lw_okq (⟨"CallMarket", "find", "(I)LCallMarket$Order;"⟩, 6) := ⟨⟨by decide +kernel, by decide +kernel⟩, List.mem_of_getElem? (i := 12) (by decide +kernel), List.mem_of_getElem? (i := 319) (by decide +kernel), List.mem_of_getElem? (i := 320) (by decide +kernel)⟩
theorem lw_p10 : lw_okq (⟨"CallMarket$Scale", "weigh", "(LCallMarket$Book;)V"⟩, 2) := ⟨⟨by decide +kernel, by decide +kernel⟩, List.mem_of_getElem? (i := 41) (by decide +kernel), List.mem_of_getElem? (i := 335) (by decide +kernel), List.mem_of_getElem? (i := 336) (by decide +kernel)⟩
theorem lw_p11 : lw_okq (⟨"CallMarket$Scale", "choose", "(III)I"⟩, 2) := ⟨⟨by decide +kernel, by decide +kernel⟩, List.mem_of_getElem? (i := 41) (by decide +kernel), List.mem_of_getElem? (i := 352) (by decide +kernel), List.mem_of_getElem? (i := 353) (by decide +kernel)⟩
theorem lw_p12 : lw_okq (⟨"CallMarket", "tradeAll", "(LCallMarket$Book;I)I"⟩, 6) := ⟨⟨by decide +kernel, by decide +kernel⟩, List.mem_of_getElem? (i := 12) (by decide +kernel), List.mem_of_getElem? (i := 356) (by decide +kernel), List.mem_of_getElem? (i := 357) (by decide +kernel)⟩
theorem lw_p13 : lw_okq (⟨"CallMarket", "keepOrFill", "(LCallMarket$Order;)V"⟩, 6) := ⟨⟨by decide +kernel, by decide +kernel⟩, List.mem_of_getElem? (i := 12) (by decide +kernel), List.mem_of_getElem? (i := 360) (by decide +kernel), List.mem_of_getElem? (i := 361) (by decide +kernel)⟩
theorem lw_p14 : lw_okq (⟨"CallMarketModel", "riskWith", "(IIII)J"⟩, 21) := ⟨⟨by decide +kernel, by decide +kernel⟩, List.mem_of_getElem? (i := 445) (by decide +kernel), List.mem_of_getElem? (i := 529) (by decide +kernel), List.mem_of_getElem? (i := 530) (by decide +kernel)⟩
theorem lw_p15 : lw_okq (⟨"CallMarketModel", "unfit", "(IIIIII)Z"⟩, 21) := ⟨⟨by decide +kernel, by decide +kernel⟩, List.mem_of_getElem? (i := 445) (by decide +kernel), List.mem_of_getElem? (i := 540) (by decide +kernel), List.mem_of_getElem? (i := 541) (by decide +kernel)⟩
def lw_privs_1 : List (MethodName × Nat) := [(⟨"CallMarket", "riskOf", "(I)J"⟩, 6), (⟨"CallMarket", "riskWith", "(IIII)J"⟩, 6), (⟨"CallMarket", "admit", "(LCallMarket$Order;LCallMarket$Book;)V"⟩, 6), (⟨"CallMarket", "meet", "(LCallMarket$Order;LCallMarket$Book;)V"⟩, 6), (⟨"CallMarket", "takeAway", "(LCallMarket$Order;I)V"⟩, 6), (⟨"CallMarket$Side", "link", "(LCallMarket$Order;LCallMarket$Order;)V"⟩, 1), (⟨"CallMarket", "tradeWithShown", "(LCallMarket$Order;LCallMarket$Order;LCallMarket$Side;)V"⟩, 6), (⟨"CallMarket", "exchange", "(LCallMarket$Order;LCallMarket$Order;II)V"⟩, 6), (⟨"CallMarket", "findResting", "(II)LCallMarket$Order;"⟩, 6), (⟨"CallMarket", "find", "(I)LCallMarket$Order;"⟩, 6), (⟨"CallMarket$Scale", "weigh", "(LCallMarket$Book;)V"⟩, 2), (⟨"CallMarket$Scale", "choose", "(III)I"⟩, 2), (⟨"CallMarket", "tradeAll", "(LCallMarket$Book;I)I"⟩, 6), (⟨"CallMarket", "keepOrFill", "(LCallMarket$Order;)V"⟩, 6), (⟨"CallMarketModel", "riskWith", "(IIII)J"⟩, 21), (⟨"CallMarketModel", "unfit", "(IIIIII)Z"⟩, 21)]
theorem lw_r1 : ∀ q ∈ lw_privs_1, lw_okq q := List.forall_mem_cons.mpr ⟨lw_p0, List.forall_mem_cons.mpr ⟨lw_p1, List.forall_mem_cons.mpr ⟨lw_p2, List.forall_mem_cons.mpr ⟨lw_p3, List.forall_mem_cons.mpr ⟨lw_p4, List.forall_mem_cons.mpr ⟨lw_p5, List.forall_mem_cons.mpr ⟨lw_p6, List.forall_mem_cons.mpr ⟨lw_p7, List.forall_mem_cons.mpr ⟨lw_p8, List.forall_mem_cons.mpr ⟨lw_p9, List.forall_mem_cons.mpr ⟨lw_p10, List.forall_mem_cons.mpr ⟨lw_p11, List.forall_mem_cons.mpr ⟨lw_p12, List.forall_mem_cons.mpr ⟨lw_p13, List.forall_mem_cons.mpr ⟨lw_p14, List.forall_mem_cons.mpr ⟨lw_p15, fun _ h => absurd h List.not_mem_nil⟩⟩⟩⟩⟩⟩⟩⟩⟩⟩⟩⟩⟩⟩⟩⟩
theorem lw_p16 : lw_okq (⟨"CallMarketModel", "waits", "(III)Z"⟩, 21) := ⟨⟨by decide +kernel, by decide +kernel⟩, List.mem_of_getElem? (i := 445) (by decide +kernel), List.mem_of_getElem? (i := 544) (by decide +kernel), List.mem_of_getElem? (i := 545) (by decide +kernel)⟩
theorem lw_p17 : lw_okq (⟨"CallMarketModel", "meet", "(I)Z"⟩, 21) := ⟨⟨by decide +kernel, by decide +kernel⟩, List.mem_of_getElem? (i := 445) (by decide +kernel), List.mem_of_getElem? (i := 551) (by decide +kernel), List.mem_of_getElem? (i := 552) (by decide +kernel)⟩
theorem lw_p18 : lw_okq (⟨"CallMarketModel", "front", "(II)I"⟩, 21) := ⟨⟨by decide +kernel, by decide +kernel⟩, List.mem_of_getElem? (i := 445) (by decide +kernel), List.mem_of_getElem? (i := 555) (by decide +kernel), List.mem_of_getElem? (i := 556) (by decide +kernel)⟩
theorem lw_p19 : lw_okq (⟨"CallMarketModel", "shows", "(I)I"⟩, 21) := ⟨⟨by decide +kernel, by decide +kernel⟩, List.mem_of_getElem? (i := 445) (by decide +kernel), List.mem_of_getElem? (i := 562) (by decide +kernel), List.mem_of_getElem? (i := 563) (by decide +kernel)⟩
theorem lw_p20 : lw_okq (⟨"CallMarketModel", "swap", "(IIII)V"⟩, 21) := ⟨⟨by decide +kernel, by decide +kernel⟩, List.mem_of_getElem? (i := 445) (by decide +kernel), List.mem_of_getElem? (i := 566) (by decide +kernel), List.mem_of_getElem? (i := 567) (by decide +kernel)⟩
theorem lw_p21 : lw_okq (⟨"CallMarketModel", "queue", "(I)V"⟩, 21) := ⟨⟨by decide +kernel, by decide +kernel⟩, List.mem_of_getElem? (i := 445) (by decide +kernel), List.mem_of_getElem? (i := 570) (by decide +kernel), List.mem_of_getElem? (i := 571) (by decide +kernel)⟩
theorem lw_p22 : lw_okq (⟨"CallMarketModel", "isResting", "(I)Z"⟩, 21) := ⟨⟨by decide +kernel, by decide +kernel⟩, List.mem_of_getElem? (i := 445) (by decide +kernel), List.mem_of_getElem? (i := 578) (by decide +kernel), List.mem_of_getElem? (i := 579) (by decide +kernel)⟩
theorem lw_p23 : lw_okq (⟨"CallMarketModel", "look", "(I)V"⟩, 21) := ⟨⟨by decide +kernel, by decide +kernel⟩, List.mem_of_getElem? (i := 445) (by decide +kernel), List.mem_of_getElem? (i := 590) (by decide +kernel), List.mem_of_getElem? (i := 591) (by decide +kernel)⟩
theorem lw_p24 : lw_okq (⟨"CallMarketModel", "willing", "(III)I"⟩, 21) := ⟨⟨by decide +kernel, by decide +kernel⟩, List.mem_of_getElem? (i := 445) (by decide +kernel), List.mem_of_getElem? (i := 594) (by decide +kernel), List.mem_of_getElem? (i := 595) (by decide +kernel)⟩
theorem lw_p25 : lw_okq (⟨"CallMarketModel", "after", "(I)V"⟩, 21) := ⟨⟨by decide +kernel, by decide +kernel⟩, List.mem_of_getElem? (i := 445) (by decide +kernel), List.mem_of_getElem? (i := 601) (by decide +kernel), List.mem_of_getElem? (i := 602) (by decide +kernel)⟩
def lw_privs_2 : List (MethodName × Nat) := [(⟨"CallMarketModel", "waits", "(III)Z"⟩, 21), (⟨"CallMarketModel", "meet", "(I)Z"⟩, 21), (⟨"CallMarketModel", "front", "(II)I"⟩, 21), (⟨"CallMarketModel", "shows", "(I)I"⟩, 21), (⟨"CallMarketModel", "swap", "(IIII)V"⟩, 21), (⟨"CallMarketModel", "queue", "(I)V"⟩, 21), (⟨"CallMarketModel", "isResting", "(I)Z"⟩, 21), (⟨"CallMarketModel", "look", "(I)V"⟩, 21), (⟨"CallMarketModel", "willing", "(III)I"⟩, 21), (⟨"CallMarketModel", "after", "(I)V"⟩, 21)]
theorem lw_r2 : ∀ q ∈ lw_privs_2, lw_okq q := List.forall_mem_cons.mpr ⟨lw_p16, List.forall_mem_cons.mpr ⟨lw_p17, List.forall_mem_cons.mpr ⟨lw_p18, List.forall_mem_cons.mpr ⟨lw_p19, List.forall_mem_cons.mpr ⟨lw_p20, List.forall_mem_cons.mpr ⟨lw_p21, List.forall_mem_cons.mpr ⟨lw_p22, List.forall_mem_cons.mpr ⟨lw_p23, List.forall_mem_cons.mpr ⟨lw_p24, List.forall_mem_cons.mpr ⟨lw_p25, fun _ h => absurd h List.not_mem_nil⟩⟩⟩⟩⟩⟩⟩⟩⟩⟩
def lw_privs : List (MethodName × Nat) := lw_privs_1 ++ (lw_privs_2)
def lw_tbl : List Cond := k2_sels lw_privs ++ tables_1
theorem lw_privs_ok : ∀ q ∈ lw_privs, lw_okq q := by
  show ∀ q ∈ lw_privs_1 ++ (lw_privs_2), lw_okq q
  exact List.forall_mem_append.mpr ⟨lw_r1, lw_r2⟩
end
section
-- names, field tables, methods, links: printed by wip/gen/names.py out of the Statement and the listing
abbrev xM : Type := MethodName × ByteArray × Nat × Option FieldType
def wsA : List Cond := lw_tbl.filter goodWord
theorem w_at {w : Cond} (i : Nat) (h : lw_tbl[i]? = some w) (g : goodWord w = true) : w ∈ wsA := List.mem_filter.mpr ⟨List.mem_of_getElem? h, g⟩
theorem w_sub {ws : List Cond} (ps : List Nat) (hp : ws = ps.filterMap (fun i => lw_tbl[i]?)) (hg : ws.all goodWord = true) : ∀ w ∈ ws, w ∈ wsA := by
  intro w hw
  have h1 := List.all_eq_true.mp hg w hw
  rw [hp] at hw
  obtain ⟨i, -, hi⟩ := List.mem_filterMap.mp hw
  exact w_at i hi h1
def RA : String := "CallMarket$Account"
def TA : u_T := fun k => match k with
  | 0 => ("CallMarket$Account", "positions", "[I", true)
  | 1 => ("CallMarket$Account", "money", "J", false)
  | _ => ("CallMarket$Account", "owed", "J", false)
def tyA : Nat → FieldType := fun k => match k with
  | 0 => .array .int
  | 1 => .long
  | _ => .long
theorem nmA : ∀ a, a < 3 → ∀ b, b < 3 → a ≠ b → (TA a).2.1 ≠ (TA b).2.1 := by decide +kernel
theorem tyA_ok : ∀ k, k < 3 → parseFieldDescriptor (TA k).2.2.1 = some (tyA k) := by decide +kernel
theorem uA : ∀ w ∈ u_ws RA TA 3, w ∈ wsA := w_sub [90, 92, 94] (by decide +kernel) (by decide +kernel)
def RB : String := "CallMarket$Book"
def TB : u_T := fun k => match k with
  | 0 => ("CallMarket$Book", "buys", "LCallMarket$Side;", true)
  | 1 => ("CallMarket$Book", "sells", "LCallMarket$Side;", true)
  | 2 => ("CallMarket$Book", "isOpen", "Z", false)
  | _ => ("CallMarket$Book", "reference", "I", false)
def tyB : Nat → FieldType := fun k => match k with
  | 0 => .object "CallMarket$Side"
  | 1 => .object "CallMarket$Side"
  | 2 => .boolean
  | _ => .int
theorem nmB : ∀ a, a < 4 → ∀ b, b < 4 → a ≠ b → (TB a).2.1 ≠ (TB b).2.1 := by decide +kernel
theorem tyB_ok : ∀ k, k < 4 → parseFieldDescriptor (TB k).2.2.1 = some (tyB k) := by decide +kernel
theorem uB : ∀ w ∈ u_ws RB TB 4, w ∈ wsA := w_sub [126, 128, 130, 132] (by decide +kernel) (by decide +kernel)
def RO : String := "CallMarket$Order"
def TO : u_T := fun k => match k with
  | 0 => ("CallMarket$Order", "number", "I", true)
  | 1 => ("CallMarket$Order", "member", "I", true)
  | 2 => ("CallMarket$Order", "instrument", "I", true)
  | 3 => ("CallMarket$Order", "side", "I", true)
  | 4 => ("CallMarket$Order", "kind", "I", true)
  | 5 => ("CallMarket$Order", "limit", "I", true)
  | 6 => ("CallMarket$Order", "left", "I", false)
  | 7 => ("CallMarket$Order", "shown", "I", false)
  | 8 => ("CallMarket$Order", "status", "I", false)
  | _ => ("CallMarket$Order", "next", "LCallMarket$Order;", false)
def tyO : Nat → FieldType := fun k => match k with
  | 0 => .int
  | 1 => .int
  | 2 => .int
  | 3 => .int
  | 4 => .int
  | 5 => .int
  | 6 => .int
  | 7 => .int
  | 8 => .int
  | _ => .object "CallMarket$Order"
theorem nmO : ∀ a, a < 10 → ∀ b, b < 10 → a ≠ b → (TO a).2.1 ≠ (TO b).2.1 := by decide +kernel
theorem tyO_ok : ∀ k, k < 10 → parseFieldDescriptor (TO k).2.2.1 = some (tyO k) := by decide +kernel
theorem uO : ∀ w ∈ u_ws RO TO 10, w ∈ wsA := w_sub [241, 243, 245, 247, 249, 251, 253, 255, 257, 259] (by decide +kernel) (by decide +kernel)
def RS : String := "CallMarket$Scale"
def TS : u_T := fun k => match k with
  | 0 => ("CallMarket$Scale", "bought", "[I", true)
  | _ => ("CallMarket$Scale", "sold", "[I", true)
def tyS : Nat → FieldType := fun k => match k with
  | 0 => .array .int
  | _ => .array .int
theorem nmS : ∀ a, a < 2 → ∀ b, b < 2 → a ≠ b → (TS a).2.1 ≠ (TS b).2.1 := by decide +kernel
theorem tyS_ok : ∀ k, k < 2 → parseFieldDescriptor (TS k).2.2.1 = some (tyS k) := by decide +kernel
theorem uS : ∀ w ∈ u_ws RS TS 2, w ∈ wsA := w_sub [74, 76] (by decide +kernel) (by decide +kernel)
def RD : String := "CallMarket$Side"
def TD : u_T := fun k => match k with
  | _ => ("CallMarket$Side", "first", "LCallMarket$Order;", false)
def tyD : Nat → FieldType := fun k => match k with
  | _ => .object "CallMarket$Order"
theorem nmD : ∀ a, a < 1 → ∀ b, b < 1 → a ≠ b → (TD a).2.1 ≠ (TD b).2.1 := by decide +kernel
theorem tyD_ok : ∀ k, k < 1 → parseFieldDescriptor (TD k).2.2.1 = some (tyD k) := by decide +kernel
theorem uD : ∀ w ∈ u_ws RD TD 1, w ∈ wsA := w_sub [112] (by decide +kernel) (by decide +kernel)
def RT : String := "CallMarket$Tape"
def TT : u_T := fun k => match k with
  | 0 => ("CallMarket$Tape", "rows", "[I", true)
  | _ => ("CallMarket$Tape", "count", "I", false)
def tyT : Nat → FieldType := fun k => match k with
  | 0 => .array .int
  | _ => .int
theorem nmT : ∀ a, a < 2 → ∀ b, b < 2 → a ≠ b → (TT a).2.1 ≠ (TT b).2.1 := by decide +kernel
theorem tyT_ok : ∀ k, k < 2 → parseFieldDescriptor (TT k).2.2.1 = some (tyT k) := by decide +kernel
theorem uT : ∀ w ∈ u_ws RT TT 2, w ∈ wsA := w_sub [60, 62] (by decide +kernel) (by decide +kernel)
def RC : String := "CallMarket"
def TC : u_T := fun k => match k with
  | 0 => ("CallMarket", "accounts", "[LCallMarket$Account;", true)
  | 1 => ("CallMarket", "books", "[LCallMarket$Book;", true)
  | 2 => ("CallMarket", "orders", "[LCallMarket$Order;", true)
  | 3 => ("CallMarket", "tape", "LCallMarket$Tape;", true)
  | 4 => ("CallMarket", "scale", "LCallMarket$Scale;", true)
  | _ => ("CallMarket", "orderCount", "I", false)
def tyC : Nat → FieldType := fun k => match k with
  | 0 => .array (.object "CallMarket$Account")
  | 1 => .array (.object "CallMarket$Book")
  | 2 => .array (.object "CallMarket$Order")
  | 3 => .object "CallMarket$Tape"
  | 4 => .object "CallMarket$Scale"
  | _ => .int
theorem nmC : ∀ a, a < 6 → ∀ b, b < 6 → a ≠ b → (TC a).2.1 ≠ (TC b).2.1 := by decide +kernel
theorem tyC_ok : ∀ k, k < 6 → parseFieldDescriptor (TC k).2.2.1 = some (tyC k) := by decide +kernel
theorem uC : ∀ w ∈ u_ws RC TC 6, w ∈ wsA := w_sub [141, 143, 145, 147, 149, 151] (by decide +kernel) (by decide +kernel)
def RR : String := "CallMarketModel"
def TR : u_T := fun k => match k with
  | 0 => ("CallMarketModel", "count", "I", false)
  | 1 => ("CallMarketModel", "owner", "[I", true)
  | 2 => ("CallMarketModel", "item", "[I", true)
  | 3 => ("CallMarketModel", "side", "[I", true)
  | 4 => ("CallMarketModel", "kind", "[I", true)
  | 5 => ("CallMarketModel", "limit", "[I", true)
  | 6 => ("CallMarketModel", "rest", "[I", true)
  | 7 => ("CallMarketModel", "shown", "[I", true)
  | 8 => ("CallMarketModel", "status", "[I", true)
  | 9 => ("CallMarketModel", "stamp", "[I", true)
  | 10 => ("CallMarketModel", "stamps", "I", false)
  | 11 => ("CallMarketModel", "cash", "[J", true)
  | 12 => ("CallMarketModel", "due", "[J", true)
  | 13 => ("CallMarketModel", "held", "[I", true)
  | 14 => ("CallMarketModel", "isOpen", "[Z", true)
  | 15 => ("CallMarketModel", "reference", "[I", true)
  | 16 => ("CallMarketModel", "traded", "I", false)
  | 17 => ("CallMarketModel", "record", "[I", true)
  | 18 => ("CallMarketModel", "price", "I", false)
  | 19 => ("CallMarketModel", "volume", "I", false)
  | _ => ("CallMarketModel", "over", "I", false)
def tyR : Nat → FieldType := fun k => match k with
  | 0 => .int
  | 1 => .array .int
  | 2 => .array .int
  | 3 => .array .int
  | 4 => .array .int
  | 5 => .array .int
  | 6 => .array .int
  | 7 => .array .int
  | 8 => .array .int
  | 9 => .array .int
  | 10 => .int
  | 11 => .array .long
  | 12 => .array .long
  | 13 => .array .int
  | 14 => .array .boolean
  | 15 => .array .int
  | 16 => .int
  | 17 => .array .int
  | 18 => .int
  | 19 => .int
  | _ => .int
theorem nmR : ∀ a, a < 21 → ∀ b, b < 21 → a ≠ b → (TR a).2.1 ≠ (TR b).2.1 := by decide +kernel
theorem tyR_ok : ∀ k, k < 21 → parseFieldDescriptor (TR k).2.2.1 = some (tyR k) := by decide +kernel
theorem uR : ∀ w ∈ u_ws RR TR 21, w ∈ wsA := w_sub [497, 499, 501, 503, 505, 507, 509, 511, 513, 515, 517, 519, 521, 523, 525, 527, 529, 531, 533, 535, 537] (by decide +kernel) (by decide +kernel)
abbrev vwCl : List vw_C := [(RA, TA, 3), (RB, TB, 4), (RO, TO, 10), (RS, TS, 2), (RD, TD, 1), (RT, TT, 2), (RC, TC, 6), (RR, TR, 21)]
abbrev xTy : List FieldType := [.int, .long, .boolean, .object "CallMarket$Account", .object "CallMarket$Book", .object "CallMarket$Order"]
abbrev mC_init : xM := (⟨"CallMarket", "<init>", "()V"⟩, prog_1_method_1_code, 2, none)
abbrev mT_init : xM := (⟨"CallMarket$Tape", "<init>", "()V"⟩, prog_7_method_1_code, 1, none)
abbrev mS_init : xM := (⟨"CallMarket$Scale", "<init>", "()V"⟩, prog_5_method_1_code, 1, none)
abbrev mA_init : xM := (⟨"CallMarket$Account", "<init>", "()V"⟩, prog_2_method_1_code, 1, none)
abbrev mB_init : xM := (⟨"CallMarket$Book", "<init>", "()V"⟩, prog_3_method_1_code, 1, none)
abbrev mD_init : xM := (⟨"CallMarket$Side", "<init>", "()V"⟩, prog_6_method_1_code, 1, none)
abbrev mC_deposit : xM := (⟨"CallMarket", "deposit", "(II)Z"⟩, prog_1_method_2_code, 4, some .boolean)
abbrev mC_isMember : xM := (⟨"CallMarket", "isMember", "(I)Z"⟩, prog_1_method_21_code, 1, some .boolean)
abbrev mC_riskOf : xM := (⟨"CallMarket", "riskOf", "(I)J"⟩, prog_1_method_30_code, 2, some .long)
abbrev mC_riskWith : xM := (⟨"CallMarket", "riskWith", "(IIII)J"⟩, prog_1_method_31_code, 11, some .long)
abbrev mD_leftOf : xM := (⟨"CallMarket$Side", "leftOf", "(I)I"⟩, prog_6_method_4_code, 4, some .int)
abbrev mM_abs : xM := (⟨"java/lang/Math", "abs", "(I)I"⟩, prog_10_method_59_code, 1, some .int)
abbrev mM_max : xM := (⟨"java/lang/Math", "max", "(II)I"⟩, prog_10_method_65_code, 2, some .int)
abbrev mC_place : xM := (⟨"CallMarket", "place", "(IIIII)I"⟩, prog_1_method_3_code, 9, some .int)
abbrev mC_isInstrument : xM := (⟨"CallMarket", "isInstrument", "(I)Z"⟩, prog_1_method_22_code, 1, some .boolean)
abbrev mC_isHow : xM := (⟨"CallMarket", "isHow", "(I)Z"⟩, prog_1_method_23_code, 1, some .boolean)
abbrev mC_kindOf : xM := (⟨"CallMarket", "kindOf", "(I)I"⟩, prog_1_method_26_code, 1, some .int)
abbrev mC_isPrice : xM := (⟨"CallMarket", "isPrice", "(I)Z"⟩, prog_1_method_25_code, 1, some .boolean)
abbrev mC_sideOf : xM := (⟨"CallMarket", "sideOf", "(I)I"⟩, prog_1_method_27_code, 1, some .int)
abbrev mO_init : xM := (⟨"CallMarket$Order", "<init>", "(IIIIII)V"⟩, prog_4_method_1_code, 7, none)
abbrev mB_refuses : xM := (⟨"CallMarket$Book", "refuses", "(LCallMarket$Order;)Z"⟩, prog_3_method_4_code, 3, some .boolean)
abbrev mB_facing : xM := (⟨"CallMarket$Book", "facing", "(I)LCallMarket$Side;"⟩, prog_3_method_3_code, 2, some (.object "CallMarket$Side"))
abbrev mO_accepts : xM := (⟨"CallMarket$Order", "accepts", "(I)Z"⟩, prog_4_method_2_code, 2, some .boolean)
abbrev mD_leftFor : xM := (⟨"CallMarket$Side", "leftFor", "(LCallMarket$Order;)I"⟩, prog_6_method_5_code, 4, some .int)
abbrev mC_admit : xM := (⟨"CallMarket", "admit", "(LCallMarket$Order;LCallMarket$Book;)V"⟩, prog_1_method_32_code, 3, none)
abbrev mC_meet : xM := (⟨"CallMarket", "meet", "(LCallMarket$Order;LCallMarket$Book;)V"⟩, prog_1_method_33_code, 6, none)
abbrev mC_takeAway : xM := (⟨"CallMarket", "takeAway", "(LCallMarket$Order;I)V"⟩, prog_1_method_38_code, 3, none)
abbrev mB_on : xM := (⟨"CallMarket$Book", "on", "(I)LCallMarket$Side;"⟩, prog_3_method_2_code, 2, some (.object "CallMarket$Side"))
abbrev mD_leave : xM := (⟨"CallMarket$Side", "leave", "(LCallMarket$Order;)V"⟩, prog_6_method_3_code, 4, none)
abbrev mD_link : xM := (⟨"CallMarket$Side", "link", "(LCallMarket$Order;LCallMarket$Order;)V"⟩, prog_6_method_9_code, 3, none)
abbrev mC_tradeWithShown : xM := (⟨"CallMarket", "tradeWithShown", "(LCallMarket$Order;LCallMarket$Order;LCallMarket$Side;)V"⟩, prog_1_method_34_code, 5, none)
abbrev mM_min : xM := (⟨"java/lang/Math", "min", "(II)I"⟩, prog_10_method_69_code, 2, some .int)
abbrev mC_exchange : xM := (⟨"CallMarket", "exchange", "(LCallMarket$Order;LCallMarket$Order;II)V"⟩, prog_1_method_37_code, 5, none)
abbrev mA_enter : xM := (⟨"CallMarket$Account", "enter", "(III)V"⟩, prog_2_method_2_code, 4, none)
abbrev mT_write : xM := (⟨"CallMarket$Tape", "write", "(IIII)V"⟩, prog_7_method_2_code, 6, none)
abbrev mO_showAnew : xM := (⟨"CallMarket$Order", "showAnew", "()V"⟩, prog_4_method_3_code, 1, none)
abbrev mD_join : xM := (⟨"CallMarket$Side", "join", "(LCallMarket$Order;)V"⟩, prog_6_method_2_code, 4, none)
abbrev mD_isBetter : xM := (⟨"CallMarket$Side", "isBetter", "(LCallMarket$Order;LCallMarket$Order;)Z"⟩, prog_6_method_8_code, 2, some .boolean)
abbrev mC_cancel : xM := (⟨"CallMarket", "cancel", "(II)Z"⟩, prog_1_method_4_code, 4, some .boolean)
abbrev mC_findResting : xM := (⟨"CallMarket", "findResting", "(II)LCallMarket$Order;"⟩, prog_1_method_29_code, 4, some (.object "CallMarket$Order"))
abbrev mC_find : xM := (⟨"CallMarket", "find", "(I)LCallMarket$Order;"⟩, prog_1_method_28_code, 2, some (.object "CallMarket$Order"))
abbrev mC_amend : xM := (⟨"CallMarket", "amend", "(III)I"⟩, prog_1_method_5_code, 5, some .int)
abbrev mC_open : xM := (⟨"CallMarket", "open", "(I)I"⟩, prog_1_method_6_code, 4, some .int)
abbrev mS_findCallPrice : xM := (⟨"CallMarket$Scale", "findCallPrice", "(LCallMarket$Book;)I"⟩, prog_5_method_2_code, 7, some .int)
abbrev mS_weigh : xM := (⟨"CallMarket$Scale", "weigh", "(LCallMarket$Book;)V"⟩, prog_5_method_5_code, 3, none)
abbrev mY_fill : xM := (⟨"java/util/Arrays", "fill", "([II)V"⟩, prog_11_method_103_code, 4, none)
abbrev mS_volumeAt : xM := (⟨"CallMarket$Scale", "volumeAt", "(I)I"⟩, prog_5_method_3_code, 2, some .int)
abbrev mS_surplusAt : xM := (⟨"CallMarket$Scale", "surplusAt", "(I)I"⟩, prog_5_method_4_code, 2, some .int)
abbrev mS_choose : xM := (⟨"CallMarket$Scale", "choose", "(III)I"⟩, prog_5_method_6_code, 11, some .int)
abbrev mC_tradeAll : xM := (⟨"CallMarket", "tradeAll", "(LCallMarket$Book;I)I"⟩, prog_1_method_35_code, 8, some .int)
abbrev mC_keepOrFill : xM := (⟨"CallMarket", "keepOrFill", "(LCallMarket$Order;)V"⟩, prog_1_method_36_code, 2, none)
abbrev mC_close : xM := (⟨"CallMarket", "close", "(I)I"⟩, prog_1_method_7_code, 2, some .int)
abbrev mC_indication : xM := (⟨"CallMarket", "indication", "(II)I"⟩, prog_1_method_8_code, 4, some .int)
abbrev mC_best : xM := (⟨"CallMarket", "best", "(II)I"⟩, prog_1_method_9_code, 4, some .int)
abbrev mC_isSide : xM := (⟨"CallMarket", "isSide", "(I)Z"⟩, prog_1_method_24_code, 1, some .boolean)
abbrev mC_depth : xM := (⟨"CallMarket", "depth", "(III)I"⟩, prog_1_method_10_code, 4, some .int)
abbrev mD_shownInQueue : xM := (⟨"CallMarket$Side", "shownInQueue", "(ILCallMarket$Order;)I"⟩, prog_6_method_6_code, 5, some .int)
abbrev mC_ahead : xM := (⟨"CallMarket", "ahead", "(I)I"⟩, prog_1_method_11_code, 3, some .int)
abbrev mC_left : xM := (⟨"CallMarket", "left", "(I)I"⟩, prog_1_method_12_code, 3, some .int)
abbrev mC_state : xM := (⟨"CallMarket", "state", "(I)I"⟩, prog_1_method_13_code, 3, some .int)
abbrev mC_trades : xM := (⟨"CallMarket", "trades", "()I"⟩, prog_1_method_14_code, 1, some .int)
abbrev mC_trade : xM := (⟨"CallMarket", "trade", "(II)I"⟩, prog_1_method_15_code, 3, some .int)
abbrev mT_holds : xM := (⟨"CallMarket$Tape", "holds", "(I)Z"⟩, prog_7_method_3_code, 2, some .boolean)
abbrev mT_read : xM := (⟨"CallMarket$Tape", "read", "(II)I"⟩, prog_7_method_4_code, 3, some .int)
abbrev mC_position : xM := (⟨"CallMarket", "position", "(II)I"⟩, prog_1_method_16_code, 3, some .int)
abbrev mC_money : xM := (⟨"CallMarket", "money", "(I)J"⟩, prog_1_method_17_code, 2, some .long)
abbrev mC_owed : xM := (⟨"CallMarket", "owed", "(I)J"⟩, prog_1_method_18_code, 2, some .long)
abbrev mC_risk : xM := (⟨"CallMarket", "risk", "(I)J"⟩, prog_1_method_19_code, 2, some .long)
abbrev mC_settle : xM := (⟨"CallMarket", "settle", "()I"⟩, prog_1_method_20_code, 4, some .int)
abbrev mB_endDay : xM := (⟨"CallMarket$Book", "endDay", "()V"⟩, prog_3_method_5_code, 1, none)
abbrev mD_withdrawAll : xM := (⟨"CallMarket$Side", "withdrawAll", "()V"⟩, prog_6_method_7_code, 2, none)
abbrev mR_init : xM := (⟨"CallMarketModel", "<init>", "()V"⟩, prog_9_method_1_code, 1, none)
abbrev mR_deposit : xM := (⟨"CallMarketModel", "deposit", "(II)Z"⟩, prog_9_method_14_code, 3, some .boolean)
abbrev mR_noMember : xM := (⟨"CallMarketModel", "noMember", "(I)Z"⟩, prog_9_method_13_code, 1, some .boolean)
abbrev mR_outside : xM := (⟨"CallMarketModel", "outside", "(III)Z"⟩, prog_9_method_2_code, 3, some .boolean)
abbrev mR_riskWith : xM := (⟨"CallMarketModel", "riskWith", "(IIII)J"⟩, prog_9_method_12_code, 16, some .long)
abbrev mR_size : xM := (⟨"CallMarketModel", "size", "(J)J"⟩, prog_9_method_11_code, 2, some .long)
abbrev mR_place : xM := (⟨"CallMarketModel", "place", "(IIIII)I"⟩, prog_9_method_16_code, 10, some .int)
abbrev mR_unfit : xM := (⟨"CallMarketModel", "unfit", "(IIIIII)Z"⟩, prog_9_method_15_code, 10, some .boolean)
abbrev mR_waits : xM := (⟨"CallMarketModel", "waits", "(III)Z"⟩, prog_9_method_3_code, 4, some .boolean)
abbrev mR_good : xM := (⟨"CallMarketModel", "good", "(IIII)Z"⟩, prog_9_method_7_code, 4, some .boolean)
abbrev mR_meet : xM := (⟨"CallMarketModel", "meet", "(I)Z"⟩, prog_9_method_10_code, 4, some .boolean)
abbrev mR_front : xM := (⟨"CallMarketModel", "front", "(II)I"⟩, prog_9_method_6_code, 5, some .int)
abbrev mR_better : xM := (⟨"CallMarketModel", "better", "(III)Z"⟩, prog_9_method_5_code, 3, some .boolean)
abbrev mR_shows : xM := (⟨"CallMarketModel", "shows", "(I)I"⟩, prog_9_method_4_code, 2, some .int)
abbrev mR_swap : xM := (⟨"CallMarketModel", "swap", "(IIII)V"⟩, prog_9_method_9_code, 9, none)
abbrev mR_queue : xM := (⟨"CallMarketModel", "queue", "(I)V"⟩, prog_9_method_8_code, 2, none)
abbrev mR_cancel : xM := (⟨"CallMarketModel", "cancel", "(II)Z"⟩, prog_9_method_18_code, 3, some .boolean)
abbrev mR_isResting : xM := (⟨"CallMarketModel", "isResting", "(I)Z"⟩, prog_9_method_17_code, 2, some .boolean)
abbrev mR_amend : xM := (⟨"CallMarketModel", "amend", "(III)I"⟩, prog_9_method_19_code, 4, some .int)
abbrev mR_open : xM := (⟨"CallMarketModel", "open", "(I)I"⟩, prog_9_method_23_code, 6, some .int)
abbrev mR_look : xM := (⟨"CallMarketModel", "look", "(I)V"⟩, prog_9_method_22_code, 12, none)
abbrev mR_willing : xM := (⟨"CallMarketModel", "willing", "(III)I"⟩, prog_9_method_20_code, 6, some .int)
abbrev mR_distance : xM := (⟨"CallMarketModel", "distance", "(II)I"⟩, prog_9_method_21_code, 2, some .int)
abbrev mR_after : xM := (⟨"CallMarketModel", "after", "(I)V"⟩, prog_9_method_24_code, 2, none)
abbrev mR_close : xM := (⟨"CallMarketModel", "close", "(I)I"⟩, prog_9_method_25_code, 2, some .int)
abbrev mR_indication : xM := (⟨"CallMarketModel", "indication", "(II)I"⟩, prog_9_method_26_code, 3, some .int)
abbrev mR_best : xM := (⟨"CallMarketModel", "best", "(II)I"⟩, prog_9_method_27_code, 4, some .int)
abbrev mR_depth : xM := (⟨"CallMarketModel", "depth", "(III)I"⟩, prog_9_method_28_code, 6, some .int)
abbrev mR_ahead : xM := (⟨"CallMarketModel", "ahead", "(I)I"⟩, prog_9_method_29_code, 4, some .int)
abbrev mR_left : xM := (⟨"CallMarketModel", "left", "(I)I"⟩, prog_9_method_30_code, 2, some .int)
abbrev mR_state : xM := (⟨"CallMarketModel", "state", "(I)I"⟩, prog_9_method_31_code, 2, some .int)
abbrev mR_trades : xM := (⟨"CallMarketModel", "trades", "()I"⟩, prog_9_method_32_code, 1, some .int)
abbrev mR_trade : xM := (⟨"CallMarketModel", "trade", "(II)I"⟩, prog_9_method_33_code, 3, some .int)
abbrev mR_position : xM := (⟨"CallMarketModel", "position", "(II)I"⟩, prog_9_method_34_code, 3, some .int)
abbrev mR_money : xM := (⟨"CallMarketModel", "money", "(I)J"⟩, prog_9_method_35_code, 2, some .long)
abbrev mR_owed : xM := (⟨"CallMarketModel", "owed", "(I)J"⟩, prog_9_method_36_code, 2, some .long)
abbrev mR_risk : xM := (⟨"CallMarketModel", "risk", "(I)J"⟩, prog_9_method_37_code, 2, some .long)
abbrev mR_settle : xM := (⟨"CallMarketModel", "settle", "()I"⟩, prog_9_method_38_code, 3, some .int)
def xNs : List (String × Nat × MethodName × String) := [("CallMarket$Book", 11, ⟨"CallMarket$Side", "<init>", "()V"⟩, "CallMarket"), ("CallMarket$Order", 31, ⟨"CallMarket", "sideOf", "(I)I"⟩, "CallMarket"), ("CallMarket$Order", 38, ⟨"CallMarket", "kindOf", "(I)I"⟩, "CallMarket"), ("CallMarket", 29, ⟨"CallMarket$Tape", "<init>", "()V"⟩, "CallMarket"), ("CallMarket", 36, ⟨"CallMarket$Scale", "<init>", "()V"⟩, "CallMarket"), ("CallMarket", 45, ⟨"CallMarket$Account", "<init>", "()V"⟩, "CallMarket"), ("CallMarket", 46, ⟨"CallMarket$Book", "<init>", "()V"⟩, "CallMarket")]
abbrev mL_law : xM := (⟨"CallMarketLaw", "law", "([I)Z"⟩, code, 4, ret)
end
section
theorem dC_init_0 : decode mC_init.2.1 0 = .ok (.aload_n 0, 1) := by decide +kernel
theorem dC_init_1 : decode mC_init.2.1 1 = .ok (.invokespecial 1, 3) := by decide +kernel
theorem dC_init_4 : decode mC_init.2.1 4 = .ok (.aload_n 0, 1) := by decide +kernel
theorem dC_init_5 : decode mC_init.2.1 5 = .ok (.iconst 5, 1) := by decide +kernel
theorem dC_init_6 : decode mC_init.2.1 6 = .ok (.anewarray 9, 3) := by decide +kernel
theorem dC_init_9 : decode mC_init.2.1 9 = .ok (.putfield 11, 3) := by decide +kernel
theorem dC_init_12 : decode mC_init.2.1 12 = .ok (.aload_n 0, 1) := by decide +kernel
theorem dC_init_13 : decode mC_init.2.1 13 = .ok (.iconst 2, 1) := by decide +kernel
theorem dC_init_14 : decode mC_init.2.1 14 = .ok (.anewarray 15, 3) := by decide +kernel
theorem dC_init_17 : decode mC_init.2.1 17 = .ok (.putfield 17, 3) := by decide +kernel
theorem dC_init_20 : decode mC_init.2.1 20 = .ok (.aload_n 0, 1) := by decide +kernel
theorem dC_init_21 : decode mC_init.2.1 21 = .ok (.bipush (120), 2) := by decide +kernel
theorem dC_init_23 : decode mC_init.2.1 23 = .ok (.anewarray 21, 3) := by decide +kernel
theorem dC_init_26 : decode mC_init.2.1 26 = .ok (.putfield 23, 3) := by decide +kernel
theorem dC_init_29 : decode mC_init.2.1 29 = .ok (.aload_n 0, 1) := by decide +kernel
theorem dC_init_30 : decode mC_init.2.1 30 = .ok (.new 27, 3) := by decide +kernel
theorem dC_init_33 : decode mC_init.2.1 33 = .ok (.dup, 1) := by decide +kernel
theorem dC_init_34 : decode mC_init.2.1 34 = .ok (.invokespecial 29, 3) := by decide +kernel
theorem dC_init_37 : decode mC_init.2.1 37 = .ok (.putfield 30, 3) := by decide +kernel
theorem dC_init_40 : decode mC_init.2.1 40 = .ok (.aload_n 0, 1) := by decide +kernel
theorem dC_init_41 : decode mC_init.2.1 41 = .ok (.new 34, 3) := by decide +kernel
theorem dC_init_44 : decode mC_init.2.1 44 = .ok (.dup, 1) := by decide +kernel
theorem dC_init_45 : decode mC_init.2.1 45 = .ok (.invokespecial 36, 3) := by decide +kernel
theorem dC_init_48 : decode mC_init.2.1 48 = .ok (.putfield 37, 3) := by decide +kernel
theorem dC_init_51 : decode mC_init.2.1 51 = .ok (.aload_n 0, 1) := by decide +kernel
theorem dC_init_52 : decode mC_init.2.1 52 = .ok (.iconst 0, 1) := by decide +kernel
theorem dC_init_53 : decode mC_init.2.1 53 = .ok (.putfield 41, 3) := by decide +kernel
theorem dC_init_56 : decode mC_init.2.1 56 = .ok (.iconst 0, 1) := by decide +kernel
theorem dC_init_57 : decode mC_init.2.1 57 = .ok (.istore_n 1, 1) := by decide +kernel
theorem dC_init_58 : decode mC_init.2.1 58 = .ok (.iload_n 1, 1) := by decide +kernel
theorem dC_init_59 : decode mC_init.2.1 59 = .ok (.iconst 5, 1) := by decide +kernel
theorem dC_init_60 : decode mC_init.2.1 60 = .ok (.if_icmp .ge (22), 3) := by decide +kernel
theorem dC_init_63 : decode mC_init.2.1 63 = .ok (.aload_n 0, 1) := by decide +kernel
theorem dC_init_64 : decode mC_init.2.1 64 = .ok (.getfield 11, 3) := by decide +kernel
theorem dC_init_67 : decode mC_init.2.1 67 = .ok (.iload_n 1, 1) := by decide +kernel
theorem dC_init_68 : decode mC_init.2.1 68 = .ok (.new 9, 3) := by decide +kernel
theorem dC_init_71 : decode mC_init.2.1 71 = .ok (.dup, 1) := by decide +kernel
theorem dC_init_72 : decode mC_init.2.1 72 = .ok (.invokespecial 45, 3) := by decide +kernel
theorem dC_init_75 : decode mC_init.2.1 75 = .ok (.aastore, 1) := by decide +kernel
theorem dC_init_76 : decode mC_init.2.1 76 = .ok (.iinc 1 (1), 3) := by decide +kernel
theorem dC_init_79 : decode mC_init.2.1 79 = .ok (.goto (-21), 3) := by decide +kernel
theorem dC_init_82 : decode mC_init.2.1 82 = .ok (.iconst 0, 1) := by decide +kernel
theorem dC_init_83 : decode mC_init.2.1 83 = .ok (.istore_n 1, 1) := by decide +kernel
theorem dC_init_84 : decode mC_init.2.1 84 = .ok (.iload_n 1, 1) := by decide +kernel
theorem dC_init_85 : decode mC_init.2.1 85 = .ok (.iconst 2, 1) := by decide +kernel
theorem dC_init_86 : decode mC_init.2.1 86 = .ok (.if_icmp .ge (22), 3) := by decide +kernel
theorem dC_init_89 : decode mC_init.2.1 89 = .ok (.aload_n 0, 1) := by decide +kernel
theorem dC_init_90 : decode mC_init.2.1 90 = .ok (.getfield 17, 3) := by decide +kernel
theorem dC_init_93 : decode mC_init.2.1 93 = .ok (.iload_n 1, 1) := by decide +kernel
theorem dC_init_94 : decode mC_init.2.1 94 = .ok (.new 15, 3) := by decide +kernel
theorem dC_init_97 : decode mC_init.2.1 97 = .ok (.dup, 1) := by decide +kernel
theorem dC_init_98 : decode mC_init.2.1 98 = .ok (.invokespecial 46, 3) := by decide +kernel
theorem dC_init_101 : decode mC_init.2.1 101 = .ok (.aastore, 1) := by decide +kernel
theorem dC_init_102 : decode mC_init.2.1 102 = .ok (.iinc 1 (1), 3) := by decide +kernel
theorem dC_init_105 : decode mC_init.2.1 105 = .ok (.goto (-21), 3) := by decide +kernel
theorem dC_init_108 : decode mC_init.2.1 108 = .ok (.return_, 1) := by decide +kernel
theorem dT_init_0 : decode mT_init.2.1 0 = .ok (.aload_n 0, 1) := by decide +kernel
theorem dT_init_1 : decode mT_init.2.1 1 = .ok (.invokespecial 3, 3) := by decide +kernel
theorem dT_init_4 : decode mT_init.2.1 4 = .ok (.aload_n 0, 1) := by decide +kernel
theorem dT_init_5 : decode mT_init.2.1 5 = .ok (.sipush (400), 3) := by decide +kernel
theorem dT_init_8 : decode mT_init.2.1 8 = .ok (.newarray .int, 2) := by decide +kernel
theorem dT_init_10 : decode mT_init.2.1 10 = .ok (.putfield 9, 3) := by decide +kernel
theorem dT_init_13 : decode mT_init.2.1 13 = .ok (.aload_n 0, 1) := by decide +kernel
theorem dT_init_14 : decode mT_init.2.1 14 = .ok (.iconst 0, 1) := by decide +kernel
theorem dT_init_15 : decode mT_init.2.1 15 = .ok (.putfield 15, 3) := by decide +kernel
theorem dT_init_18 : decode mT_init.2.1 18 = .ok (.return_, 1) := by decide +kernel
theorem dS_init_0 : decode mS_init.2.1 0 = .ok (.aload_n 0, 1) := by decide +kernel
theorem dS_init_1 : decode mS_init.2.1 1 = .ok (.invokespecial 3, 3) := by decide +kernel
theorem dS_init_4 : decode mS_init.2.1 4 = .ok (.aload_n 0, 1) := by decide +kernel
theorem dS_init_5 : decode mS_init.2.1 5 = .ok (.bipush (65), 2) := by decide +kernel
theorem dS_init_7 : decode mS_init.2.1 7 = .ok (.newarray .int, 2) := by decide +kernel
theorem dS_init_9 : decode mS_init.2.1 9 = .ok (.putfield 9, 3) := by decide +kernel
theorem dS_init_12 : decode mS_init.2.1 12 = .ok (.aload_n 0, 1) := by decide +kernel
theorem dS_init_13 : decode mS_init.2.1 13 = .ok (.bipush (65), 2) := by decide +kernel
theorem dS_init_15 : decode mS_init.2.1 15 = .ok (.newarray .int, 2) := by decide +kernel
theorem dS_init_17 : decode mS_init.2.1 17 = .ok (.putfield 15, 3) := by decide +kernel
theorem dS_init_20 : decode mS_init.2.1 20 = .ok (.return_, 1) := by decide +kernel
theorem dA_init_0 : decode mA_init.2.1 0 = .ok (.aload_n 0, 1) := by decide +kernel
theorem dA_init_1 : decode mA_init.2.1 1 = .ok (.invokespecial 3, 3) := by decide +kernel
theorem dA_init_4 : decode mA_init.2.1 4 = .ok (.aload_n 0, 1) := by decide +kernel
theorem dA_init_5 : decode mA_init.2.1 5 = .ok (.iconst 2, 1) := by decide +kernel
theorem dA_init_6 : decode mA_init.2.1 6 = .ok (.newarray .int, 2) := by decide +kernel
theorem dA_init_8 : decode mA_init.2.1 8 = .ok (.putfield 9, 3) := by decide +kernel
theorem dA_init_11 : decode mA_init.2.1 11 = .ok (.aload_n 0, 1) := by decide +kernel
theorem dA_init_12 : decode mA_init.2.1 12 = .ok (.lconst 0, 1) := by decide +kernel
theorem dA_init_13 : decode mA_init.2.1 13 = .ok (.putfield 15, 3) := by decide +kernel
theorem dA_init_16 : decode mA_init.2.1 16 = .ok (.aload_n 0, 1) := by decide +kernel
theorem dA_init_17 : decode mA_init.2.1 17 = .ok (.lconst 0, 1) := by decide +kernel
theorem dA_init_18 : decode mA_init.2.1 18 = .ok (.putfield 19, 3) := by decide +kernel
theorem dA_init_21 : decode mA_init.2.1 21 = .ok (.return_, 1) := by decide +kernel
theorem dB_init_0 : decode mB_init.2.1 0 = .ok (.aload_n 0, 1) := by decide +kernel
theorem dB_init_1 : decode mB_init.2.1 1 = .ok (.invokespecial 3, 3) := by decide +kernel
theorem dB_init_4 : decode mB_init.2.1 4 = .ok (.aload_n 0, 1) := by decide +kernel
theorem dB_init_5 : decode mB_init.2.1 5 = .ok (.new 9, 3) := by decide +kernel
theorem dB_init_8 : decode mB_init.2.1 8 = .ok (.dup, 1) := by decide +kernel
theorem dB_init_9 : decode mB_init.2.1 9 = .ok (.invokespecial 11, 3) := by decide +kernel
theorem dB_init_12 : decode mB_init.2.1 12 = .ok (.putfield 12, 3) := by decide +kernel
theorem dB_init_15 : decode mB_init.2.1 15 = .ok (.aload_n 0, 1) := by decide +kernel
theorem dB_init_16 : decode mB_init.2.1 16 = .ok (.new 9, 3) := by decide +kernel
theorem dB_init_19 : decode mB_init.2.1 19 = .ok (.dup, 1) := by decide +kernel
theorem dB_init_20 : decode mB_init.2.1 20 = .ok (.invokespecial 11, 3) := by decide +kernel
theorem dB_init_23 : decode mB_init.2.1 23 = .ok (.putfield 18, 3) := by decide +kernel
theorem dB_init_26 : decode mB_init.2.1 26 = .ok (.aload_n 0, 1) := by decide +kernel
theorem dB_init_27 : decode mB_init.2.1 27 = .ok (.iconst 0, 1) := by decide +kernel
theorem dB_init_28 : decode mB_init.2.1 28 = .ok (.putfield 21, 3) := by decide +kernel
theorem dB_init_31 : decode mB_init.2.1 31 = .ok (.aload_n 0, 1) := by decide +kernel
theorem dB_init_32 : decode mB_init.2.1 32 = .ok (.bipush (32), 2) := by decide +kernel
theorem dB_init_34 : decode mB_init.2.1 34 = .ok (.putfield 25, 3) := by decide +kernel
theorem dB_init_37 : decode mB_init.2.1 37 = .ok (.return_, 1) := by decide +kernel
theorem dD_init_0 : decode mD_init.2.1 0 = .ok (.aload_n 0, 1) := by decide +kernel
theorem dD_init_1 : decode mD_init.2.1 1 = .ok (.invokespecial 3, 3) := by decide +kernel
theorem dD_init_4 : decode mD_init.2.1 4 = .ok (.aload_n 0, 1) := by decide +kernel
theorem dD_init_5 : decode mD_init.2.1 5 = .ok (.aconst_null, 1) := by decide +kernel
theorem dD_init_6 : decode mD_init.2.1 6 = .ok (.putfield 9, 3) := by decide +kernel
theorem dD_init_9 : decode mD_init.2.1 9 = .ok (.return_, 1) := by decide +kernel
theorem dC_deposit_0 : decode mC_deposit.2.1 0 = .ok (.iload_n 1, 1) := by decide +kernel
theorem dC_deposit_1 : decode mC_deposit.2.1 1 = .ok (.invokestatic 47, 3) := by decide +kernel
theorem dC_deposit_4 : decode mC_deposit.2.1 4 = .ok (.ifCond .eq (15), 3) := by decide +kernel
theorem dC_deposit_7 : decode mC_deposit.2.1 7 = .ok (.iload_n 2, 1) := by decide +kernel
theorem dC_deposit_8 : decode mC_deposit.2.1 8 = .ok (.ldc 51, 2) := by decide +kernel
theorem dC_deposit_10 : decode mC_deposit.2.1 10 = .ok (.if_icmp .lt (9), 3) := by decide +kernel
theorem dC_deposit_13 : decode mC_deposit.2.1 13 = .ok (.iload_n 2, 1) := by decide +kernel
theorem dC_deposit_14 : decode mC_deposit.2.1 14 = .ok (.ldc 52, 2) := by decide +kernel
theorem dC_deposit_16 : decode mC_deposit.2.1 16 = .ok (.if_icmp .le (5), 3) := by decide +kernel
theorem dC_deposit_19 : decode mC_deposit.2.1 19 = .ok (.iconst 0, 1) := by decide +kernel
theorem dC_deposit_20 : decode mC_deposit.2.1 20 = .ok (.ireturn, 1) := by decide +kernel
theorem dC_deposit_21 : decode mC_deposit.2.1 21 = .ok (.aload_n 0, 1) := by decide +kernel
theorem dC_deposit_22 : decode mC_deposit.2.1 22 = .ok (.getfield 11, 3) := by decide +kernel
theorem dC_deposit_25 : decode mC_deposit.2.1 25 = .ok (.iload_n 1, 1) := by decide +kernel
theorem dC_deposit_26 : decode mC_deposit.2.1 26 = .ok (.aaload, 1) := by decide +kernel
theorem dC_deposit_27 : decode mC_deposit.2.1 27 = .ok (.astore_n 3, 1) := by decide +kernel
theorem dC_deposit_28 : decode mC_deposit.2.1 28 = .ok (.iload_n 2, 1) := by decide +kernel
theorem dC_deposit_29 : decode mC_deposit.2.1 29 = .ok (.ifCond .ge (21), 3) := by decide +kernel
theorem dC_deposit_32 : decode mC_deposit.2.1 32 = .ok (.aload_n 3, 1) := by decide +kernel
theorem dC_deposit_33 : decode mC_deposit.2.1 33 = .ok (.getfield 53, 3) := by decide +kernel
theorem dC_deposit_36 : decode mC_deposit.2.1 36 = .ok (.iload_n 2, 1) := by decide +kernel
theorem dC_deposit_37 : decode mC_deposit.2.1 37 = .ok (.i2l, 1) := by decide +kernel
theorem dC_deposit_38 : decode mC_deposit.2.1 38 = .ok (.ladd, 1) := by decide +kernel
theorem dC_deposit_39 : decode mC_deposit.2.1 39 = .ok (.aload_n 0, 1) := by decide +kernel
theorem dC_deposit_40 : decode mC_deposit.2.1 40 = .ok (.iload_n 1, 1) := by decide +kernel
theorem dC_deposit_41 : decode mC_deposit.2.1 41 = .ok (.invokevirtual 57, 3) := by decide +kernel
theorem dC_deposit_44 : decode mC_deposit.2.1 44 = .ok (.lcmp, 1) := by decide +kernel
theorem dC_deposit_45 : decode mC_deposit.2.1 45 = .ok (.ifCond .ge (5), 3) := by decide +kernel
theorem dC_deposit_48 : decode mC_deposit.2.1 48 = .ok (.iconst 0, 1) := by decide +kernel
theorem dC_deposit_49 : decode mC_deposit.2.1 49 = .ok (.ireturn, 1) := by decide +kernel
theorem dC_deposit_50 : decode mC_deposit.2.1 50 = .ok (.aload_n 3, 1) := by decide +kernel
theorem dC_deposit_51 : decode mC_deposit.2.1 51 = .ok (.dup, 1) := by decide +kernel
theorem dC_deposit_52 : decode mC_deposit.2.1 52 = .ok (.getfield 53, 3) := by decide +kernel
theorem dC_deposit_55 : decode mC_deposit.2.1 55 = .ok (.iload_n 2, 1) := by decide +kernel
theorem dC_deposit_56 : decode mC_deposit.2.1 56 = .ok (.i2l, 1) := by decide +kernel
theorem dC_deposit_57 : decode mC_deposit.2.1 57 = .ok (.ladd, 1) := by decide +kernel
theorem dC_deposit_58 : decode mC_deposit.2.1 58 = .ok (.putfield 53, 3) := by decide +kernel
theorem dC_deposit_61 : decode mC_deposit.2.1 61 = .ok (.iconst 1, 1) := by decide +kernel
theorem dC_deposit_62 : decode mC_deposit.2.1 62 = .ok (.ireturn, 1) := by decide +kernel
theorem dC_isMember_0 : decode mC_isMember.2.1 0 = .ok (.iload_n 0, 1) := by decide +kernel
theorem dC_isMember_1 : decode mC_isMember.2.1 1 = .ok (.ifCond .lt (12), 3) := by decide +kernel
theorem dC_isMember_4 : decode mC_isMember.2.1 4 = .ok (.iload_n 0, 1) := by decide +kernel
theorem dC_isMember_5 : decode mC_isMember.2.1 5 = .ok (.iconst 5, 1) := by decide +kernel
theorem dC_isMember_6 : decode mC_isMember.2.1 6 = .ok (.if_icmp .ge (7), 3) := by decide +kernel
theorem dC_isMember_9 : decode mC_isMember.2.1 9 = .ok (.iconst 1, 1) := by decide +kernel
theorem dC_isMember_10 : decode mC_isMember.2.1 10 = .ok (.goto (4), 3) := by decide +kernel
theorem dC_isMember_13 : decode mC_isMember.2.1 13 = .ok (.iconst 0, 1) := by decide +kernel
theorem dC_isMember_14 : decode mC_isMember.2.1 14 = .ok (.ireturn, 1) := by decide +kernel
theorem dC_riskOf_0 : decode mC_riskOf.2.1 0 = .ok (.aload_n 0, 1) := by decide +kernel
theorem dC_riskOf_1 : decode mC_riskOf.2.1 1 = .ok (.iload_n 1, 1) := by decide +kernel
theorem dC_riskOf_2 : decode mC_riskOf.2.1 2 = .ok (.iconst 0, 1) := by decide +kernel
theorem dC_riskOf_3 : decode mC_riskOf.2.1 3 = .ok (.iconst 0, 1) := by decide +kernel
theorem dC_riskOf_4 : decode mC_riskOf.2.1 4 = .ok (.iconst 0, 1) := by decide +kernel
theorem dC_riskOf_5 : decode mC_riskOf.2.1 5 = .ok (.invokevirtual 81, 3) := by decide +kernel
theorem dC_riskOf_8 : decode mC_riskOf.2.1 8 = .ok (.lreturn, 1) := by decide +kernel
theorem dC_riskWith_0 : decode mC_riskWith.2.1 0 = .ok (.lconst 0, 1) := by decide +kernel
theorem dC_riskWith_1 : decode mC_riskWith.2.1 1 = .ok (.lstore 5, 2) := by decide +kernel
theorem dC_riskWith_3 : decode mC_riskWith.2.1 3 = .ok (.iconst 0, 1) := by decide +kernel
theorem dC_riskWith_4 : decode mC_riskWith.2.1 4 = .ok (.istore 7, 2) := by decide +kernel
theorem dC_riskWith_6 : decode mC_riskWith.2.1 6 = .ok (.iload 7, 2) := by decide +kernel
theorem dC_riskWith_8 : decode mC_riskWith.2.1 8 = .ok (.iconst 2, 1) := by decide +kernel
theorem dC_riskWith_9 : decode mC_riskWith.2.1 9 = .ok (.if_icmp .ge (123), 3) := by decide +kernel
theorem dC_riskWith_12 : decode mC_riskWith.2.1 12 = .ok (.aload_n 0, 1) := by decide +kernel
theorem dC_riskWith_13 : decode mC_riskWith.2.1 13 = .ok (.getfield 11, 3) := by decide +kernel
theorem dC_riskWith_16 : decode mC_riskWith.2.1 16 = .ok (.iload_n 1, 1) := by decide +kernel
theorem dC_riskWith_17 : decode mC_riskWith.2.1 17 = .ok (.aaload, 1) := by decide +kernel
theorem dC_riskWith_18 : decode mC_riskWith.2.1 18 = .ok (.getfield 175, 3) := by decide +kernel
theorem dC_riskWith_21 : decode mC_riskWith.2.1 21 = .ok (.iload 7, 2) := by decide +kernel
theorem dC_riskWith_23 : decode mC_riskWith.2.1 23 = .ok (.iaload, 1) := by decide +kernel
theorem dC_riskWith_24 : decode mC_riskWith.2.1 24 = .ok (.istore 8, 2) := by decide +kernel
theorem dC_riskWith_26 : decode mC_riskWith.2.1 26 = .ok (.iload 8, 2) := by decide +kernel
theorem dC_riskWith_28 : decode mC_riskWith.2.1 28 = .ok (.aload_n 0, 1) := by decide +kernel
theorem dC_riskWith_29 : decode mC_riskWith.2.1 29 = .ok (.getfield 17, 3) := by decide +kernel
theorem dC_riskWith_32 : decode mC_riskWith.2.1 32 = .ok (.iload 7, 2) := by decide +kernel
theorem dC_riskWith_34 : decode mC_riskWith.2.1 34 = .ok (.aaload, 1) := by decide +kernel
theorem dC_riskWith_35 : decode mC_riskWith.2.1 35 = .ok (.getfield 188, 3) := by decide +kernel
theorem dC_riskWith_38 : decode mC_riskWith.2.1 38 = .ok (.iload_n 1, 1) := by decide +kernel
theorem dC_riskWith_39 : decode mC_riskWith.2.1 39 = .ok (.invokevirtual 192, 3) := by decide +kernel
theorem dC_riskWith_42 : decode mC_riskWith.2.1 42 = .ok (.iadd, 1) := by decide +kernel
theorem dC_riskWith_43 : decode mC_riskWith.2.1 43 = .ok (.istore 9, 2) := by decide +kernel
theorem dC_riskWith_45 : decode mC_riskWith.2.1 45 = .ok (.iload 8, 2) := by decide +kernel
theorem dC_riskWith_47 : decode mC_riskWith.2.1 47 = .ok (.aload_n 0, 1) := by decide +kernel
theorem dC_riskWith_48 : decode mC_riskWith.2.1 48 = .ok (.getfield 17, 3) := by decide +kernel
theorem dC_riskWith_51 : decode mC_riskWith.2.1 51 = .ok (.iload 7, 2) := by decide +kernel
theorem dC_riskWith_53 : decode mC_riskWith.2.1 53 = .ok (.aaload, 1) := by decide +kernel
theorem dC_riskWith_54 : decode mC_riskWith.2.1 54 = .ok (.getfield 195, 3) := by decide +kernel
theorem dC_riskWith_57 : decode mC_riskWith.2.1 57 = .ok (.iload_n 1, 1) := by decide +kernel
theorem dC_riskWith_58 : decode mC_riskWith.2.1 58 = .ok (.invokevirtual 192, 3) := by decide +kernel
theorem dC_riskWith_61 : decode mC_riskWith.2.1 61 = .ok (.isub, 1) := by decide +kernel
theorem dC_riskWith_62 : decode mC_riskWith.2.1 62 = .ok (.istore 10, 2) := by decide +kernel
theorem dC_riskWith_64 : decode mC_riskWith.2.1 64 = .ok (.iload 7, 2) := by decide +kernel
theorem dC_riskWith_66 : decode mC_riskWith.2.1 66 = .ok (.iload_n 2, 1) := by decide +kernel
theorem dC_riskWith_67 : decode mC_riskWith.2.1 67 = .ok (.if_icmp .ne (14), 3) := by decide +kernel
theorem dC_riskWith_70 : decode mC_riskWith.2.1 70 = .ok (.iload_n 3, 1) := by decide +kernel
theorem dC_riskWith_71 : decode mC_riskWith.2.1 71 = .ok (.ifCond .ne (10), 3) := by decide +kernel
theorem dC_riskWith_74 : decode mC_riskWith.2.1 74 = .ok (.iload 9, 2) := by decide +kernel
theorem dC_riskWith_76 : decode mC_riskWith.2.1 76 = .ok (.iload 4, 2) := by decide +kernel
theorem dC_riskWith_78 : decode mC_riskWith.2.1 78 = .ok (.iadd, 1) := by decide +kernel
theorem dC_riskWith_79 : decode mC_riskWith.2.1 79 = .ok (.istore 9, 2) := by decide +kernel
theorem dC_riskWith_81 : decode mC_riskWith.2.1 81 = .ok (.iload 7, 2) := by decide +kernel
theorem dC_riskWith_83 : decode mC_riskWith.2.1 83 = .ok (.iload_n 2, 1) := by decide +kernel
theorem dC_riskWith_84 : decode mC_riskWith.2.1 84 = .ok (.if_icmp .ne (15), 3) := by decide +kernel
theorem dC_riskWith_87 : decode mC_riskWith.2.1 87 = .ok (.iload_n 3, 1) := by decide +kernel
theorem dC_riskWith_88 : decode mC_riskWith.2.1 88 = .ok (.iconst 1, 1) := by decide +kernel
theorem dC_riskWith_89 : decode mC_riskWith.2.1 89 = .ok (.if_icmp .ne (10), 3) := by decide +kernel
theorem dC_riskWith_92 : decode mC_riskWith.2.1 92 = .ok (.iload 10, 2) := by decide +kernel
theorem dC_riskWith_94 : decode mC_riskWith.2.1 94 = .ok (.iload 4, 2) := by decide +kernel
theorem dC_riskWith_96 : decode mC_riskWith.2.1 96 = .ok (.isub, 1) := by decide +kernel
theorem dC_riskWith_97 : decode mC_riskWith.2.1 97 = .ok (.istore 10, 2) := by decide +kernel
theorem dC_riskWith_99 : decode mC_riskWith.2.1 99 = .ok (.lload 5, 2) := by decide +kernel
theorem dC_riskWith_101 : decode mC_riskWith.2.1 101 = .ok (.getstatic 198, 3) := by decide +kernel
theorem dC_riskWith_104 : decode mC_riskWith.2.1 104 = .ok (.iload 7, 2) := by decide +kernel
theorem dC_riskWith_106 : decode mC_riskWith.2.1 106 = .ok (.iaload, 1) := by decide +kernel
theorem dC_riskWith_107 : decode mC_riskWith.2.1 107 = .ok (.i2l, 1) := by decide +kernel
theorem dC_riskWith_108 : decode mC_riskWith.2.1 108 = .ok (.iload 9, 2) := by decide +kernel
theorem dC_riskWith_110 : decode mC_riskWith.2.1 110 = .ok (.invokestatic 201, 3) := by decide +kernel
theorem dC_riskWith_113 : decode mC_riskWith.2.1 113 = .ok (.iload 10, 2) := by decide +kernel
theorem dC_riskWith_115 : decode mC_riskWith.2.1 115 = .ok (.invokestatic 201, 3) := by decide +kernel
theorem dC_riskWith_118 : decode mC_riskWith.2.1 118 = .ok (.invokestatic 204, 3) := by decide +kernel
theorem dC_riskWith_121 : decode mC_riskWith.2.1 121 = .ok (.i2l, 1) := by decide +kernel
theorem dC_riskWith_122 : decode mC_riskWith.2.1 122 = .ok (.lmul, 1) := by decide +kernel
theorem dC_riskWith_123 : decode mC_riskWith.2.1 123 = .ok (.ladd, 1) := by decide +kernel
theorem dC_riskWith_124 : decode mC_riskWith.2.1 124 = .ok (.lstore 5, 2) := by decide +kernel
theorem dC_riskWith_126 : decode mC_riskWith.2.1 126 = .ok (.iinc 7 (1), 3) := by decide +kernel
theorem dC_riskWith_129 : decode mC_riskWith.2.1 129 = .ok (.goto (-123), 3) := by decide +kernel
theorem dC_riskWith_132 : decode mC_riskWith.2.1 132 = .ok (.lload 5, 2) := by decide +kernel
theorem dC_riskWith_134 : decode mC_riskWith.2.1 134 = .ok (.lreturn, 1) := by decide +kernel
theorem dD_leftOf_0 : decode mD_leftOf.2.1 0 = .ok (.iconst 0, 1) := by decide +kernel
theorem dD_leftOf_1 : decode mD_leftOf.2.1 1 = .ok (.istore_n 2, 1) := by decide +kernel
theorem dD_leftOf_2 : decode mD_leftOf.2.1 2 = .ok (.aload_n 0, 1) := by decide +kernel
theorem dD_leftOf_3 : decode mD_leftOf.2.1 3 = .ok (.getfield 9, 3) := by decide +kernel
theorem dD_leftOf_6 : decode mD_leftOf.2.1 6 = .ok (.astore_n 3, 1) := by decide +kernel
theorem dD_leftOf_7 : decode mD_leftOf.2.1 7 = .ok (.aload_n 3, 1) := by decide +kernel
theorem dD_leftOf_8 : decode mD_leftOf.2.1 8 = .ok (.ifnull (26), 3) := by decide +kernel
theorem dD_leftOf_11 : decode mD_leftOf.2.1 11 = .ok (.aload_n 3, 1) := by decide +kernel
theorem dD_leftOf_12 : decode mD_leftOf.2.1 12 = .ok (.getfield 28, 3) := by decide +kernel
theorem dD_leftOf_15 : decode mD_leftOf.2.1 15 = .ok (.iload_n 1, 1) := by decide +kernel
theorem dD_leftOf_16 : decode mD_leftOf.2.1 16 = .ok (.if_icmp .ne (10), 3) := by decide +kernel
theorem dD_leftOf_19 : decode mD_leftOf.2.1 19 = .ok (.iload_n 2, 1) := by decide +kernel
theorem dD_leftOf_20 : decode mD_leftOf.2.1 20 = .ok (.aload_n 3, 1) := by decide +kernel
theorem dD_leftOf_21 : decode mD_leftOf.2.1 21 = .ok (.getfield 32, 3) := by decide +kernel
theorem dD_leftOf_24 : decode mD_leftOf.2.1 24 = .ok (.iadd, 1) := by decide +kernel
theorem dD_leftOf_25 : decode mD_leftOf.2.1 25 = .ok (.istore_n 2, 1) := by decide +kernel
theorem dD_leftOf_26 : decode mD_leftOf.2.1 26 = .ok (.aload_n 3, 1) := by decide +kernel
theorem dD_leftOf_27 : decode mD_leftOf.2.1 27 = .ok (.getfield 19, 3) := by decide +kernel
theorem dD_leftOf_30 : decode mD_leftOf.2.1 30 = .ok (.astore_n 3, 1) := by decide +kernel
theorem dD_leftOf_31 : decode mD_leftOf.2.1 31 = .ok (.goto (-24), 3) := by decide +kernel
theorem dD_leftOf_34 : decode mD_leftOf.2.1 34 = .ok (.iload_n 2, 1) := by decide +kernel
theorem dD_leftOf_35 : decode mD_leftOf.2.1 35 = .ok (.ireturn, 1) := by decide +kernel
theorem dM_abs_0 : decode mM_abs.2.1 0 = .ok (.iload_n 0, 1) := by decide +kernel
theorem dM_abs_1 : decode mM_abs.2.1 1 = .ok (.ifCond .ge (8), 3) := by decide +kernel
theorem dM_abs_4 : decode mM_abs.2.1 4 = .ok (.iload_n 0, 1) := by decide +kernel
theorem dM_abs_5 : decode mM_abs.2.1 5 = .ok (.ineg, 1) := by decide +kernel
theorem dM_abs_6 : decode mM_abs.2.1 6 = .ok (.goto (4), 3) := by decide +kernel
theorem dM_abs_9 : decode mM_abs.2.1 9 = .ok (.iload_n 0, 1) := by decide +kernel
theorem dM_abs_10 : decode mM_abs.2.1 10 = .ok (.ireturn, 1) := by decide +kernel
theorem dM_max_0 : decode mM_max.2.1 0 = .ok (.iload_n 0, 1) := by decide +kernel
theorem dM_max_1 : decode mM_max.2.1 1 = .ok (.iload_n 1, 1) := by decide +kernel
theorem dM_max_2 : decode mM_max.2.1 2 = .ok (.if_icmp .lt (7), 3) := by decide +kernel
theorem dM_max_5 : decode mM_max.2.1 5 = .ok (.iload_n 0, 1) := by decide +kernel
theorem dM_max_6 : decode mM_max.2.1 6 = .ok (.goto (4), 3) := by decide +kernel
theorem dM_max_9 : decode mM_max.2.1 9 = .ok (.iload_n 1, 1) := by decide +kernel
theorem dM_max_10 : decode mM_max.2.1 10 = .ok (.ireturn, 1) := by decide +kernel
theorem dC_place_0 : decode mC_place.2.1 0 = .ok (.iload_n 1, 1) := by decide +kernel
theorem dC_place_1 : decode mC_place.2.1 1 = .ok (.invokestatic 47, 3) := by decide +kernel
theorem dC_place_4 : decode mC_place.2.1 4 = .ok (.ifCond .eq (46), 3) := by decide +kernel
theorem dC_place_7 : decode mC_place.2.1 7 = .ok (.iload_n 2, 1) := by decide +kernel
theorem dC_place_8 : decode mC_place.2.1 8 = .ok (.invokestatic 61, 3) := by decide +kernel
theorem dC_place_11 : decode mC_place.2.1 11 = .ok (.ifCond .eq (39), 3) := by decide +kernel
theorem dC_place_14 : decode mC_place.2.1 14 = .ok (.iload_n 3, 1) := by decide +kernel
theorem dC_place_15 : decode mC_place.2.1 15 = .ok (.invokestatic 64, 3) := by decide +kernel
theorem dC_place_18 : decode mC_place.2.1 18 = .ok (.ifCond .eq (32), 3) := by decide +kernel
theorem dC_place_21 : decode mC_place.2.1 21 = .ok (.iload 5, 2) := by decide +kernel
theorem dC_place_23 : decode mC_place.2.1 23 = .ok (.iconst 1, 1) := by decide +kernel
theorem dC_place_24 : decode mC_place.2.1 24 = .ok (.if_icmp .lt (26), 3) := by decide +kernel
theorem dC_place_27 : decode mC_place.2.1 27 = .ok (.iload 5, 2) := by decide +kernel
theorem dC_place_29 : decode mC_place.2.1 29 = .ok (.bipush (99), 2) := by decide +kernel
theorem dC_place_31 : decode mC_place.2.1 31 = .ok (.if_icmp .gt (19), 3) := by decide +kernel
theorem dC_place_34 : decode mC_place.2.1 34 = .ok (.iload_n 3, 1) := by decide +kernel
theorem dC_place_35 : decode mC_place.2.1 35 = .ok (.invokestatic 67, 3) := by decide +kernel
theorem dC_place_38 : decode mC_place.2.1 38 = .ok (.iconst 3, 1) := by decide +kernel
theorem dC_place_39 : decode mC_place.2.1 39 = .ok (.if_icmp .eq (13), 3) := by decide +kernel
theorem dC_place_42 : decode mC_place.2.1 42 = .ok (.iload 4, 2) := by decide +kernel
theorem dC_place_44 : decode mC_place.2.1 44 = .ok (.invokestatic 71, 3) := by decide +kernel
theorem dC_place_47 : decode mC_place.2.1 47 = .ok (.ifCond .ne (5), 3) := by decide +kernel
theorem dC_place_50 : decode mC_place.2.1 50 = .ok (.iconst (-1), 1) := by decide +kernel
theorem dC_place_51 : decode mC_place.2.1 51 = .ok (.ireturn, 1) := by decide +kernel
theorem dC_place_52 : decode mC_place.2.1 52 = .ok (.aload_n 0, 1) := by decide +kernel
theorem dC_place_53 : decode mC_place.2.1 53 = .ok (.getfield 41, 3) := by decide +kernel
theorem dC_place_56 : decode mC_place.2.1 56 = .ok (.bipush (120), 2) := by decide +kernel
theorem dC_place_58 : decode mC_place.2.1 58 = .ok (.if_icmp .lt (6), 3) := by decide +kernel
theorem dC_place_61 : decode mC_place.2.1 61 = .ok (.bipush (-2), 2) := by decide +kernel
theorem dC_place_63 : decode mC_place.2.1 63 = .ok (.ireturn, 1) := by decide +kernel
theorem dC_place_64 : decode mC_place.2.1 64 = .ok (.aload_n 0, 1) := by decide +kernel
theorem dC_place_65 : decode mC_place.2.1 65 = .ok (.getfield 17, 3) := by decide +kernel
theorem dC_place_68 : decode mC_place.2.1 68 = .ok (.iload_n 2, 1) := by decide +kernel
theorem dC_place_69 : decode mC_place.2.1 69 = .ok (.aaload, 1) := by decide +kernel
theorem dC_place_70 : decode mC_place.2.1 70 = .ok (.astore 6, 2) := by decide +kernel
theorem dC_place_72 : decode mC_place.2.1 72 = .ok (.iload_n 3, 1) := by decide +kernel
theorem dC_place_73 : decode mC_place.2.1 73 = .ok (.invokestatic 67, 3) := by decide +kernel
theorem dC_place_76 : decode mC_place.2.1 76 = .ok (.istore 7, 2) := by decide +kernel
theorem dC_place_78 : decode mC_place.2.1 78 = .ok (.aload 6, 2) := by decide +kernel
theorem dC_place_80 : decode mC_place.2.1 80 = .ok (.getfield 74, 3) := by decide +kernel
theorem dC_place_83 : decode mC_place.2.1 83 = .ok (.ifCond .ne (17), 3) := by decide +kernel
theorem dC_place_86 : decode mC_place.2.1 86 = .ok (.iload 7, 2) := by decide +kernel
theorem dC_place_88 : decode mC_place.2.1 88 = .ok (.ifCond .eq (12), 3) := by decide +kernel
theorem dC_place_91 : decode mC_place.2.1 91 = .ok (.iload 7, 2) := by decide +kernel
theorem dC_place_93 : decode mC_place.2.1 93 = .ok (.iconst 5, 1) := by decide +kernel
theorem dC_place_94 : decode mC_place.2.1 94 = .ok (.if_icmp .eq (6), 3) := by decide +kernel
theorem dC_place_97 : decode mC_place.2.1 97 = .ok (.bipush (-3), 2) := by decide +kernel
theorem dC_place_99 : decode mC_place.2.1 99 = .ok (.ireturn, 1) := by decide +kernel
theorem dC_place_100 : decode mC_place.2.1 100 = .ok (.aload_n 0, 1) := by decide +kernel
theorem dC_place_101 : decode mC_place.2.1 101 = .ok (.iload_n 1, 1) := by decide +kernel
theorem dC_place_102 : decode mC_place.2.1 102 = .ok (.iload_n 2, 1) := by decide +kernel
theorem dC_place_103 : decode mC_place.2.1 103 = .ok (.iload_n 3, 1) := by decide +kernel
theorem dC_place_104 : decode mC_place.2.1 104 = .ok (.invokestatic 78, 3) := by decide +kernel
theorem dC_place_107 : decode mC_place.2.1 107 = .ok (.iload 5, 2) := by decide +kernel
theorem dC_place_109 : decode mC_place.2.1 109 = .ok (.invokevirtual 81, 3) := by decide +kernel
theorem dC_place_112 : decode mC_place.2.1 112 = .ok (.aload_n 0, 1) := by decide +kernel
theorem dC_place_113 : decode mC_place.2.1 113 = .ok (.getfield 11, 3) := by decide +kernel
theorem dC_place_116 : decode mC_place.2.1 116 = .ok (.iload_n 1, 1) := by decide +kernel
theorem dC_place_117 : decode mC_place.2.1 117 = .ok (.aaload, 1) := by decide +kernel
theorem dC_place_118 : decode mC_place.2.1 118 = .ok (.getfield 53, 3) := by decide +kernel
theorem dC_place_121 : decode mC_place.2.1 121 = .ok (.lcmp, 1) := by decide +kernel
theorem dC_place_122 : decode mC_place.2.1 122 = .ok (.ifCond .le (6), 3) := by decide +kernel
theorem dC_place_125 : decode mC_place.2.1 125 = .ok (.bipush (-4), 2) := by decide +kernel
theorem dC_place_127 : decode mC_place.2.1 127 = .ok (.ireturn, 1) := by decide +kernel
theorem dC_place_128 : decode mC_place.2.1 128 = .ok (.new 21, 3) := by decide +kernel
theorem dC_place_131 : decode mC_place.2.1 131 = .ok (.dup, 1) := by decide +kernel
theorem dC_place_132 : decode mC_place.2.1 132 = .ok (.aload_n 0, 1) := by decide +kernel
theorem dC_place_133 : decode mC_place.2.1 133 = .ok (.getfield 41, 3) := by decide +kernel
theorem dC_place_136 : decode mC_place.2.1 136 = .ok (.iload_n 1, 1) := by decide +kernel
theorem dC_place_137 : decode mC_place.2.1 137 = .ok (.iload_n 2, 1) := by decide +kernel
theorem dC_place_138 : decode mC_place.2.1 138 = .ok (.iload_n 3, 1) := by decide +kernel
theorem dC_place_139 : decode mC_place.2.1 139 = .ok (.iload 4, 2) := by decide +kernel
theorem dC_place_141 : decode mC_place.2.1 141 = .ok (.iload 5, 2) := by decide +kernel
theorem dC_place_143 : decode mC_place.2.1 143 = .ok (.invokespecial 85, 3) := by decide +kernel
theorem dC_place_146 : decode mC_place.2.1 146 = .ok (.astore 8, 2) := by decide +kernel
theorem dC_place_148 : decode mC_place.2.1 148 = .ok (.aload 6, 2) := by decide +kernel
theorem dC_place_150 : decode mC_place.2.1 150 = .ok (.aload 8, 2) := by decide +kernel
theorem dC_place_152 : decode mC_place.2.1 152 = .ok (.invokevirtual 88, 3) := by decide +kernel
theorem dC_place_155 : decode mC_place.2.1 155 = .ok (.ifCond .eq (6), 3) := by decide +kernel
theorem dC_place_158 : decode mC_place.2.1 158 = .ok (.bipush (-5), 2) := by decide +kernel
theorem dC_place_160 : decode mC_place.2.1 160 = .ok (.ireturn, 1) := by decide +kernel
theorem dC_place_161 : decode mC_place.2.1 161 = .ok (.aload_n 0, 1) := by decide +kernel
theorem dC_place_162 : decode mC_place.2.1 162 = .ok (.getfield 23, 3) := by decide +kernel
theorem dC_place_165 : decode mC_place.2.1 165 = .ok (.aload_n 0, 1) := by decide +kernel
theorem dC_place_166 : decode mC_place.2.1 166 = .ok (.getfield 41, 3) := by decide +kernel
theorem dC_place_169 : decode mC_place.2.1 169 = .ok (.aload 8, 2) := by decide +kernel
theorem dC_place_171 : decode mC_place.2.1 171 = .ok (.aastore, 1) := by decide +kernel
theorem dC_place_172 : decode mC_place.2.1 172 = .ok (.aload_n 0, 1) := by decide +kernel
theorem dC_place_173 : decode mC_place.2.1 173 = .ok (.dup, 1) := by decide +kernel
theorem dC_place_174 : decode mC_place.2.1 174 = .ok (.getfield 41, 3) := by decide +kernel
theorem dC_place_177 : decode mC_place.2.1 177 = .ok (.iconst 1, 1) := by decide +kernel
theorem dC_place_178 : decode mC_place.2.1 178 = .ok (.iadd, 1) := by decide +kernel
theorem dC_place_179 : decode mC_place.2.1 179 = .ok (.putfield 41, 3) := by decide +kernel
theorem dC_place_182 : decode mC_place.2.1 182 = .ok (.aload_n 0, 1) := by decide +kernel
theorem dC_place_183 : decode mC_place.2.1 183 = .ok (.aload 8, 2) := by decide +kernel
theorem dC_place_185 : decode mC_place.2.1 185 = .ok (.aload 6, 2) := by decide +kernel
theorem dC_place_187 : decode mC_place.2.1 187 = .ok (.invokevirtual 92, 3) := by decide +kernel
theorem dC_place_190 : decode mC_place.2.1 190 = .ok (.aload 8, 2) := by decide +kernel
theorem dC_place_192 : decode mC_place.2.1 192 = .ok (.getfield 96, 3) := by decide +kernel
theorem dC_place_195 : decode mC_place.2.1 195 = .ok (.ireturn, 1) := by decide +kernel
theorem dC_isInstrument_0 : decode mC_isInstrument.2.1 0 = .ok (.iload_n 0, 1) := by decide +kernel
theorem dC_isInstrument_1 : decode mC_isInstrument.2.1 1 = .ok (.ifCond .lt (12), 3) := by decide +kernel
theorem dC_isInstrument_4 : decode mC_isInstrument.2.1 4 = .ok (.iload_n 0, 1) := by decide +kernel
theorem dC_isInstrument_5 : decode mC_isInstrument.2.1 5 = .ok (.iconst 2, 1) := by decide +kernel
theorem dC_isInstrument_6 : decode mC_isInstrument.2.1 6 = .ok (.if_icmp .ge (7), 3) := by decide +kernel
theorem dC_isInstrument_9 : decode mC_isInstrument.2.1 9 = .ok (.iconst 1, 1) := by decide +kernel
theorem dC_isInstrument_10 : decode mC_isInstrument.2.1 10 = .ok (.goto (4), 3) := by decide +kernel
theorem dC_isInstrument_13 : decode mC_isInstrument.2.1 13 = .ok (.iconst 0, 1) := by decide +kernel
theorem dC_isInstrument_14 : decode mC_isInstrument.2.1 14 = .ok (.ireturn, 1) := by decide +kernel
theorem dC_isHow_0 : decode mC_isHow.2.1 0 = .ok (.iload_n 0, 1) := by decide +kernel
theorem dC_isHow_1 : decode mC_isHow.2.1 1 = .ok (.ifCond .lt (13), 3) := by decide +kernel
theorem dC_isHow_4 : decode mC_isHow.2.1 4 = .ok (.iload_n 0, 1) := by decide +kernel
theorem dC_isHow_5 : decode mC_isHow.2.1 5 = .ok (.bipush (12), 2) := by decide +kernel
theorem dC_isHow_7 : decode mC_isHow.2.1 7 = .ok (.if_icmp .ge (7), 3) := by decide +kernel
theorem dC_isHow_10 : decode mC_isHow.2.1 10 = .ok (.iconst 1, 1) := by decide +kernel
theorem dC_isHow_11 : decode mC_isHow.2.1 11 = .ok (.goto (4), 3) := by decide +kernel
theorem dC_isHow_14 : decode mC_isHow.2.1 14 = .ok (.iconst 0, 1) := by decide +kernel
theorem dC_isHow_15 : decode mC_isHow.2.1 15 = .ok (.ireturn, 1) := by decide +kernel
theorem dC_kindOf_0 : decode mC_kindOf.2.1 0 = .ok (.iload_n 0, 1) := by decide +kernel
theorem dC_kindOf_1 : decode mC_kindOf.2.1 1 = .ok (.iconst 2, 1) := by decide +kernel
theorem dC_kindOf_2 : decode mC_kindOf.2.1 2 = .ok (.idiv, 1) := by decide +kernel
theorem dC_kindOf_3 : decode mC_kindOf.2.1 3 = .ok (.ireturn, 1) := by decide +kernel
theorem dC_isPrice_0 : decode mC_isPrice.2.1 0 = .ok (.iload_n 0, 1) := by decide +kernel
theorem dC_isPrice_1 : decode mC_isPrice.2.1 1 = .ok (.iconst 1, 1) := by decide +kernel
theorem dC_isPrice_2 : decode mC_isPrice.2.1 2 = .ok (.if_icmp .lt (13), 3) := by decide +kernel
theorem dC_isPrice_5 : decode mC_isPrice.2.1 5 = .ok (.iload_n 0, 1) := by decide +kernel
theorem dC_isPrice_6 : decode mC_isPrice.2.1 6 = .ok (.bipush (63), 2) := by decide +kernel
theorem dC_isPrice_8 : decode mC_isPrice.2.1 8 = .ok (.if_icmp .gt (7), 3) := by decide +kernel
theorem dC_isPrice_11 : decode mC_isPrice.2.1 11 = .ok (.iconst 1, 1) := by decide +kernel
theorem dC_isPrice_12 : decode mC_isPrice.2.1 12 = .ok (.goto (4), 3) := by decide +kernel
theorem dC_isPrice_15 : decode mC_isPrice.2.1 15 = .ok (.iconst 0, 1) := by decide +kernel
theorem dC_isPrice_16 : decode mC_isPrice.2.1 16 = .ok (.ireturn, 1) := by decide +kernel
theorem dC_sideOf_0 : decode mC_sideOf.2.1 0 = .ok (.iload_n 0, 1) := by decide +kernel
theorem dC_sideOf_1 : decode mC_sideOf.2.1 1 = .ok (.iconst 2, 1) := by decide +kernel
theorem dC_sideOf_2 : decode mC_sideOf.2.1 2 = .ok (.irem, 1) := by decide +kernel
theorem dC_sideOf_3 : decode mC_sideOf.2.1 3 = .ok (.ireturn, 1) := by decide +kernel
theorem dO_init_0 : decode mO_init.2.1 0 = .ok (.aload_n 0, 1) := by decide +kernel
theorem dO_init_1 : decode mO_init.2.1 1 = .ok (.invokespecial 3, 3) := by decide +kernel
theorem dO_init_4 : decode mO_init.2.1 4 = .ok (.aload_n 0, 1) := by decide +kernel
theorem dO_init_5 : decode mO_init.2.1 5 = .ok (.iconst 0, 1) := by decide +kernel
theorem dO_init_6 : decode mO_init.2.1 6 = .ok (.putfield 9, 3) := by decide +kernel
theorem dO_init_9 : decode mO_init.2.1 9 = .ok (.aload_n 0, 1) := by decide +kernel
theorem dO_init_10 : decode mO_init.2.1 10 = .ok (.iconst 0, 1) := by decide +kernel
theorem dO_init_11 : decode mO_init.2.1 11 = .ok (.putfield 15, 3) := by decide +kernel
theorem dO_init_14 : decode mO_init.2.1 14 = .ok (.aload_n 0, 1) := by decide +kernel
theorem dO_init_15 : decode mO_init.2.1 15 = .ok (.aconst_null, 1) := by decide +kernel
theorem dO_init_16 : decode mO_init.2.1 16 = .ok (.putfield 18, 3) := by decide +kernel
theorem dO_init_19 : decode mO_init.2.1 19 = .ok (.aload_n 0, 1) := by decide +kernel
theorem dO_init_20 : decode mO_init.2.1 20 = .ok (.iload_n 1, 1) := by decide +kernel
theorem dO_init_21 : decode mO_init.2.1 21 = .ok (.putfield 22, 3) := by decide +kernel
theorem dO_init_24 : decode mO_init.2.1 24 = .ok (.aload_n 0, 1) := by decide +kernel
theorem dO_init_25 : decode mO_init.2.1 25 = .ok (.iload_n 2, 1) := by decide +kernel
theorem dO_init_26 : decode mO_init.2.1 26 = .ok (.putfield 25, 3) := by decide +kernel
theorem dO_init_29 : decode mO_init.2.1 29 = .ok (.aload_n 0, 1) := by decide +kernel
theorem dO_init_30 : decode mO_init.2.1 30 = .ok (.iload_n 3, 1) := by decide +kernel
theorem dO_init_31 : decode mO_init.2.1 31 = .ok (.putfield 28, 3) := by decide +kernel
theorem dO_init_34 : decode mO_init.2.1 34 = .ok (.aload_n 0, 1) := by decide +kernel
theorem dO_init_35 : decode mO_init.2.1 35 = .ok (.iload 4, 2) := by decide +kernel
theorem dO_init_37 : decode mO_init.2.1 37 = .ok (.invokestatic 31, 3) := by decide +kernel
theorem dO_init_40 : decode mO_init.2.1 40 = .ok (.putfield 35, 3) := by decide +kernel
theorem dO_init_43 : decode mO_init.2.1 43 = .ok (.aload_n 0, 1) := by decide +kernel
theorem dO_init_44 : decode mO_init.2.1 44 = .ok (.iload 4, 2) := by decide +kernel
theorem dO_init_46 : decode mO_init.2.1 46 = .ok (.invokestatic 38, 3) := by decide +kernel
theorem dO_init_49 : decode mO_init.2.1 49 = .ok (.putfield 41, 3) := by decide +kernel
theorem dO_init_52 : decode mO_init.2.1 52 = .ok (.aload_n 0, 1) := by decide +kernel
theorem dO_init_53 : decode mO_init.2.1 53 = .ok (.getfield 41, 3) := by decide +kernel
theorem dO_init_56 : decode mO_init.2.1 56 = .ok (.iconst 3, 1) := by decide +kernel
theorem dO_init_57 : decode mO_init.2.1 57 = .ok (.if_icmp .ne (23), 3) := by decide +kernel
theorem dO_init_60 : decode mO_init.2.1 60 = .ok (.aload_n 0, 1) := by decide +kernel
theorem dO_init_61 : decode mO_init.2.1 61 = .ok (.aload_n 0, 1) := by decide +kernel
theorem dO_init_62 : decode mO_init.2.1 62 = .ok (.getfield 35, 3) := by decide +kernel
theorem dO_init_65 : decode mO_init.2.1 65 = .ok (.ifCond .ne (8), 3) := by decide +kernel
theorem dO_init_68 : decode mO_init.2.1 68 = .ok (.bipush (63), 2) := by decide +kernel
theorem dO_init_70 : decode mO_init.2.1 70 = .ok (.goto (4), 3) := by decide +kernel
theorem dO_init_73 : decode mO_init.2.1 73 = .ok (.iconst 1, 1) := by decide +kernel
theorem dO_init_74 : decode mO_init.2.1 74 = .ok (.putfield 44, 3) := by decide +kernel
theorem dO_init_77 : decode mO_init.2.1 77 = .ok (.goto (9), 3) := by decide +kernel
theorem dO_init_80 : decode mO_init.2.1 80 = .ok (.aload_n 0, 1) := by decide +kernel
theorem dO_init_81 : decode mO_init.2.1 81 = .ok (.iload 5, 2) := by decide +kernel
theorem dO_init_83 : decode mO_init.2.1 83 = .ok (.putfield 44, 3) := by decide +kernel
theorem dO_init_86 : decode mO_init.2.1 86 = .ok (.aload_n 0, 1) := by decide +kernel
theorem dO_init_87 : decode mO_init.2.1 87 = .ok (.iload 6, 2) := by decide +kernel
theorem dO_init_89 : decode mO_init.2.1 89 = .ok (.putfield 47, 3) := by decide +kernel
theorem dO_init_92 : decode mO_init.2.1 92 = .ok (.return_, 1) := by decide +kernel
theorem dB_refuses_0 : decode mB_refuses.2.1 0 = .ok (.aload_n 0, 1) := by decide +kernel
theorem dB_refuses_1 : decode mB_refuses.2.1 1 = .ok (.aload_n 1, 1) := by decide +kernel
theorem dB_refuses_2 : decode mB_refuses.2.1 2 = .ok (.getfield 29, 3) := by decide +kernel
theorem dB_refuses_5 : decode mB_refuses.2.1 5 = .ok (.invokevirtual 34, 3) := by decide +kernel
theorem dB_refuses_8 : decode mB_refuses.2.1 8 = .ok (.astore_n 2, 1) := by decide +kernel
theorem dB_refuses_9 : decode mB_refuses.2.1 9 = .ok (.aload_n 1, 1) := by decide +kernel
theorem dB_refuses_10 : decode mB_refuses.2.1 10 = .ok (.getfield 38, 3) := by decide +kernel
theorem dB_refuses_13 : decode mB_refuses.2.1 13 = .ok (.iconst 4, 1) := by decide +kernel
theorem dB_refuses_14 : decode mB_refuses.2.1 14 = .ok (.if_icmp .ne (30), 3) := by decide +kernel
theorem dB_refuses_17 : decode mB_refuses.2.1 17 = .ok (.aload_n 2, 1) := by decide +kernel
theorem dB_refuses_18 : decode mB_refuses.2.1 18 = .ok (.getfield 41, 3) := by decide +kernel
theorem dB_refuses_21 : decode mB_refuses.2.1 21 = .ok (.ifnull (21), 3) := by decide +kernel
theorem dB_refuses_24 : decode mB_refuses.2.1 24 = .ok (.aload_n 1, 1) := by decide +kernel
theorem dB_refuses_25 : decode mB_refuses.2.1 25 = .ok (.aload_n 2, 1) := by decide +kernel
theorem dB_refuses_26 : decode mB_refuses.2.1 26 = .ok (.getfield 41, 3) := by decide +kernel
theorem dB_refuses_29 : decode mB_refuses.2.1 29 = .ok (.getfield 45, 3) := by decide +kernel
theorem dB_refuses_32 : decode mB_refuses.2.1 32 = .ok (.invokevirtual 48, 3) := by decide +kernel
theorem dB_refuses_35 : decode mB_refuses.2.1 35 = .ok (.ifCond .eq (7), 3) := by decide +kernel
theorem dB_refuses_38 : decode mB_refuses.2.1 38 = .ok (.iconst 1, 1) := by decide +kernel
theorem dB_refuses_39 : decode mB_refuses.2.1 39 = .ok (.goto (4), 3) := by decide +kernel
theorem dB_refuses_42 : decode mB_refuses.2.1 42 = .ok (.iconst 0, 1) := by decide +kernel
theorem dB_refuses_43 : decode mB_refuses.2.1 43 = .ok (.ireturn, 1) := by decide +kernel
theorem dB_refuses_44 : decode mB_refuses.2.1 44 = .ok (.aload_n 1, 1) := by decide +kernel
theorem dB_refuses_45 : decode mB_refuses.2.1 45 = .ok (.getfield 38, 3) := by decide +kernel
theorem dB_refuses_48 : decode mB_refuses.2.1 48 = .ok (.iconst 2, 1) := by decide +kernel
theorem dB_refuses_49 : decode mB_refuses.2.1 49 = .ok (.if_icmp .ne (19), 3) := by decide +kernel
theorem dB_refuses_52 : decode mB_refuses.2.1 52 = .ok (.aload_n 2, 1) := by decide +kernel
theorem dB_refuses_53 : decode mB_refuses.2.1 53 = .ok (.aload_n 1, 1) := by decide +kernel
theorem dB_refuses_54 : decode mB_refuses.2.1 54 = .ok (.invokevirtual 52, 3) := by decide +kernel
theorem dB_refuses_57 : decode mB_refuses.2.1 57 = .ok (.aload_n 1, 1) := by decide +kernel
theorem dB_refuses_58 : decode mB_refuses.2.1 58 = .ok (.getfield 56, 3) := by decide +kernel
theorem dB_refuses_61 : decode mB_refuses.2.1 61 = .ok (.if_icmp .ge (7), 3) := by decide +kernel
theorem dB_refuses_64 : decode mB_refuses.2.1 64 = .ok (.iconst 1, 1) := by decide +kernel
theorem dB_refuses_65 : decode mB_refuses.2.1 65 = .ok (.goto (4), 3) := by decide +kernel
theorem dB_refuses_68 : decode mB_refuses.2.1 68 = .ok (.iconst 0, 1) := by decide +kernel
theorem dB_refuses_69 : decode mB_refuses.2.1 69 = .ok (.ireturn, 1) := by decide +kernel
theorem dB_facing_0 : decode mB_facing.2.1 0 = .ok (.iload_n 1, 1) := by decide +kernel
theorem dB_facing_1 : decode mB_facing.2.1 1 = .ok (.ifCond .ne (10), 3) := by decide +kernel
theorem dB_facing_4 : decode mB_facing.2.1 4 = .ok (.aload_n 0, 1) := by decide +kernel
theorem dB_facing_5 : decode mB_facing.2.1 5 = .ok (.getfield 18, 3) := by decide +kernel
theorem dB_facing_8 : decode mB_facing.2.1 8 = .ok (.goto (7), 3) := by decide +kernel
theorem dB_facing_11 : decode mB_facing.2.1 11 = .ok (.aload_n 0, 1) := by decide +kernel
theorem dB_facing_12 : decode mB_facing.2.1 12 = .ok (.getfield 12, 3) := by decide +kernel
theorem dB_facing_15 : decode mB_facing.2.1 15 = .ok (.areturn, 1) := by decide +kernel
theorem dO_accepts_0 : decode mO_accepts.2.1 0 = .ok (.aload_n 0, 1) := by decide +kernel
theorem dO_accepts_1 : decode mO_accepts.2.1 1 = .ok (.getfield 35, 3) := by decide +kernel
theorem dO_accepts_4 : decode mO_accepts.2.1 4 = .ok (.ifCond .ne (19), 3) := by decide +kernel
theorem dO_accepts_7 : decode mO_accepts.2.1 7 = .ok (.iload_n 1, 1) := by decide +kernel
theorem dO_accepts_8 : decode mO_accepts.2.1 8 = .ok (.aload_n 0, 1) := by decide +kernel
theorem dO_accepts_9 : decode mO_accepts.2.1 9 = .ok (.getfield 44, 3) := by decide +kernel
theorem dO_accepts_12 : decode mO_accepts.2.1 12 = .ok (.if_icmp .gt (7), 3) := by decide +kernel
theorem dO_accepts_15 : decode mO_accepts.2.1 15 = .ok (.iconst 1, 1) := by decide +kernel
theorem dO_accepts_16 : decode mO_accepts.2.1 16 = .ok (.goto (20), 3) := by decide +kernel
theorem dO_accepts_19 : decode mO_accepts.2.1 19 = .ok (.iconst 0, 1) := by decide +kernel
theorem dO_accepts_20 : decode mO_accepts.2.1 20 = .ok (.goto (16), 3) := by decide +kernel
theorem dO_accepts_23 : decode mO_accepts.2.1 23 = .ok (.iload_n 1, 1) := by decide +kernel
theorem dO_accepts_24 : decode mO_accepts.2.1 24 = .ok (.aload_n 0, 1) := by decide +kernel
theorem dO_accepts_25 : decode mO_accepts.2.1 25 = .ok (.getfield 44, 3) := by decide +kernel
theorem dO_accepts_28 : decode mO_accepts.2.1 28 = .ok (.if_icmp .lt (7), 3) := by decide +kernel
theorem dO_accepts_31 : decode mO_accepts.2.1 31 = .ok (.iconst 1, 1) := by decide +kernel
theorem dO_accepts_32 : decode mO_accepts.2.1 32 = .ok (.goto (4), 3) := by decide +kernel
theorem dO_accepts_35 : decode mO_accepts.2.1 35 = .ok (.iconst 0, 1) := by decide +kernel
theorem dO_accepts_36 : decode mO_accepts.2.1 36 = .ok (.ireturn, 1) := by decide +kernel
theorem dD_leftFor_0 : decode mD_leftFor.2.1 0 = .ok (.iconst 0, 1) := by decide +kernel
theorem dD_leftFor_1 : decode mD_leftFor.2.1 1 = .ok (.istore_n 2, 1) := by decide +kernel
theorem dD_leftFor_2 : decode mD_leftFor.2.1 2 = .ok (.aload_n 0, 1) := by decide +kernel
theorem dD_leftFor_3 : decode mD_leftFor.2.1 3 = .ok (.getfield 9, 3) := by decide +kernel
theorem dD_leftFor_6 : decode mD_leftFor.2.1 6 = .ok (.astore_n 3, 1) := by decide +kernel
theorem dD_leftFor_7 : decode mD_leftFor.2.1 7 = .ok (.aload_n 3, 1) := by decide +kernel
theorem dD_leftFor_8 : decode mD_leftFor.2.1 8 = .ok (.ifnull (40), 3) := by decide +kernel
theorem dD_leftFor_11 : decode mD_leftFor.2.1 11 = .ok (.aload_n 1, 1) := by decide +kernel
theorem dD_leftFor_12 : decode mD_leftFor.2.1 12 = .ok (.aload_n 3, 1) := by decide +kernel
theorem dD_leftFor_13 : decode mD_leftFor.2.1 13 = .ok (.getfield 35, 3) := by decide +kernel
theorem dD_leftFor_16 : decode mD_leftFor.2.1 16 = .ok (.invokevirtual 38, 3) := by decide +kernel
theorem dD_leftFor_19 : decode mD_leftFor.2.1 19 = .ok (.ifCond .eq (29), 3) := by decide +kernel
theorem dD_leftFor_22 : decode mD_leftFor.2.1 22 = .ok (.aload_n 3, 1) := by decide +kernel
theorem dD_leftFor_23 : decode mD_leftFor.2.1 23 = .ok (.getfield 28, 3) := by decide +kernel
theorem dD_leftFor_26 : decode mD_leftFor.2.1 26 = .ok (.aload_n 1, 1) := by decide +kernel
theorem dD_leftFor_27 : decode mD_leftFor.2.1 27 = .ok (.getfield 28, 3) := by decide +kernel
theorem dD_leftFor_30 : decode mD_leftFor.2.1 30 = .ok (.if_icmp .eq (10), 3) := by decide +kernel
theorem dD_leftFor_33 : decode mD_leftFor.2.1 33 = .ok (.iload_n 2, 1) := by decide +kernel
theorem dD_leftFor_34 : decode mD_leftFor.2.1 34 = .ok (.aload_n 3, 1) := by decide +kernel
theorem dD_leftFor_35 : decode mD_leftFor.2.1 35 = .ok (.getfield 32, 3) := by decide +kernel
theorem dD_leftFor_38 : decode mD_leftFor.2.1 38 = .ok (.iadd, 1) := by decide +kernel
theorem dD_leftFor_39 : decode mD_leftFor.2.1 39 = .ok (.istore_n 2, 1) := by decide +kernel
theorem dD_leftFor_40 : decode mD_leftFor.2.1 40 = .ok (.aload_n 3, 1) := by decide +kernel
theorem dD_leftFor_41 : decode mD_leftFor.2.1 41 = .ok (.getfield 19, 3) := by decide +kernel
theorem dD_leftFor_44 : decode mD_leftFor.2.1 44 = .ok (.astore_n 3, 1) := by decide +kernel
theorem dD_leftFor_45 : decode mD_leftFor.2.1 45 = .ok (.goto (-38), 3) := by decide +kernel
theorem dD_leftFor_48 : decode mD_leftFor.2.1 48 = .ok (.iload_n 2, 1) := by decide +kernel
theorem dD_leftFor_49 : decode mD_leftFor.2.1 49 = .ok (.ireturn, 1) := by decide +kernel
theorem dC_admit_0 : decode mC_admit.2.1 0 = .ok (.aload_n 2, 1) := by decide +kernel
theorem dC_admit_1 : decode mC_admit.2.1 1 = .ok (.getfield 74, 3) := by decide +kernel
theorem dC_admit_4 : decode mC_admit.2.1 4 = .ok (.ifCond .eq (9), 3) := by decide +kernel
theorem dC_admit_7 : decode mC_admit.2.1 7 = .ok (.aload_n 0, 1) := by decide +kernel
theorem dC_admit_8 : decode mC_admit.2.1 8 = .ok (.aload_n 1, 1) := by decide +kernel
theorem dC_admit_9 : decode mC_admit.2.1 9 = .ok (.aload_n 2, 1) := by decide +kernel
theorem dC_admit_10 : decode mC_admit.2.1 10 = .ok (.invokevirtual 207, 3) := by decide +kernel
theorem dC_admit_13 : decode mC_admit.2.1 13 = .ok (.aload_n 1, 1) := by decide +kernel
theorem dC_admit_14 : decode mC_admit.2.1 14 = .ok (.getfield 107, 3) := by decide +kernel
theorem dC_admit_17 : decode mC_admit.2.1 17 = .ok (.ifCond .ne (11), 3) := by decide +kernel
theorem dC_admit_20 : decode mC_admit.2.1 20 = .ok (.aload_n 1, 1) := by decide +kernel
theorem dC_admit_21 : decode mC_admit.2.1 21 = .ok (.iconst 1, 1) := by decide +kernel
theorem dC_admit_22 : decode mC_admit.2.1 22 = .ok (.putfield 157, 3) := by decide +kernel
theorem dC_admit_25 : decode mC_admit.2.1 25 = .ok (.goto (43), 3) := by decide +kernel
theorem dC_admit_28 : decode mC_admit.2.1 28 = .ok (.aload_n 1, 1) := by decide +kernel
theorem dC_admit_29 : decode mC_admit.2.1 29 = .ok (.getfield 210, 3) := by decide +kernel
theorem dC_admit_32 : decode mC_admit.2.1 32 = .ok (.iconst 1, 1) := by decide +kernel
theorem dC_admit_33 : decode mC_admit.2.1 33 = .ok (.if_icmp .eq (11), 3) := by decide +kernel
theorem dC_admit_36 : decode mC_admit.2.1 36 = .ok (.aload_n 1, 1) := by decide +kernel
theorem dC_admit_37 : decode mC_admit.2.1 37 = .ok (.getfield 210, 3) := by decide +kernel
theorem dC_admit_40 : decode mC_admit.2.1 40 = .ok (.iconst 3, 1) := by decide +kernel
theorem dC_admit_41 : decode mC_admit.2.1 41 = .ok (.if_icmp .ne (11), 3) := by decide +kernel
theorem dC_admit_44 : decode mC_admit.2.1 44 = .ok (.aload_n 1, 1) := by decide +kernel
theorem dC_admit_45 : decode mC_admit.2.1 45 = .ok (.iconst 2, 1) := by decide +kernel
theorem dC_admit_46 : decode mC_admit.2.1 46 = .ok (.putfield 157, 3) := by decide +kernel
theorem dC_admit_49 : decode mC_admit.2.1 49 = .ok (.goto (19), 3) := by decide +kernel
theorem dC_admit_52 : decode mC_admit.2.1 52 = .ok (.aload_n 1, 1) := by decide +kernel
theorem dC_admit_53 : decode mC_admit.2.1 53 = .ok (.invokevirtual 213, 3) := by decide +kernel
theorem dC_admit_56 : decode mC_admit.2.1 56 = .ok (.aload_n 2, 1) := by decide +kernel
theorem dC_admit_57 : decode mC_admit.2.1 57 = .ok (.aload_n 1, 1) := by decide +kernel
theorem dC_admit_58 : decode mC_admit.2.1 58 = .ok (.getfield 163, 3) := by decide +kernel
theorem dC_admit_61 : decode mC_admit.2.1 61 = .ok (.invokevirtual 136, 3) := by decide +kernel
theorem dC_admit_64 : decode mC_admit.2.1 64 = .ok (.aload_n 1, 1) := by decide +kernel
theorem dC_admit_65 : decode mC_admit.2.1 65 = .ok (.invokevirtual 216, 3) := by decide +kernel
theorem dC_admit_68 : decode mC_admit.2.1 68 = .ok (.return_, 1) := by decide +kernel
theorem dC_meet_0 : decode mC_meet.2.1 0 = .ok (.aload_n 2, 1) := by decide +kernel
theorem dC_meet_1 : decode mC_meet.2.1 1 = .ok (.aload_n 1, 1) := by decide +kernel
theorem dC_meet_2 : decode mC_meet.2.1 2 = .ok (.getfield 163, 3) := by decide +kernel
theorem dC_meet_5 : decode mC_meet.2.1 5 = .ok (.invokevirtual 220, 3) := by decide +kernel
theorem dC_meet_8 : decode mC_meet.2.1 8 = .ok (.astore_n 3, 1) := by decide +kernel
theorem dC_meet_9 : decode mC_meet.2.1 9 = .ok (.iconst 0, 1) := by decide +kernel
theorem dC_meet_10 : decode mC_meet.2.1 10 = .ok (.istore 4, 2) := by decide +kernel
theorem dC_meet_12 : decode mC_meet.2.1 12 = .ok (.iload 4, 2) := by decide +kernel
theorem dC_meet_14 : decode mC_meet.2.1 14 = .ok (.sipush (219), 3) := by decide +kernel
theorem dC_meet_17 : decode mC_meet.2.1 17 = .ok (.if_icmp .ge (70), 3) := by decide +kernel
theorem dC_meet_20 : decode mC_meet.2.1 20 = .ok (.aload_n 1, 1) := by decide +kernel
theorem dC_meet_21 : decode mC_meet.2.1 21 = .ok (.getfield 107, 3) := by decide +kernel
theorem dC_meet_24 : decode mC_meet.2.1 24 = .ok (.ifCond .le (63), 3) := by decide +kernel
theorem dC_meet_27 : decode mC_meet.2.1 27 = .ok (.aload_n 3, 1) := by decide +kernel
theorem dC_meet_28 : decode mC_meet.2.1 28 = .ok (.getfield 140, 3) := by decide +kernel
theorem dC_meet_31 : decode mC_meet.2.1 31 = .ok (.astore 5, 2) := by decide +kernel
theorem dC_meet_33 : decode mC_meet.2.1 33 = .ok (.aload 5, 2) := by decide +kernel
theorem dC_meet_35 : decode mC_meet.2.1 35 = .ok (.ifnull (15), 3) := by decide +kernel
theorem dC_meet_38 : decode mC_meet.2.1 38 = .ok (.aload_n 1, 1) := by decide +kernel
theorem dC_meet_39 : decode mC_meet.2.1 39 = .ok (.aload 5, 2) := by decide +kernel
theorem dC_meet_41 : decode mC_meet.2.1 41 = .ok (.getfield 146, 3) := by decide +kernel
theorem dC_meet_44 : decode mC_meet.2.1 44 = .ok (.invokevirtual 223, 3) := by decide +kernel
theorem dC_meet_47 : decode mC_meet.2.1 47 = .ok (.ifCond .ne (4), 3) := by decide +kernel
theorem dC_meet_50 : decode mC_meet.2.1 50 = .ok (.return_, 1) := by decide +kernel
theorem dC_meet_51 : decode mC_meet.2.1 51 = .ok (.aload 5, 2) := by decide +kernel
theorem dC_meet_53 : decode mC_meet.2.1 53 = .ok (.getfield 185, 3) := by decide +kernel
theorem dC_meet_56 : decode mC_meet.2.1 56 = .ok (.aload_n 1, 1) := by decide +kernel
theorem dC_meet_57 : decode mC_meet.2.1 57 = .ok (.getfield 185, 3) := by decide +kernel
theorem dC_meet_60 : decode mC_meet.2.1 60 = .ok (.if_icmp .ne (13), 3) := by decide +kernel
theorem dC_meet_63 : decode mC_meet.2.1 63 = .ok (.aload_n 0, 1) := by decide +kernel
theorem dC_meet_64 : decode mC_meet.2.1 64 = .ok (.aload 5, 2) := by decide +kernel
theorem dC_meet_66 : decode mC_meet.2.1 66 = .ok (.iconst 2, 1) := by decide +kernel
theorem dC_meet_67 : decode mC_meet.2.1 67 = .ok (.invokevirtual 103, 3) := by decide +kernel
theorem dC_meet_70 : decode mC_meet.2.1 70 = .ok (.goto (11), 3) := by decide +kernel
theorem dC_meet_73 : decode mC_meet.2.1 73 = .ok (.aload_n 0, 1) := by decide +kernel
theorem dC_meet_74 : decode mC_meet.2.1 74 = .ok (.aload_n 1, 1) := by decide +kernel
theorem dC_meet_75 : decode mC_meet.2.1 75 = .ok (.aload 5, 2) := by decide +kernel
theorem dC_meet_77 : decode mC_meet.2.1 77 = .ok (.aload_n 3, 1) := by decide +kernel
theorem dC_meet_78 : decode mC_meet.2.1 78 = .ok (.invokevirtual 226, 3) := by decide +kernel
theorem dC_meet_81 : decode mC_meet.2.1 81 = .ok (.iinc 4 (1), 3) := by decide +kernel
theorem dC_meet_84 : decode mC_meet.2.1 84 = .ok (.goto (-72), 3) := by decide +kernel
theorem dC_meet_87 : decode mC_meet.2.1 87 = .ok (.return_, 1) := by decide +kernel
theorem dC_takeAway_0 : decode mC_takeAway.2.1 0 = .ok (.aload_n 0, 1) := by decide +kernel
theorem dC_takeAway_1 : decode mC_takeAway.2.1 1 = .ok (.getfield 17, 3) := by decide +kernel
theorem dC_takeAway_4 : decode mC_takeAway.2.1 4 = .ok (.aload_n 1, 1) := by decide +kernel
theorem dC_takeAway_5 : decode mC_takeAway.2.1 5 = .ok (.getfield 160, 3) := by decide +kernel
theorem dC_takeAway_8 : decode mC_takeAway.2.1 8 = .ok (.aaload, 1) := by decide +kernel
theorem dC_takeAway_9 : decode mC_takeAway.2.1 9 = .ok (.aload_n 1, 1) := by decide +kernel
theorem dC_takeAway_10 : decode mC_takeAway.2.1 10 = .ok (.getfield 163, 3) := by decide +kernel
theorem dC_takeAway_13 : decode mC_takeAway.2.1 13 = .ok (.invokevirtual 136, 3) := by decide +kernel
theorem dC_takeAway_16 : decode mC_takeAway.2.1 16 = .ok (.aload_n 1, 1) := by decide +kernel
theorem dC_takeAway_17 : decode mC_takeAway.2.1 17 = .ok (.invokevirtual 234, 3) := by decide +kernel
theorem dC_takeAway_20 : decode mC_takeAway.2.1 20 = .ok (.aload_n 1, 1) := by decide +kernel
theorem dC_takeAway_21 : decode mC_takeAway.2.1 21 = .ok (.iload_n 2, 1) := by decide +kernel
theorem dC_takeAway_22 : decode mC_takeAway.2.1 22 = .ok (.putfield 157, 3) := by decide +kernel
theorem dC_takeAway_25 : decode mC_takeAway.2.1 25 = .ok (.return_, 1) := by decide +kernel
theorem dB_on_0 : decode mB_on.2.1 0 = .ok (.iload_n 1, 1) := by decide +kernel
theorem dB_on_1 : decode mB_on.2.1 1 = .ok (.ifCond .ne (10), 3) := by decide +kernel
theorem dB_on_4 : decode mB_on.2.1 4 = .ok (.aload_n 0, 1) := by decide +kernel
theorem dB_on_5 : decode mB_on.2.1 5 = .ok (.getfield 12, 3) := by decide +kernel
theorem dB_on_8 : decode mB_on.2.1 8 = .ok (.goto (7), 3) := by decide +kernel
theorem dB_on_11 : decode mB_on.2.1 11 = .ok (.aload_n 0, 1) := by decide +kernel
theorem dB_on_12 : decode mB_on.2.1 12 = .ok (.getfield 18, 3) := by decide +kernel
theorem dB_on_15 : decode mB_on.2.1 15 = .ok (.areturn, 1) := by decide +kernel
theorem dD_leave_0 : decode mD_leave.2.1 0 = .ok (.aconst_null, 1) := by decide +kernel
theorem dD_leave_1 : decode mD_leave.2.1 1 = .ok (.astore_n 2, 1) := by decide +kernel
theorem dD_leave_2 : decode mD_leave.2.1 2 = .ok (.aload_n 0, 1) := by decide +kernel
theorem dD_leave_3 : decode mD_leave.2.1 3 = .ok (.getfield 9, 3) := by decide +kernel
theorem dD_leave_6 : decode mD_leave.2.1 6 = .ok (.astore_n 3, 1) := by decide +kernel
theorem dD_leave_7 : decode mD_leave.2.1 7 = .ok (.aload_n 3, 1) := by decide +kernel
theorem dD_leave_8 : decode mD_leave.2.1 8 = .ok (.ifnull (18), 3) := by decide +kernel
theorem dD_leave_11 : decode mD_leave.2.1 11 = .ok (.aload_n 3, 1) := by decide +kernel
theorem dD_leave_12 : decode mD_leave.2.1 12 = .ok (.aload_n 1, 1) := by decide +kernel
theorem dD_leave_13 : decode mD_leave.2.1 13 = .ok (.if_acmp .eq (13), 3) := by decide +kernel
theorem dD_leave_16 : decode mD_leave.2.1 16 = .ok (.aload_n 3, 1) := by decide +kernel
theorem dD_leave_17 : decode mD_leave.2.1 17 = .ok (.astore_n 2, 1) := by decide +kernel
theorem dD_leave_18 : decode mD_leave.2.1 18 = .ok (.aload_n 3, 1) := by decide +kernel
theorem dD_leave_19 : decode mD_leave.2.1 19 = .ok (.getfield 19, 3) := by decide +kernel
theorem dD_leave_22 : decode mD_leave.2.1 22 = .ok (.astore_n 3, 1) := by decide +kernel
theorem dD_leave_23 : decode mD_leave.2.1 23 = .ok (.goto (-16), 3) := by decide +kernel
theorem dD_leave_26 : decode mD_leave.2.1 26 = .ok (.aload_n 3, 1) := by decide +kernel
theorem dD_leave_27 : decode mD_leave.2.1 27 = .ok (.ifnull (17), 3) := by decide +kernel
theorem dD_leave_30 : decode mD_leave.2.1 30 = .ok (.aload_n 0, 1) := by decide +kernel
theorem dD_leave_31 : decode mD_leave.2.1 31 = .ok (.aload_n 2, 1) := by decide +kernel
theorem dD_leave_32 : decode mD_leave.2.1 32 = .ok (.aload_n 3, 1) := by decide +kernel
theorem dD_leave_33 : decode mD_leave.2.1 33 = .ok (.getfield 19, 3) := by decide +kernel
theorem dD_leave_36 : decode mD_leave.2.1 36 = .ok (.invokevirtual 24, 3) := by decide +kernel
theorem dD_leave_39 : decode mD_leave.2.1 39 = .ok (.aload_n 3, 1) := by decide +kernel
theorem dD_leave_40 : decode mD_leave.2.1 40 = .ok (.aconst_null, 1) := by decide +kernel
theorem dD_leave_41 : decode mD_leave.2.1 41 = .ok (.putfield 19, 3) := by decide +kernel
theorem dD_leave_44 : decode mD_leave.2.1 44 = .ok (.return_, 1) := by decide +kernel
theorem dD_link_0 : decode mD_link.2.1 0 = .ok (.aload_n 1, 1) := by decide +kernel
theorem dD_link_1 : decode mD_link.2.1 1 = .ok (.ifnonnull (11), 3) := by decide +kernel
theorem dD_link_4 : decode mD_link.2.1 4 = .ok (.aload_n 0, 1) := by decide +kernel
theorem dD_link_5 : decode mD_link.2.1 5 = .ok (.aload_n 2, 1) := by decide +kernel
theorem dD_link_6 : decode mD_link.2.1 6 = .ok (.putfield 9, 3) := by decide +kernel
theorem dD_link_9 : decode mD_link.2.1 9 = .ok (.goto (8), 3) := by decide +kernel
theorem dD_link_12 : decode mD_link.2.1 12 = .ok (.aload_n 1, 1) := by decide +kernel
theorem dD_link_13 : decode mD_link.2.1 13 = .ok (.aload_n 2, 1) := by decide +kernel
theorem dD_link_14 : decode mD_link.2.1 14 = .ok (.putfield 19, 3) := by decide +kernel
theorem dD_link_17 : decode mD_link.2.1 17 = .ok (.return_, 1) := by decide +kernel
theorem dC_tradeWithShown_0 : decode mC_tradeWithShown.2.1 0 = .ok (.aload_n 1, 1) := by decide +kernel
theorem dC_tradeWithShown_1 : decode mC_tradeWithShown.2.1 1 = .ok (.getfield 107, 3) := by decide +kernel
theorem dC_tradeWithShown_4 : decode mC_tradeWithShown.2.1 4 = .ok (.aload_n 2, 1) := by decide +kernel
theorem dC_tradeWithShown_5 : decode mC_tradeWithShown.2.1 5 = .ok (.getfield 110, 3) := by decide +kernel
theorem dC_tradeWithShown_8 : decode mC_tradeWithShown.2.1 8 = .ok (.invokestatic 113, 3) := by decide +kernel
theorem dC_tradeWithShown_11 : decode mC_tradeWithShown.2.1 11 = .ok (.istore 4, 2) := by decide +kernel
theorem dC_tradeWithShown_13 : decode mC_tradeWithShown.2.1 13 = .ok (.aload_n 2, 1) := by decide +kernel
theorem dC_tradeWithShown_14 : decode mC_tradeWithShown.2.1 14 = .ok (.dup, 1) := by decide +kernel
theorem dC_tradeWithShown_15 : decode mC_tradeWithShown.2.1 15 = .ok (.getfield 110, 3) := by decide +kernel
theorem dC_tradeWithShown_18 : decode mC_tradeWithShown.2.1 18 = .ok (.iload 4, 2) := by decide +kernel
theorem dC_tradeWithShown_20 : decode mC_tradeWithShown.2.1 20 = .ok (.isub, 1) := by decide +kernel
theorem dC_tradeWithShown_21 : decode mC_tradeWithShown.2.1 21 = .ok (.putfield 110, 3) := by decide +kernel
theorem dC_tradeWithShown_24 : decode mC_tradeWithShown.2.1 24 = .ok (.aload_n 1, 1) := by decide +kernel
theorem dC_tradeWithShown_25 : decode mC_tradeWithShown.2.1 25 = .ok (.getfield 163, 3) := by decide +kernel
theorem dC_tradeWithShown_28 : decode mC_tradeWithShown.2.1 28 = .ok (.ifCond .ne (18), 3) := by decide +kernel
theorem dC_tradeWithShown_31 : decode mC_tradeWithShown.2.1 31 = .ok (.aload_n 0, 1) := by decide +kernel
theorem dC_tradeWithShown_32 : decode mC_tradeWithShown.2.1 32 = .ok (.aload_n 1, 1) := by decide +kernel
theorem dC_tradeWithShown_33 : decode mC_tradeWithShown.2.1 33 = .ok (.aload_n 2, 1) := by decide +kernel
theorem dC_tradeWithShown_34 : decode mC_tradeWithShown.2.1 34 = .ok (.aload_n 2, 1) := by decide +kernel
theorem dC_tradeWithShown_35 : decode mC_tradeWithShown.2.1 35 = .ok (.getfield 146, 3) := by decide +kernel
theorem dC_tradeWithShown_38 : decode mC_tradeWithShown.2.1 38 = .ok (.iload 4, 2) := by decide +kernel
theorem dC_tradeWithShown_40 : decode mC_tradeWithShown.2.1 40 = .ok (.invokevirtual 230, 3) := by decide +kernel
theorem dC_tradeWithShown_43 : decode mC_tradeWithShown.2.1 43 = .ok (.goto (15), 3) := by decide +kernel
theorem dC_tradeWithShown_46 : decode mC_tradeWithShown.2.1 46 = .ok (.aload_n 0, 1) := by decide +kernel
theorem dC_tradeWithShown_47 : decode mC_tradeWithShown.2.1 47 = .ok (.aload_n 2, 1) := by decide +kernel
theorem dC_tradeWithShown_48 : decode mC_tradeWithShown.2.1 48 = .ok (.aload_n 1, 1) := by decide +kernel
theorem dC_tradeWithShown_49 : decode mC_tradeWithShown.2.1 49 = .ok (.aload_n 2, 1) := by decide +kernel
theorem dC_tradeWithShown_50 : decode mC_tradeWithShown.2.1 50 = .ok (.getfield 146, 3) := by decide +kernel
theorem dC_tradeWithShown_53 : decode mC_tradeWithShown.2.1 53 = .ok (.iload 4, 2) := by decide +kernel
theorem dC_tradeWithShown_55 : decode mC_tradeWithShown.2.1 55 = .ok (.invokevirtual 230, 3) := by decide +kernel
theorem dC_tradeWithShown_58 : decode mC_tradeWithShown.2.1 58 = .ok (.aload_n 2, 1) := by decide +kernel
theorem dC_tradeWithShown_59 : decode mC_tradeWithShown.2.1 59 = .ok (.getfield 107, 3) := by decide +kernel
theorem dC_tradeWithShown_62 : decode mC_tradeWithShown.2.1 62 = .ok (.ifCond .ne (12), 3) := by decide +kernel
theorem dC_tradeWithShown_65 : decode mC_tradeWithShown.2.1 65 = .ok (.aload_n 0, 1) := by decide +kernel
theorem dC_tradeWithShown_66 : decode mC_tradeWithShown.2.1 66 = .ok (.aload_n 2, 1) := by decide +kernel
theorem dC_tradeWithShown_67 : decode mC_tradeWithShown.2.1 67 = .ok (.iconst 1, 1) := by decide +kernel
theorem dC_tradeWithShown_68 : decode mC_tradeWithShown.2.1 68 = .ok (.invokevirtual 103, 3) := by decide +kernel
theorem dC_tradeWithShown_71 : decode mC_tradeWithShown.2.1 71 = .ok (.goto (24), 3) := by decide +kernel
theorem dC_tradeWithShown_74 : decode mC_tradeWithShown.2.1 74 = .ok (.aload_n 2, 1) := by decide +kernel
theorem dC_tradeWithShown_75 : decode mC_tradeWithShown.2.1 75 = .ok (.getfield 110, 3) := by decide +kernel
theorem dC_tradeWithShown_78 : decode mC_tradeWithShown.2.1 78 = .ok (.ifCond .ne (17), 3) := by decide +kernel
theorem dC_tradeWithShown_81 : decode mC_tradeWithShown.2.1 81 = .ok (.aload_n 3, 1) := by decide +kernel
theorem dC_tradeWithShown_82 : decode mC_tradeWithShown.2.1 82 = .ok (.aload_n 2, 1) := by decide +kernel
theorem dC_tradeWithShown_83 : decode mC_tradeWithShown.2.1 83 = .ok (.invokevirtual 234, 3) := by decide +kernel
theorem dC_tradeWithShown_86 : decode mC_tradeWithShown.2.1 86 = .ok (.aload_n 2, 1) := by decide +kernel
theorem dC_tradeWithShown_87 : decode mC_tradeWithShown.2.1 87 = .ok (.invokevirtual 213, 3) := by decide +kernel
theorem dC_tradeWithShown_90 : decode mC_tradeWithShown.2.1 90 = .ok (.aload_n 3, 1) := by decide +kernel
theorem dC_tradeWithShown_91 : decode mC_tradeWithShown.2.1 91 = .ok (.aload_n 2, 1) := by decide +kernel
theorem dC_tradeWithShown_92 : decode mC_tradeWithShown.2.1 92 = .ok (.invokevirtual 216, 3) := by decide +kernel
theorem dC_tradeWithShown_95 : decode mC_tradeWithShown.2.1 95 = .ok (.return_, 1) := by decide +kernel
theorem dM_min_0 : decode mM_min.2.1 0 = .ok (.iload_n 0, 1) := by decide +kernel
theorem dM_min_1 : decode mM_min.2.1 1 = .ok (.iload_n 1, 1) := by decide +kernel
theorem dM_min_2 : decode mM_min.2.1 2 = .ok (.if_icmp .gt (7), 3) := by decide +kernel
theorem dM_min_5 : decode mM_min.2.1 5 = .ok (.iload_n 0, 1) := by decide +kernel
theorem dM_min_6 : decode mM_min.2.1 6 = .ok (.goto (4), 3) := by decide +kernel
theorem dM_min_9 : decode mM_min.2.1 9 = .ok (.iload_n 1, 1) := by decide +kernel
theorem dM_min_10 : decode mM_min.2.1 10 = .ok (.ireturn, 1) := by decide +kernel
theorem dC_exchange_0 : decode mC_exchange.2.1 0 = .ok (.aload_n 1, 1) := by decide +kernel
theorem dC_exchange_1 : decode mC_exchange.2.1 1 = .ok (.dup, 1) := by decide +kernel
theorem dC_exchange_2 : decode mC_exchange.2.1 2 = .ok (.getfield 107, 3) := by decide +kernel
theorem dC_exchange_5 : decode mC_exchange.2.1 5 = .ok (.iload 4, 2) := by decide +kernel
theorem dC_exchange_7 : decode mC_exchange.2.1 7 = .ok (.isub, 1) := by decide +kernel
theorem dC_exchange_8 : decode mC_exchange.2.1 8 = .ok (.putfield 107, 3) := by decide +kernel
theorem dC_exchange_11 : decode mC_exchange.2.1 11 = .ok (.aload_n 2, 1) := by decide +kernel
theorem dC_exchange_12 : decode mC_exchange.2.1 12 = .ok (.dup, 1) := by decide +kernel
theorem dC_exchange_13 : decode mC_exchange.2.1 13 = .ok (.getfield 107, 3) := by decide +kernel
theorem dC_exchange_16 : decode mC_exchange.2.1 16 = .ok (.iload 4, 2) := by decide +kernel
theorem dC_exchange_18 : decode mC_exchange.2.1 18 = .ok (.isub, 1) := by decide +kernel
theorem dC_exchange_19 : decode mC_exchange.2.1 19 = .ok (.putfield 107, 3) := by decide +kernel
theorem dC_exchange_22 : decode mC_exchange.2.1 22 = .ok (.aload_n 0, 1) := by decide +kernel
theorem dC_exchange_23 : decode mC_exchange.2.1 23 = .ok (.getfield 11, 3) := by decide +kernel
theorem dC_exchange_26 : decode mC_exchange.2.1 26 = .ok (.aload_n 1, 1) := by decide +kernel
theorem dC_exchange_27 : decode mC_exchange.2.1 27 = .ok (.getfield 185, 3) := by decide +kernel
theorem dC_exchange_30 : decode mC_exchange.2.1 30 = .ok (.aaload, 1) := by decide +kernel
theorem dC_exchange_31 : decode mC_exchange.2.1 31 = .ok (.aload_n 1, 1) := by decide +kernel
theorem dC_exchange_32 : decode mC_exchange.2.1 32 = .ok (.getfield 160, 3) := by decide +kernel
theorem dC_exchange_35 : decode mC_exchange.2.1 35 = .ok (.iload 4, 2) := by decide +kernel
theorem dC_exchange_37 : decode mC_exchange.2.1 37 = .ok (.iload_n 3, 1) := by decide +kernel
theorem dC_exchange_38 : decode mC_exchange.2.1 38 = .ok (.invokevirtual 240, 3) := by decide +kernel
theorem dC_exchange_41 : decode mC_exchange.2.1 41 = .ok (.aload_n 0, 1) := by decide +kernel
theorem dC_exchange_42 : decode mC_exchange.2.1 42 = .ok (.getfield 11, 3) := by decide +kernel
theorem dC_exchange_45 : decode mC_exchange.2.1 45 = .ok (.aload_n 2, 1) := by decide +kernel
theorem dC_exchange_46 : decode mC_exchange.2.1 46 = .ok (.getfield 185, 3) := by decide +kernel
theorem dC_exchange_49 : decode mC_exchange.2.1 49 = .ok (.aaload, 1) := by decide +kernel
theorem dC_exchange_50 : decode mC_exchange.2.1 50 = .ok (.aload_n 2, 1) := by decide +kernel
theorem dC_exchange_51 : decode mC_exchange.2.1 51 = .ok (.getfield 160, 3) := by decide +kernel
theorem dC_exchange_54 : decode mC_exchange.2.1 54 = .ok (.iload 4, 2) := by decide +kernel
theorem dC_exchange_56 : decode mC_exchange.2.1 56 = .ok (.ineg, 1) := by decide +kernel
theorem dC_exchange_57 : decode mC_exchange.2.1 57 = .ok (.iload_n 3, 1) := by decide +kernel
theorem dC_exchange_58 : decode mC_exchange.2.1 58 = .ok (.invokevirtual 240, 3) := by decide +kernel
theorem dC_exchange_61 : decode mC_exchange.2.1 61 = .ok (.aload_n 0, 1) := by decide +kernel
theorem dC_exchange_62 : decode mC_exchange.2.1 62 = .ok (.getfield 17, 3) := by decide +kernel
theorem dC_exchange_65 : decode mC_exchange.2.1 65 = .ok (.aload_n 1, 1) := by decide +kernel
theorem dC_exchange_66 : decode mC_exchange.2.1 66 = .ok (.getfield 160, 3) := by decide +kernel
theorem dC_exchange_69 : decode mC_exchange.2.1 69 = .ok (.aaload, 1) := by decide +kernel
theorem dC_exchange_70 : decode mC_exchange.2.1 70 = .ok (.iload_n 3, 1) := by decide +kernel
theorem dC_exchange_71 : decode mC_exchange.2.1 71 = .ok (.putfield 244, 3) := by decide +kernel
theorem dC_exchange_74 : decode mC_exchange.2.1 74 = .ok (.aload_n 0, 1) := by decide +kernel
theorem dC_exchange_75 : decode mC_exchange.2.1 75 = .ok (.getfield 30, 3) := by decide +kernel
theorem dC_exchange_78 : decode mC_exchange.2.1 78 = .ok (.aload_n 1, 1) := by decide +kernel
theorem dC_exchange_79 : decode mC_exchange.2.1 79 = .ok (.getfield 96, 3) := by decide +kernel
theorem dC_exchange_82 : decode mC_exchange.2.1 82 = .ok (.aload_n 2, 1) := by decide +kernel
theorem dC_exchange_83 : decode mC_exchange.2.1 83 = .ok (.getfield 96, 3) := by decide +kernel
theorem dC_exchange_86 : decode mC_exchange.2.1 86 = .ok (.iload_n 3, 1) := by decide +kernel
theorem dC_exchange_87 : decode mC_exchange.2.1 87 = .ok (.iload 4, 2) := by decide +kernel
theorem dC_exchange_89 : decode mC_exchange.2.1 89 = .ok (.invokevirtual 247, 3) := by decide +kernel
theorem dC_exchange_92 : decode mC_exchange.2.1 92 = .ok (.return_, 1) := by decide +kernel
theorem dA_enter_0 : decode mA_enter.2.1 0 = .ok (.aload_n 0, 1) := by decide +kernel
theorem dA_enter_1 : decode mA_enter.2.1 1 = .ok (.getfield 9, 3) := by decide +kernel
theorem dA_enter_4 : decode mA_enter.2.1 4 = .ok (.iload_n 1, 1) := by decide +kernel
theorem dA_enter_5 : decode mA_enter.2.1 5 = .ok (.dup2, 1) := by decide +kernel
theorem dA_enter_6 : decode mA_enter.2.1 6 = .ok (.iaload, 1) := by decide +kernel
theorem dA_enter_7 : decode mA_enter.2.1 7 = .ok (.iload_n 2, 1) := by decide +kernel
theorem dA_enter_8 : decode mA_enter.2.1 8 = .ok (.iadd, 1) := by decide +kernel
theorem dA_enter_9 : decode mA_enter.2.1 9 = .ok (.iastore, 1) := by decide +kernel
theorem dA_enter_10 : decode mA_enter.2.1 10 = .ok (.aload_n 0, 1) := by decide +kernel
theorem dA_enter_11 : decode mA_enter.2.1 11 = .ok (.dup, 1) := by decide +kernel
theorem dA_enter_12 : decode mA_enter.2.1 12 = .ok (.getfield 19, 3) := by decide +kernel
theorem dA_enter_15 : decode mA_enter.2.1 15 = .ok (.iload_n 2, 1) := by decide +kernel
theorem dA_enter_16 : decode mA_enter.2.1 16 = .ok (.i2l, 1) := by decide +kernel
theorem dA_enter_17 : decode mA_enter.2.1 17 = .ok (.iload_n 3, 1) := by decide +kernel
theorem dA_enter_18 : decode mA_enter.2.1 18 = .ok (.i2l, 1) := by decide +kernel
theorem dA_enter_19 : decode mA_enter.2.1 19 = .ok (.lmul, 1) := by decide +kernel
theorem dA_enter_20 : decode mA_enter.2.1 20 = .ok (.lsub, 1) := by decide +kernel
theorem dA_enter_21 : decode mA_enter.2.1 21 = .ok (.putfield 19, 3) := by decide +kernel
theorem dA_enter_24 : decode mA_enter.2.1 24 = .ok (.return_, 1) := by decide +kernel
theorem dT_write_0 : decode mT_write.2.1 0 = .ok (.aload_n 0, 1) := by decide +kernel
theorem dT_write_1 : decode mT_write.2.1 1 = .ok (.getfield 15, 3) := by decide +kernel
theorem dT_write_4 : decode mT_write.2.1 4 = .ok (.bipush (100), 2) := by decide +kernel
theorem dT_write_6 : decode mT_write.2.1 6 = .ok (.irem, 1) := by decide +kernel
theorem dT_write_7 : decode mT_write.2.1 7 = .ok (.iconst 4, 1) := by decide +kernel
theorem dT_write_8 : decode mT_write.2.1 8 = .ok (.imul, 1) := by decide +kernel
theorem dT_write_9 : decode mT_write.2.1 9 = .ok (.istore 5, 2) := by decide +kernel
theorem dT_write_11 : decode mT_write.2.1 11 = .ok (.aload_n 0, 1) := by decide +kernel
theorem dT_write_12 : decode mT_write.2.1 12 = .ok (.getfield 9, 3) := by decide +kernel
theorem dT_write_15 : decode mT_write.2.1 15 = .ok (.iload 5, 2) := by decide +kernel
theorem dT_write_17 : decode mT_write.2.1 17 = .ok (.iload_n 1, 1) := by decide +kernel
theorem dT_write_18 : decode mT_write.2.1 18 = .ok (.iastore, 1) := by decide +kernel
theorem dT_write_19 : decode mT_write.2.1 19 = .ok (.aload_n 0, 1) := by decide +kernel
theorem dT_write_20 : decode mT_write.2.1 20 = .ok (.getfield 9, 3) := by decide +kernel
theorem dT_write_23 : decode mT_write.2.1 23 = .ok (.iload 5, 2) := by decide +kernel
theorem dT_write_25 : decode mT_write.2.1 25 = .ok (.iconst 1, 1) := by decide +kernel
theorem dT_write_26 : decode mT_write.2.1 26 = .ok (.iadd, 1) := by decide +kernel
theorem dT_write_27 : decode mT_write.2.1 27 = .ok (.iload_n 2, 1) := by decide +kernel
theorem dT_write_28 : decode mT_write.2.1 28 = .ok (.iastore, 1) := by decide +kernel
theorem dT_write_29 : decode mT_write.2.1 29 = .ok (.aload_n 0, 1) := by decide +kernel
theorem dT_write_30 : decode mT_write.2.1 30 = .ok (.getfield 9, 3) := by decide +kernel
theorem dT_write_33 : decode mT_write.2.1 33 = .ok (.iload 5, 2) := by decide +kernel
theorem dT_write_35 : decode mT_write.2.1 35 = .ok (.iconst 2, 1) := by decide +kernel
theorem dT_write_36 : decode mT_write.2.1 36 = .ok (.iadd, 1) := by decide +kernel
theorem dT_write_37 : decode mT_write.2.1 37 = .ok (.iload_n 3, 1) := by decide +kernel
theorem dT_write_38 : decode mT_write.2.1 38 = .ok (.iastore, 1) := by decide +kernel
theorem dT_write_39 : decode mT_write.2.1 39 = .ok (.aload_n 0, 1) := by decide +kernel
theorem dT_write_40 : decode mT_write.2.1 40 = .ok (.getfield 9, 3) := by decide +kernel
theorem dT_write_43 : decode mT_write.2.1 43 = .ok (.iload 5, 2) := by decide +kernel
theorem dT_write_45 : decode mT_write.2.1 45 = .ok (.iconst 3, 1) := by decide +kernel
theorem dT_write_46 : decode mT_write.2.1 46 = .ok (.iadd, 1) := by decide +kernel
theorem dT_write_47 : decode mT_write.2.1 47 = .ok (.iload 4, 2) := by decide +kernel
theorem dT_write_49 : decode mT_write.2.1 49 = .ok (.iastore, 1) := by decide +kernel
theorem dT_write_50 : decode mT_write.2.1 50 = .ok (.aload_n 0, 1) := by decide +kernel
theorem dT_write_51 : decode mT_write.2.1 51 = .ok (.dup, 1) := by decide +kernel
theorem dT_write_52 : decode mT_write.2.1 52 = .ok (.getfield 15, 3) := by decide +kernel
theorem dT_write_55 : decode mT_write.2.1 55 = .ok (.iconst 1, 1) := by decide +kernel
theorem dT_write_56 : decode mT_write.2.1 56 = .ok (.iadd, 1) := by decide +kernel
theorem dT_write_57 : decode mT_write.2.1 57 = .ok (.putfield 15, 3) := by decide +kernel
theorem dT_write_60 : decode mT_write.2.1 60 = .ok (.return_, 1) := by decide +kernel
theorem dO_showAnew_0 : decode mO_showAnew.2.1 0 = .ok (.aload_n 0, 1) := by decide +kernel
theorem dO_showAnew_1 : decode mO_showAnew.2.1 1 = .ok (.aload_n 0, 1) := by decide +kernel
theorem dO_showAnew_2 : decode mO_showAnew.2.1 2 = .ok (.getfield 41, 3) := by decide +kernel
theorem dO_showAnew_5 : decode mO_showAnew.2.1 5 = .ok (.iconst 5, 1) := by decide +kernel
theorem dO_showAnew_6 : decode mO_showAnew.2.1 6 = .ok (.if_icmp .ne (14), 3) := by decide +kernel
theorem dO_showAnew_9 : decode mO_showAnew.2.1 9 = .ok (.iconst 5, 1) := by decide +kernel
theorem dO_showAnew_10 : decode mO_showAnew.2.1 10 = .ok (.aload_n 0, 1) := by decide +kernel
theorem dO_showAnew_11 : decode mO_showAnew.2.1 11 = .ok (.getfield 47, 3) := by decide +kernel
theorem dO_showAnew_14 : decode mO_showAnew.2.1 14 = .ok (.invokestatic 50, 3) := by decide +kernel
theorem dO_showAnew_17 : decode mO_showAnew.2.1 17 = .ok (.goto (7), 3) := by decide +kernel
theorem dO_showAnew_20 : decode mO_showAnew.2.1 20 = .ok (.aload_n 0, 1) := by decide +kernel
theorem dO_showAnew_21 : decode mO_showAnew.2.1 21 = .ok (.getfield 47, 3) := by decide +kernel
theorem dO_showAnew_24 : decode mO_showAnew.2.1 24 = .ok (.putfield 9, 3) := by decide +kernel
theorem dO_showAnew_27 : decode mO_showAnew.2.1 27 = .ok (.return_, 1) := by decide +kernel
theorem dD_join_0 : decode mD_join.2.1 0 = .ok (.aconst_null, 1) := by decide +kernel
theorem dD_join_1 : decode mD_join.2.1 1 = .ok (.astore_n 2, 1) := by decide +kernel
theorem dD_join_2 : decode mD_join.2.1 2 = .ok (.aload_n 0, 1) := by decide +kernel
theorem dD_join_3 : decode mD_join.2.1 3 = .ok (.getfield 9, 3) := by decide +kernel
theorem dD_join_6 : decode mD_join.2.1 6 = .ok (.astore_n 3, 1) := by decide +kernel
theorem dD_join_7 : decode mD_join.2.1 7 = .ok (.aload_n 3, 1) := by decide +kernel
theorem dD_join_8 : decode mD_join.2.1 8 = .ok (.ifnull (21), 3) := by decide +kernel
theorem dD_join_11 : decode mD_join.2.1 11 = .ok (.aload_n 1, 1) := by decide +kernel
theorem dD_join_12 : decode mD_join.2.1 12 = .ok (.aload_n 3, 1) := by decide +kernel
theorem dD_join_13 : decode mD_join.2.1 13 = .ok (.invokestatic 15, 3) := by decide +kernel
theorem dD_join_16 : decode mD_join.2.1 16 = .ok (.ifCond .ne (13), 3) := by decide +kernel
theorem dD_join_19 : decode mD_join.2.1 19 = .ok (.aload_n 3, 1) := by decide +kernel
theorem dD_join_20 : decode mD_join.2.1 20 = .ok (.astore_n 2, 1) := by decide +kernel
theorem dD_join_21 : decode mD_join.2.1 21 = .ok (.aload_n 3, 1) := by decide +kernel
theorem dD_join_22 : decode mD_join.2.1 22 = .ok (.getfield 19, 3) := by decide +kernel
theorem dD_join_25 : decode mD_join.2.1 25 = .ok (.astore_n 3, 1) := by decide +kernel
theorem dD_join_26 : decode mD_join.2.1 26 = .ok (.goto (-19), 3) := by decide +kernel
theorem dD_join_29 : decode mD_join.2.1 29 = .ok (.aload_n 1, 1) := by decide +kernel
theorem dD_join_30 : decode mD_join.2.1 30 = .ok (.aload_n 3, 1) := by decide +kernel
theorem dD_join_31 : decode mD_join.2.1 31 = .ok (.putfield 19, 3) := by decide +kernel
theorem dD_join_34 : decode mD_join.2.1 34 = .ok (.aload_n 0, 1) := by decide +kernel
theorem dD_join_35 : decode mD_join.2.1 35 = .ok (.aload_n 2, 1) := by decide +kernel
theorem dD_join_36 : decode mD_join.2.1 36 = .ok (.aload_n 1, 1) := by decide +kernel
theorem dD_join_37 : decode mD_join.2.1 37 = .ok (.invokevirtual 24, 3) := by decide +kernel
theorem dD_join_40 : decode mD_join.2.1 40 = .ok (.return_, 1) := by decide +kernel
theorem dD_isBetter_0 : decode mD_isBetter.2.1 0 = .ok (.aload_n 0, 1) := by decide +kernel
theorem dD_isBetter_1 : decode mD_isBetter.2.1 1 = .ok (.getfield 35, 3) := by decide +kernel
theorem dD_isBetter_4 : decode mD_isBetter.2.1 4 = .ok (.aload_n 1, 1) := by decide +kernel
theorem dD_isBetter_5 : decode mD_isBetter.2.1 5 = .ok (.getfield 35, 3) := by decide +kernel
theorem dD_isBetter_8 : decode mD_isBetter.2.1 8 = .ok (.if_icmp .eq (18), 3) := by decide +kernel
theorem dD_isBetter_11 : decode mD_isBetter.2.1 11 = .ok (.aload_n 0, 1) := by decide +kernel
theorem dD_isBetter_12 : decode mD_isBetter.2.1 12 = .ok (.aload_n 1, 1) := by decide +kernel
theorem dD_isBetter_13 : decode mD_isBetter.2.1 13 = .ok (.getfield 35, 3) := by decide +kernel
theorem dD_isBetter_16 : decode mD_isBetter.2.1 16 = .ok (.invokevirtual 38, 3) := by decide +kernel
theorem dD_isBetter_19 : decode mD_isBetter.2.1 19 = .ok (.ifCond .eq (7), 3) := by decide +kernel
theorem dD_isBetter_22 : decode mD_isBetter.2.1 22 = .ok (.iconst 1, 1) := by decide +kernel
theorem dD_isBetter_23 : decode mD_isBetter.2.1 23 = .ok (.goto (4), 3) := by decide +kernel
theorem dD_isBetter_26 : decode mD_isBetter.2.1 26 = .ok (.iconst 0, 1) := by decide +kernel
theorem dD_isBetter_27 : decode mD_isBetter.2.1 27 = .ok (.ireturn, 1) := by decide +kernel
theorem dC_cancel_0 : decode mC_cancel.2.1 0 = .ok (.aload_n 0, 1) := by decide +kernel
theorem dC_cancel_1 : decode mC_cancel.2.1 1 = .ok (.iload_n 1, 1) := by decide +kernel
theorem dC_cancel_2 : decode mC_cancel.2.1 2 = .ok (.iload_n 2, 1) := by decide +kernel
theorem dC_cancel_3 : decode mC_cancel.2.1 3 = .ok (.invokevirtual 99, 3) := by decide +kernel
theorem dC_cancel_6 : decode mC_cancel.2.1 6 = .ok (.astore_n 3, 1) := by decide +kernel
theorem dC_cancel_7 : decode mC_cancel.2.1 7 = .ok (.aload_n 3, 1) := by decide +kernel
theorem dC_cancel_8 : decode mC_cancel.2.1 8 = .ok (.ifnonnull (5), 3) := by decide +kernel
theorem dC_cancel_11 : decode mC_cancel.2.1 11 = .ok (.iconst 0, 1) := by decide +kernel
theorem dC_cancel_12 : decode mC_cancel.2.1 12 = .ok (.ireturn, 1) := by decide +kernel
theorem dC_cancel_13 : decode mC_cancel.2.1 13 = .ok (.aload_n 0, 1) := by decide +kernel
theorem dC_cancel_14 : decode mC_cancel.2.1 14 = .ok (.aload_n 3, 1) := by decide +kernel
theorem dC_cancel_15 : decode mC_cancel.2.1 15 = .ok (.iconst 2, 1) := by decide +kernel
theorem dC_cancel_16 : decode mC_cancel.2.1 16 = .ok (.invokevirtual 103, 3) := by decide +kernel
theorem dC_cancel_19 : decode mC_cancel.2.1 19 = .ok (.iconst 1, 1) := by decide +kernel
theorem dC_cancel_20 : decode mC_cancel.2.1 20 = .ok (.ireturn, 1) := by decide +kernel
theorem dC_findResting_0 : decode mC_findResting.2.1 0 = .ok (.aload_n 0, 1) := by decide +kernel
theorem dC_findResting_1 : decode mC_findResting.2.1 1 = .ok (.iload_n 2, 1) := by decide +kernel
theorem dC_findResting_2 : decode mC_findResting.2.1 2 = .ok (.invokevirtual 153, 3) := by decide +kernel
theorem dC_findResting_5 : decode mC_findResting.2.1 5 = .ok (.astore_n 3, 1) := by decide +kernel
theorem dC_findResting_6 : decode mC_findResting.2.1 6 = .ok (.aload_n 3, 1) := by decide +kernel
theorem dC_findResting_7 : decode mC_findResting.2.1 7 = .ok (.ifnull (22), 3) := by decide +kernel
theorem dC_findResting_10 : decode mC_findResting.2.1 10 = .ok (.aload_n 3, 1) := by decide +kernel
theorem dC_findResting_11 : decode mC_findResting.2.1 11 = .ok (.getfield 185, 3) := by decide +kernel
theorem dC_findResting_14 : decode mC_findResting.2.1 14 = .ok (.iload_n 1, 1) := by decide +kernel
theorem dC_findResting_15 : decode mC_findResting.2.1 15 = .ok (.if_icmp .ne (14), 3) := by decide +kernel
theorem dC_findResting_18 : decode mC_findResting.2.1 18 = .ok (.aload_n 3, 1) := by decide +kernel
theorem dC_findResting_19 : decode mC_findResting.2.1 19 = .ok (.getfield 157, 3) := by decide +kernel
theorem dC_findResting_22 : decode mC_findResting.2.1 22 = .ok (.ifCond .ne (7), 3) := by decide +kernel
theorem dC_findResting_25 : decode mC_findResting.2.1 25 = .ok (.aload_n 3, 1) := by decide +kernel
theorem dC_findResting_26 : decode mC_findResting.2.1 26 = .ok (.goto (4), 3) := by decide +kernel
theorem dC_findResting_29 : decode mC_findResting.2.1 29 = .ok (.aconst_null, 1) := by decide +kernel
theorem dC_findResting_30 : decode mC_findResting.2.1 30 = .ok (.areturn, 1) := by decide +kernel
theorem dC_find_0 : decode mC_find.2.1 0 = .ok (.iload_n 1, 1) := by decide +kernel
theorem dC_find_1 : decode mC_find.2.1 1 = .ok (.ifCond .lt (20), 3) := by decide +kernel
theorem dC_find_4 : decode mC_find.2.1 4 = .ok (.iload_n 1, 1) := by decide +kernel
theorem dC_find_5 : decode mC_find.2.1 5 = .ok (.aload_n 0, 1) := by decide +kernel
theorem dC_find_6 : decode mC_find.2.1 6 = .ok (.getfield 41, 3) := by decide +kernel
theorem dC_find_9 : decode mC_find.2.1 9 = .ok (.if_icmp .ge (12), 3) := by decide +kernel
theorem dC_find_12 : decode mC_find.2.1 12 = .ok (.aload_n 0, 1) := by decide +kernel
theorem dC_find_13 : decode mC_find.2.1 13 = .ok (.getfield 23, 3) := by decide +kernel
theorem dC_find_16 : decode mC_find.2.1 16 = .ok (.iload_n 1, 1) := by decide +kernel
theorem dC_find_17 : decode mC_find.2.1 17 = .ok (.aaload, 1) := by decide +kernel
theorem dC_find_18 : decode mC_find.2.1 18 = .ok (.goto (4), 3) := by decide +kernel
theorem dC_find_21 : decode mC_find.2.1 21 = .ok (.aconst_null, 1) := by decide +kernel
theorem dC_find_22 : decode mC_find.2.1 22 = .ok (.areturn, 1) := by decide +kernel
theorem dC_amend_0 : decode mC_amend.2.1 0 = .ok (.aload_n 0, 1) := by decide +kernel
theorem dC_amend_1 : decode mC_amend.2.1 1 = .ok (.iload_n 1, 1) := by decide +kernel
theorem dC_amend_2 : decode mC_amend.2.1 2 = .ok (.iload_n 2, 1) := by decide +kernel
end
section
theorem dC_amend_3 : decode mC_amend.2.1 3 = .ok (.invokevirtual 99, 3) := by decide +kernel
theorem dC_amend_6 : decode mC_amend.2.1 6 = .ok (.astore 4, 2) := by decide +kernel
theorem dC_amend_8 : decode mC_amend.2.1 8 = .ok (.aload 4, 2) := by decide +kernel
theorem dC_amend_10 : decode mC_amend.2.1 10 = .ok (.ifnonnull (6), 3) := by decide +kernel
theorem dC_amend_13 : decode mC_amend.2.1 13 = .ok (.bipush (-6), 2) := by decide +kernel
theorem dC_amend_15 : decode mC_amend.2.1 15 = .ok (.ireturn, 1) := by decide +kernel
theorem dC_amend_16 : decode mC_amend.2.1 16 = .ok (.iload_n 3, 1) := by decide +kernel
theorem dC_amend_17 : decode mC_amend.2.1 17 = .ok (.iconst 1, 1) := by decide +kernel
theorem dC_amend_18 : decode mC_amend.2.1 18 = .ok (.if_icmp .lt (12), 3) := by decide +kernel
theorem dC_amend_21 : decode mC_amend.2.1 21 = .ok (.iload_n 3, 1) := by decide +kernel
theorem dC_amend_22 : decode mC_amend.2.1 22 = .ok (.aload 4, 2) := by decide +kernel
theorem dC_amend_24 : decode mC_amend.2.1 24 = .ok (.getfield 107, 3) := by decide +kernel
theorem dC_amend_27 : decode mC_amend.2.1 27 = .ok (.if_icmp .lt (5), 3) := by decide +kernel
theorem dC_amend_30 : decode mC_amend.2.1 30 = .ok (.iconst (-1), 1) := by decide +kernel
theorem dC_amend_31 : decode mC_amend.2.1 31 = .ok (.ireturn, 1) := by decide +kernel
theorem dC_amend_32 : decode mC_amend.2.1 32 = .ok (.aload 4, 2) := by decide +kernel
theorem dC_amend_34 : decode mC_amend.2.1 34 = .ok (.iload_n 3, 1) := by decide +kernel
theorem dC_amend_35 : decode mC_amend.2.1 35 = .ok (.putfield 107, 3) := by decide +kernel
theorem dC_amend_38 : decode mC_amend.2.1 38 = .ok (.aload 4, 2) := by decide +kernel
theorem dC_amend_40 : decode mC_amend.2.1 40 = .ok (.aload 4, 2) := by decide +kernel
theorem dC_amend_42 : decode mC_amend.2.1 42 = .ok (.getfield 110, 3) := by decide +kernel
theorem dC_amend_45 : decode mC_amend.2.1 45 = .ok (.iload_n 3, 1) := by decide +kernel
theorem dC_amend_46 : decode mC_amend.2.1 46 = .ok (.invokestatic 113, 3) := by decide +kernel
theorem dC_amend_49 : decode mC_amend.2.1 49 = .ok (.putfield 110, 3) := by decide +kernel
theorem dC_amend_52 : decode mC_amend.2.1 52 = .ok (.iconst 0, 1) := by decide +kernel
theorem dC_amend_53 : decode mC_amend.2.1 53 = .ok (.ireturn, 1) := by decide +kernel
theorem dC_open_0 : decode mC_open.2.1 0 = .ok (.iload_n 1, 1) := by decide +kernel
theorem dC_open_1 : decode mC_open.2.1 1 = .ok (.invokestatic 61, 3) := by decide +kernel
theorem dC_open_4 : decode mC_open.2.1 4 = .ok (.ifCond .ne (5), 3) := by decide +kernel
theorem dC_open_7 : decode mC_open.2.1 7 = .ok (.iconst (-1), 1) := by decide +kernel
theorem dC_open_8 : decode mC_open.2.1 8 = .ok (.ireturn, 1) := by decide +kernel
theorem dC_open_9 : decode mC_open.2.1 9 = .ok (.aload_n 0, 1) := by decide +kernel
theorem dC_open_10 : decode mC_open.2.1 10 = .ok (.getfield 17, 3) := by decide +kernel
theorem dC_open_13 : decode mC_open.2.1 13 = .ok (.iload_n 1, 1) := by decide +kernel
theorem dC_open_14 : decode mC_open.2.1 14 = .ok (.aaload, 1) := by decide +kernel
theorem dC_open_15 : decode mC_open.2.1 15 = .ok (.astore_n 2, 1) := by decide +kernel
theorem dC_open_16 : decode mC_open.2.1 16 = .ok (.aload_n 2, 1) := by decide +kernel
theorem dC_open_17 : decode mC_open.2.1 17 = .ok (.getfield 74, 3) := by decide +kernel
theorem dC_open_20 : decode mC_open.2.1 20 = .ok (.ifCond .eq (6), 3) := by decide +kernel
theorem dC_open_23 : decode mC_open.2.1 23 = .ok (.bipush (-3), 2) := by decide +kernel
theorem dC_open_25 : decode mC_open.2.1 25 = .ok (.ireturn, 1) := by decide +kernel
theorem dC_open_26 : decode mC_open.2.1 26 = .ok (.aload_n 0, 1) := by decide +kernel
theorem dC_open_27 : decode mC_open.2.1 27 = .ok (.getfield 37, 3) := by decide +kernel
theorem dC_open_30 : decode mC_open.2.1 30 = .ok (.aload_n 2, 1) := by decide +kernel
theorem dC_open_31 : decode mC_open.2.1 31 = .ok (.invokevirtual 119, 3) := by decide +kernel
theorem dC_open_34 : decode mC_open.2.1 34 = .ok (.istore_n 3, 1) := by decide +kernel
theorem dC_open_35 : decode mC_open.2.1 35 = .ok (.aload_n 2, 1) := by decide +kernel
theorem dC_open_36 : decode mC_open.2.1 36 = .ok (.iconst 1, 1) := by decide +kernel
theorem dC_open_37 : decode mC_open.2.1 37 = .ok (.putfield 74, 3) := by decide +kernel
theorem dC_open_40 : decode mC_open.2.1 40 = .ok (.iload_n 3, 1) := by decide +kernel
theorem dC_open_41 : decode mC_open.2.1 41 = .ok (.ifCond .ne (7), 3) := by decide +kernel
theorem dC_open_44 : decode mC_open.2.1 44 = .ok (.iconst 0, 1) := by decide +kernel
theorem dC_open_45 : decode mC_open.2.1 45 = .ok (.goto (9), 3) := by decide +kernel
theorem dC_open_48 : decode mC_open.2.1 48 = .ok (.aload_n 0, 1) := by decide +kernel
theorem dC_open_49 : decode mC_open.2.1 49 = .ok (.aload_n 2, 1) := by decide +kernel
theorem dC_open_50 : decode mC_open.2.1 50 = .ok (.iload_n 3, 1) := by decide +kernel
theorem dC_open_51 : decode mC_open.2.1 51 = .ok (.invokevirtual 123, 3) := by decide +kernel
theorem dC_open_54 : decode mC_open.2.1 54 = .ok (.ireturn, 1) := by decide +kernel
theorem dS_findCallPrice_0 : decode mS_findCallPrice.2.1 0 = .ok (.aload_n 0, 1) := by decide +kernel
theorem dS_findCallPrice_1 : decode mS_findCallPrice.2.1 1 = .ok (.aload_n 1, 1) := by decide +kernel
theorem dS_findCallPrice_2 : decode mS_findCallPrice.2.1 2 = .ok (.invokevirtual 18, 3) := by decide +kernel
theorem dS_findCallPrice_5 : decode mS_findCallPrice.2.1 5 = .ok (.iconst 0, 1) := by decide +kernel
theorem dS_findCallPrice_6 : decode mS_findCallPrice.2.1 6 = .ok (.istore_n 2, 1) := by decide +kernel
theorem dS_findCallPrice_7 : decode mS_findCallPrice.2.1 7 = .ok (.iconst 0, 1) := by decide +kernel
theorem dS_findCallPrice_8 : decode mS_findCallPrice.2.1 8 = .ok (.istore_n 3, 1) := by decide +kernel
theorem dS_findCallPrice_9 : decode mS_findCallPrice.2.1 9 = .ok (.iconst 1, 1) := by decide +kernel
theorem dS_findCallPrice_10 : decode mS_findCallPrice.2.1 10 = .ok (.istore 4, 2) := by decide +kernel
theorem dS_findCallPrice_12 : decode mS_findCallPrice.2.1 12 = .ok (.iload 4, 2) := by decide +kernel
theorem dS_findCallPrice_14 : decode mS_findCallPrice.2.1 14 = .ok (.bipush (63), 2) := by decide +kernel
theorem dS_findCallPrice_16 : decode mS_findCallPrice.2.1 16 = .ok (.if_icmp .gt (52), 3) := by decide +kernel
theorem dS_findCallPrice_19 : decode mS_findCallPrice.2.1 19 = .ok (.aload_n 0, 1) := by decide +kernel
theorem dS_findCallPrice_20 : decode mS_findCallPrice.2.1 20 = .ok (.iload 4, 2) := by decide +kernel
theorem dS_findCallPrice_22 : decode mS_findCallPrice.2.1 22 = .ok (.invokevirtual 22, 3) := by decide +kernel
theorem dS_findCallPrice_25 : decode mS_findCallPrice.2.1 25 = .ok (.istore 5, 2) := by decide +kernel
theorem dS_findCallPrice_27 : decode mS_findCallPrice.2.1 27 = .ok (.aload_n 0, 1) := by decide +kernel
theorem dS_findCallPrice_28 : decode mS_findCallPrice.2.1 28 = .ok (.iload 4, 2) := by decide +kernel
theorem dS_findCallPrice_30 : decode mS_findCallPrice.2.1 30 = .ok (.invokevirtual 26, 3) := by decide +kernel
theorem dS_findCallPrice_33 : decode mS_findCallPrice.2.1 33 = .ok (.invokestatic 29, 3) := by decide +kernel
theorem dS_findCallPrice_36 : decode mS_findCallPrice.2.1 36 = .ok (.istore 6, 2) := by decide +kernel
theorem dS_findCallPrice_38 : decode mS_findCallPrice.2.1 38 = .ok (.iload 5, 2) := by decide +kernel
theorem dS_findCallPrice_40 : decode mS_findCallPrice.2.1 40 = .ok (.iload_n 2, 1) := by decide +kernel
theorem dS_findCallPrice_41 : decode mS_findCallPrice.2.1 41 = .ok (.if_icmp .gt (15), 3) := by decide +kernel
theorem dS_findCallPrice_44 : decode mS_findCallPrice.2.1 44 = .ok (.iload 5, 2) := by decide +kernel
theorem dS_findCallPrice_46 : decode mS_findCallPrice.2.1 46 = .ok (.iload_n 2, 1) := by decide +kernel
theorem dS_findCallPrice_47 : decode mS_findCallPrice.2.1 47 = .ok (.if_icmp .ne (15), 3) := by decide +kernel
theorem dS_findCallPrice_50 : decode mS_findCallPrice.2.1 50 = .ok (.iload 6, 2) := by decide +kernel
theorem dS_findCallPrice_52 : decode mS_findCallPrice.2.1 52 = .ok (.iload_n 3, 1) := by decide +kernel
theorem dS_findCallPrice_53 : decode mS_findCallPrice.2.1 53 = .ok (.if_icmp .ge (9), 3) := by decide +kernel
theorem dS_findCallPrice_56 : decode mS_findCallPrice.2.1 56 = .ok (.iload 5, 2) := by decide +kernel
theorem dS_findCallPrice_58 : decode mS_findCallPrice.2.1 58 = .ok (.istore_n 2, 1) := by decide +kernel
theorem dS_findCallPrice_59 : decode mS_findCallPrice.2.1 59 = .ok (.iload 6, 2) := by decide +kernel
theorem dS_findCallPrice_61 : decode mS_findCallPrice.2.1 61 = .ok (.istore_n 3, 1) := by decide +kernel
theorem dS_findCallPrice_62 : decode mS_findCallPrice.2.1 62 = .ok (.iinc 4 (1), 3) := by decide +kernel
theorem dS_findCallPrice_65 : decode mS_findCallPrice.2.1 65 = .ok (.goto (-53), 3) := by decide +kernel
theorem dS_findCallPrice_68 : decode mS_findCallPrice.2.1 68 = .ok (.iload_n 2, 1) := by decide +kernel
theorem dS_findCallPrice_69 : decode mS_findCallPrice.2.1 69 = .ok (.ifCond .ne (7), 3) := by decide +kernel
theorem dS_findCallPrice_72 : decode mS_findCallPrice.2.1 72 = .ok (.iconst 0, 1) := by decide +kernel
theorem dS_findCallPrice_73 : decode mS_findCallPrice.2.1 73 = .ok (.goto (13), 3) := by decide +kernel
theorem dS_findCallPrice_76 : decode mS_findCallPrice.2.1 76 = .ok (.aload_n 0, 1) := by decide +kernel
theorem dS_findCallPrice_77 : decode mS_findCallPrice.2.1 77 = .ok (.iload_n 2, 1) := by decide +kernel
theorem dS_findCallPrice_78 : decode mS_findCallPrice.2.1 78 = .ok (.iload_n 3, 1) := by decide +kernel
theorem dS_findCallPrice_79 : decode mS_findCallPrice.2.1 79 = .ok (.aload_n 1, 1) := by decide +kernel
theorem dS_findCallPrice_80 : decode mS_findCallPrice.2.1 80 = .ok (.getfield 34, 3) := by decide +kernel
theorem dS_findCallPrice_83 : decode mS_findCallPrice.2.1 83 = .ok (.invokevirtual 40, 3) := by decide +kernel
theorem dS_findCallPrice_86 : decode mS_findCallPrice.2.1 86 = .ok (.ireturn, 1) := by decide +kernel
theorem dS_weigh_0 : decode mS_weigh.2.1 0 = .ok (.aload_n 0, 1) := by decide +kernel
theorem dS_weigh_1 : decode mS_weigh.2.1 1 = .ok (.getfield 9, 3) := by decide +kernel
theorem dS_weigh_4 : decode mS_weigh.2.1 4 = .ok (.iconst 0, 1) := by decide +kernel
theorem dS_weigh_5 : decode mS_weigh.2.1 5 = .ok (.invokestatic 48, 3) := by decide +kernel
theorem dS_weigh_8 : decode mS_weigh.2.1 8 = .ok (.aload_n 0, 1) := by decide +kernel
theorem dS_weigh_9 : decode mS_weigh.2.1 9 = .ok (.getfield 15, 3) := by decide +kernel
theorem dS_weigh_12 : decode mS_weigh.2.1 12 = .ok (.iconst 0, 1) := by decide +kernel
theorem dS_weigh_13 : decode mS_weigh.2.1 13 = .ok (.invokestatic 48, 3) := by decide +kernel
theorem dS_weigh_16 : decode mS_weigh.2.1 16 = .ok (.aload_n 1, 1) := by decide +kernel
theorem dS_weigh_17 : decode mS_weigh.2.1 17 = .ok (.getfield 54, 3) := by decide +kernel
theorem dS_weigh_20 : decode mS_weigh.2.1 20 = .ok (.getfield 58, 3) := by decide +kernel
theorem dS_weigh_23 : decode mS_weigh.2.1 23 = .ok (.astore_n 2, 1) := by decide +kernel
theorem dS_weigh_24 : decode mS_weigh.2.1 24 = .ok (.aload_n 2, 1) := by decide +kernel
theorem dS_weigh_25 : decode mS_weigh.2.1 25 = .ok (.ifnull (27), 3) := by decide +kernel
theorem dS_weigh_28 : decode mS_weigh.2.1 28 = .ok (.aload_n 0, 1) := by decide +kernel
theorem dS_weigh_29 : decode mS_weigh.2.1 29 = .ok (.getfield 9, 3) := by decide +kernel
theorem dS_weigh_32 : decode mS_weigh.2.1 32 = .ok (.aload_n 2, 1) := by decide +kernel
theorem dS_weigh_33 : decode mS_weigh.2.1 33 = .ok (.getfield 64, 3) := by decide +kernel
theorem dS_weigh_36 : decode mS_weigh.2.1 36 = .ok (.dup2, 1) := by decide +kernel
theorem dS_weigh_37 : decode mS_weigh.2.1 37 = .ok (.iaload, 1) := by decide +kernel
theorem dS_weigh_38 : decode mS_weigh.2.1 38 = .ok (.aload_n 2, 1) := by decide +kernel
theorem dS_weigh_39 : decode mS_weigh.2.1 39 = .ok (.getfield 69, 3) := by decide +kernel
theorem dS_weigh_42 : decode mS_weigh.2.1 42 = .ok (.iadd, 1) := by decide +kernel
theorem dS_weigh_43 : decode mS_weigh.2.1 43 = .ok (.iastore, 1) := by decide +kernel
theorem dS_weigh_44 : decode mS_weigh.2.1 44 = .ok (.aload_n 2, 1) := by decide +kernel
theorem dS_weigh_45 : decode mS_weigh.2.1 45 = .ok (.getfield 72, 3) := by decide +kernel
theorem dS_weigh_48 : decode mS_weigh.2.1 48 = .ok (.astore_n 2, 1) := by decide +kernel
theorem dS_weigh_49 : decode mS_weigh.2.1 49 = .ok (.goto (-25), 3) := by decide +kernel
theorem dS_weigh_52 : decode mS_weigh.2.1 52 = .ok (.aload_n 1, 1) := by decide +kernel
theorem dS_weigh_53 : decode mS_weigh.2.1 53 = .ok (.getfield 75, 3) := by decide +kernel
theorem dS_weigh_56 : decode mS_weigh.2.1 56 = .ok (.getfield 58, 3) := by decide +kernel
theorem dS_weigh_59 : decode mS_weigh.2.1 59 = .ok (.astore_n 2, 1) := by decide +kernel
theorem dS_weigh_60 : decode mS_weigh.2.1 60 = .ok (.aload_n 2, 1) := by decide +kernel
theorem dS_weigh_61 : decode mS_weigh.2.1 61 = .ok (.ifnull (27), 3) := by decide +kernel
theorem dS_weigh_64 : decode mS_weigh.2.1 64 = .ok (.aload_n 0, 1) := by decide +kernel
theorem dS_weigh_65 : decode mS_weigh.2.1 65 = .ok (.getfield 15, 3) := by decide +kernel
theorem dS_weigh_68 : decode mS_weigh.2.1 68 = .ok (.aload_n 2, 1) := by decide +kernel
theorem dS_weigh_69 : decode mS_weigh.2.1 69 = .ok (.getfield 64, 3) := by decide +kernel
theorem dS_weigh_72 : decode mS_weigh.2.1 72 = .ok (.dup2, 1) := by decide +kernel
theorem dS_weigh_73 : decode mS_weigh.2.1 73 = .ok (.iaload, 1) := by decide +kernel
theorem dS_weigh_74 : decode mS_weigh.2.1 74 = .ok (.aload_n 2, 1) := by decide +kernel
theorem dS_weigh_75 : decode mS_weigh.2.1 75 = .ok (.getfield 69, 3) := by decide +kernel
theorem dS_weigh_78 : decode mS_weigh.2.1 78 = .ok (.iadd, 1) := by decide +kernel
theorem dS_weigh_79 : decode mS_weigh.2.1 79 = .ok (.iastore, 1) := by decide +kernel
theorem dS_weigh_80 : decode mS_weigh.2.1 80 = .ok (.aload_n 2, 1) := by decide +kernel
theorem dS_weigh_81 : decode mS_weigh.2.1 81 = .ok (.getfield 72, 3) := by decide +kernel
theorem dS_weigh_84 : decode mS_weigh.2.1 84 = .ok (.astore_n 2, 1) := by decide +kernel
theorem dS_weigh_85 : decode mS_weigh.2.1 85 = .ok (.goto (-25), 3) := by decide +kernel
theorem dS_weigh_88 : decode mS_weigh.2.1 88 = .ok (.bipush (63), 2) := by decide +kernel
theorem dS_weigh_90 : decode mS_weigh.2.1 90 = .ok (.istore_n 2, 1) := by decide +kernel
theorem dS_weigh_91 : decode mS_weigh.2.1 91 = .ok (.iload_n 2, 1) := by decide +kernel
theorem dS_weigh_92 : decode mS_weigh.2.1 92 = .ok (.iconst 1, 1) := by decide +kernel
theorem dS_weigh_93 : decode mS_weigh.2.1 93 = .ok (.if_icmp .lt (26), 3) := by decide +kernel
theorem dS_weigh_96 : decode mS_weigh.2.1 96 = .ok (.aload_n 0, 1) := by decide +kernel
theorem dS_weigh_97 : decode mS_weigh.2.1 97 = .ok (.getfield 9, 3) := by decide +kernel
theorem dS_weigh_100 : decode mS_weigh.2.1 100 = .ok (.iload_n 2, 1) := by decide +kernel
theorem dS_weigh_101 : decode mS_weigh.2.1 101 = .ok (.dup2, 1) := by decide +kernel
theorem dS_weigh_102 : decode mS_weigh.2.1 102 = .ok (.iaload, 1) := by decide +kernel
theorem dS_weigh_103 : decode mS_weigh.2.1 103 = .ok (.aload_n 0, 1) := by decide +kernel
theorem dS_weigh_104 : decode mS_weigh.2.1 104 = .ok (.getfield 9, 3) := by decide +kernel
theorem dS_weigh_107 : decode mS_weigh.2.1 107 = .ok (.iload_n 2, 1) := by decide +kernel
theorem dS_weigh_108 : decode mS_weigh.2.1 108 = .ok (.iconst 1, 1) := by decide +kernel
theorem dS_weigh_109 : decode mS_weigh.2.1 109 = .ok (.iadd, 1) := by decide +kernel
theorem dS_weigh_110 : decode mS_weigh.2.1 110 = .ok (.iaload, 1) := by decide +kernel
theorem dS_weigh_111 : decode mS_weigh.2.1 111 = .ok (.iadd, 1) := by decide +kernel
theorem dS_weigh_112 : decode mS_weigh.2.1 112 = .ok (.iastore, 1) := by decide +kernel
theorem dS_weigh_113 : decode mS_weigh.2.1 113 = .ok (.iinc 2 (-1), 3) := by decide +kernel
theorem dS_weigh_116 : decode mS_weigh.2.1 116 = .ok (.goto (-25), 3) := by decide +kernel
theorem dS_weigh_119 : decode mS_weigh.2.1 119 = .ok (.iconst 1, 1) := by decide +kernel
theorem dS_weigh_120 : decode mS_weigh.2.1 120 = .ok (.istore_n 2, 1) := by decide +kernel
theorem dS_weigh_121 : decode mS_weigh.2.1 121 = .ok (.iload_n 2, 1) := by decide +kernel
theorem dS_weigh_122 : decode mS_weigh.2.1 122 = .ok (.bipush (63), 2) := by decide +kernel
theorem dS_weigh_124 : decode mS_weigh.2.1 124 = .ok (.if_icmp .gt (26), 3) := by decide +kernel
theorem dS_weigh_127 : decode mS_weigh.2.1 127 = .ok (.aload_n 0, 1) := by decide +kernel
theorem dS_weigh_128 : decode mS_weigh.2.1 128 = .ok (.getfield 15, 3) := by decide +kernel
theorem dS_weigh_131 : decode mS_weigh.2.1 131 = .ok (.iload_n 2, 1) := by decide +kernel
theorem dS_weigh_132 : decode mS_weigh.2.1 132 = .ok (.dup2, 1) := by decide +kernel
theorem dS_weigh_133 : decode mS_weigh.2.1 133 = .ok (.iaload, 1) := by decide +kernel
theorem dS_weigh_134 : decode mS_weigh.2.1 134 = .ok (.aload_n 0, 1) := by decide +kernel
theorem dS_weigh_135 : decode mS_weigh.2.1 135 = .ok (.getfield 15, 3) := by decide +kernel
theorem dS_weigh_138 : decode mS_weigh.2.1 138 = .ok (.iload_n 2, 1) := by decide +kernel
theorem dS_weigh_139 : decode mS_weigh.2.1 139 = .ok (.iconst 1, 1) := by decide +kernel
theorem dS_weigh_140 : decode mS_weigh.2.1 140 = .ok (.isub, 1) := by decide +kernel
theorem dS_weigh_141 : decode mS_weigh.2.1 141 = .ok (.iaload, 1) := by decide +kernel
theorem dS_weigh_142 : decode mS_weigh.2.1 142 = .ok (.iadd, 1) := by decide +kernel
theorem dS_weigh_143 : decode mS_weigh.2.1 143 = .ok (.iastore, 1) := by decide +kernel
theorem dS_weigh_144 : decode mS_weigh.2.1 144 = .ok (.iinc 2 (1), 3) := by decide +kernel
theorem dS_weigh_147 : decode mS_weigh.2.1 147 = .ok (.goto (-26), 3) := by decide +kernel
theorem dS_weigh_150 : decode mS_weigh.2.1 150 = .ok (.return_, 1) := by decide +kernel
theorem dY_fill_0 : decode mY_fill.2.1 0 = .ok (.iconst 0, 1) := by decide +kernel
theorem dY_fill_1 : decode mY_fill.2.1 1 = .ok (.istore_n 2, 1) := by decide +kernel
theorem dY_fill_2 : decode mY_fill.2.1 2 = .ok (.aload_n 0, 1) := by decide +kernel
theorem dY_fill_3 : decode mY_fill.2.1 3 = .ok (.arraylength, 1) := by decide +kernel
theorem dY_fill_4 : decode mY_fill.2.1 4 = .ok (.istore_n 3, 1) := by decide +kernel
theorem dY_fill_5 : decode mY_fill.2.1 5 = .ok (.iload_n 2, 1) := by decide +kernel
theorem dY_fill_6 : decode mY_fill.2.1 6 = .ok (.iload_n 3, 1) := by decide +kernel
theorem dY_fill_7 : decode mY_fill.2.1 7 = .ok (.if_icmp .ge (13), 3) := by decide +kernel
theorem dY_fill_10 : decode mY_fill.2.1 10 = .ok (.aload_n 0, 1) := by decide +kernel
theorem dY_fill_11 : decode mY_fill.2.1 11 = .ok (.iload_n 2, 1) := by decide +kernel
theorem dY_fill_12 : decode mY_fill.2.1 12 = .ok (.iload_n 1, 1) := by decide +kernel
theorem dY_fill_13 : decode mY_fill.2.1 13 = .ok (.iastore, 1) := by decide +kernel
theorem dY_fill_14 : decode mY_fill.2.1 14 = .ok (.iinc 2 (1), 3) := by decide +kernel
theorem dY_fill_17 : decode mY_fill.2.1 17 = .ok (.goto (-12), 3) := by decide +kernel
theorem dY_fill_20 : decode mY_fill.2.1 20 = .ok (.return_, 1) := by decide +kernel
theorem dS_volumeAt_0 : decode mS_volumeAt.2.1 0 = .ok (.aload_n 0, 1) := by decide +kernel
theorem dS_volumeAt_1 : decode mS_volumeAt.2.1 1 = .ok (.getfield 9, 3) := by decide +kernel
theorem dS_volumeAt_4 : decode mS_volumeAt.2.1 4 = .ok (.iload_n 1, 1) := by decide +kernel
theorem dS_volumeAt_5 : decode mS_volumeAt.2.1 5 = .ok (.iaload, 1) := by decide +kernel
theorem dS_volumeAt_6 : decode mS_volumeAt.2.1 6 = .ok (.aload_n 0, 1) := by decide +kernel
theorem dS_volumeAt_7 : decode mS_volumeAt.2.1 7 = .ok (.getfield 15, 3) := by decide +kernel
theorem dS_volumeAt_10 : decode mS_volumeAt.2.1 10 = .ok (.iload_n 1, 1) := by decide +kernel
theorem dS_volumeAt_11 : decode mS_volumeAt.2.1 11 = .ok (.iaload, 1) := by decide +kernel
theorem dS_volumeAt_12 : decode mS_volumeAt.2.1 12 = .ok (.invokestatic 44, 3) := by decide +kernel
theorem dS_volumeAt_15 : decode mS_volumeAt.2.1 15 = .ok (.ireturn, 1) := by decide +kernel
theorem dS_surplusAt_0 : decode mS_surplusAt.2.1 0 = .ok (.aload_n 0, 1) := by decide +kernel
theorem dS_surplusAt_1 : decode mS_surplusAt.2.1 1 = .ok (.getfield 9, 3) := by decide +kernel
theorem dS_surplusAt_4 : decode mS_surplusAt.2.1 4 = .ok (.iload_n 1, 1) := by decide +kernel
theorem dS_surplusAt_5 : decode mS_surplusAt.2.1 5 = .ok (.iaload, 1) := by decide +kernel
theorem dS_surplusAt_6 : decode mS_surplusAt.2.1 6 = .ok (.aload_n 0, 1) := by decide +kernel
theorem dS_surplusAt_7 : decode mS_surplusAt.2.1 7 = .ok (.getfield 15, 3) := by decide +kernel
theorem dS_surplusAt_10 : decode mS_surplusAt.2.1 10 = .ok (.iload_n 1, 1) := by decide +kernel
theorem dS_surplusAt_11 : decode mS_surplusAt.2.1 11 = .ok (.iaload, 1) := by decide +kernel
theorem dS_surplusAt_12 : decode mS_surplusAt.2.1 12 = .ok (.isub, 1) := by decide +kernel
theorem dS_surplusAt_13 : decode mS_surplusAt.2.1 13 = .ok (.ireturn, 1) := by decide +kernel
theorem dS_choose_0 : decode mS_choose.2.1 0 = .ok (.iconst 0, 1) := by decide +kernel
theorem dS_choose_1 : decode mS_choose.2.1 1 = .ok (.istore 4, 2) := by decide +kernel
theorem dS_choose_3 : decode mS_choose.2.1 3 = .ok (.iconst 0, 1) := by decide +kernel
theorem dS_choose_4 : decode mS_choose.2.1 4 = .ok (.istore 5, 2) := by decide +kernel
theorem dS_choose_6 : decode mS_choose.2.1 6 = .ok (.iconst 0, 1) := by decide +kernel
theorem dS_choose_7 : decode mS_choose.2.1 7 = .ok (.istore 6, 2) := by decide +kernel
theorem dS_choose_9 : decode mS_choose.2.1 9 = .ok (.iconst 1, 1) := by decide +kernel
theorem dS_choose_10 : decode mS_choose.2.1 10 = .ok (.istore 7, 2) := by decide +kernel
theorem dS_choose_12 : decode mS_choose.2.1 12 = .ok (.iconst 1, 1) := by decide +kernel
theorem dS_choose_13 : decode mS_choose.2.1 13 = .ok (.istore 8, 2) := by decide +kernel
theorem dS_choose_15 : decode mS_choose.2.1 15 = .ok (.iconst 1, 1) := by decide +kernel
theorem dS_choose_16 : decode mS_choose.2.1 16 = .ok (.istore 9, 2) := by decide +kernel
theorem dS_choose_18 : decode mS_choose.2.1 18 = .ok (.iload 9, 2) := by decide +kernel
theorem dS_choose_20 : decode mS_choose.2.1 20 = .ok (.bipush (63), 2) := by decide +kernel
theorem dS_choose_22 : decode mS_choose.2.1 22 = .ok (.if_icmp .gt (117), 3) := by decide +kernel
theorem dS_choose_25 : decode mS_choose.2.1 25 = .ok (.aload_n 0, 1) := by decide +kernel
theorem dS_choose_26 : decode mS_choose.2.1 26 = .ok (.iload 9, 2) := by decide +kernel
theorem dS_choose_28 : decode mS_choose.2.1 28 = .ok (.invokevirtual 26, 3) := by decide +kernel
theorem dS_choose_31 : decode mS_choose.2.1 31 = .ok (.istore 10, 2) := by decide +kernel
theorem dS_choose_33 : decode mS_choose.2.1 33 = .ok (.aload_n 0, 1) := by decide +kernel
theorem dS_choose_34 : decode mS_choose.2.1 34 = .ok (.iload 9, 2) := by decide +kernel
theorem dS_choose_36 : decode mS_choose.2.1 36 = .ok (.invokevirtual 22, 3) := by decide +kernel
theorem dS_choose_39 : decode mS_choose.2.1 39 = .ok (.iload_n 1, 1) := by decide +kernel
theorem dS_choose_40 : decode mS_choose.2.1 40 = .ok (.if_icmp .ne (93), 3) := by decide +kernel
theorem dS_choose_43 : decode mS_choose.2.1 43 = .ok (.iload 10, 2) := by decide +kernel
theorem dS_choose_45 : decode mS_choose.2.1 45 = .ok (.invokestatic 29, 3) := by decide +kernel
theorem dS_choose_48 : decode mS_choose.2.1 48 = .ok (.iload_n 2, 1) := by decide +kernel
theorem dS_choose_49 : decode mS_choose.2.1 49 = .ok (.if_icmp .eq (6), 3) := by decide +kernel
theorem dS_choose_52 : decode mS_choose.2.1 52 = .ok (.goto (81), 3) := by decide +kernel
theorem dS_choose_55 : decode mS_choose.2.1 55 = .ok (.iload 4, 2) := by decide +kernel
theorem dS_choose_57 : decode mS_choose.2.1 57 = .ok (.ifCond .ne (8), 3) := by decide +kernel
theorem dS_choose_60 : decode mS_choose.2.1 60 = .ok (.iload 9, 2) := by decide +kernel
theorem dS_choose_62 : decode mS_choose.2.1 62 = .ok (.goto (5), 3) := by decide +kernel
theorem dS_choose_65 : decode mS_choose.2.1 65 = .ok (.iload 4, 2) := by decide +kernel
theorem dS_choose_67 : decode mS_choose.2.1 67 = .ok (.istore 4, 2) := by decide +kernel
theorem dS_choose_69 : decode mS_choose.2.1 69 = .ok (.iload 9, 2) := by decide +kernel
theorem dS_choose_71 : decode mS_choose.2.1 71 = .ok (.istore 5, 2) := by decide +kernel
theorem dS_choose_73 : decode mS_choose.2.1 73 = .ok (.iload 6, 2) := by decide +kernel
theorem dS_choose_75 : decode mS_choose.2.1 75 = .ok (.ifCond .eq (20), 3) := by decide +kernel
theorem dS_choose_78 : decode mS_choose.2.1 78 = .ok (.iload 9, 2) := by decide +kernel
theorem dS_choose_80 : decode mS_choose.2.1 80 = .ok (.iload_n 3, 1) := by decide +kernel
theorem dS_choose_81 : decode mS_choose.2.1 81 = .ok (.isub, 1) := by decide +kernel
theorem dS_choose_82 : decode mS_choose.2.1 82 = .ok (.invokestatic 29, 3) := by decide +kernel
theorem dS_choose_85 : decode mS_choose.2.1 85 = .ok (.iload 6, 2) := by decide +kernel
theorem dS_choose_87 : decode mS_choose.2.1 87 = .ok (.iload_n 3, 1) := by decide +kernel
theorem dS_choose_88 : decode mS_choose.2.1 88 = .ok (.isub, 1) := by decide +kernel
theorem dS_choose_89 : decode mS_choose.2.1 89 = .ok (.invokestatic 29, 3) := by decide +kernel
theorem dS_choose_92 : decode mS_choose.2.1 92 = .ok (.if_icmp .ge (7), 3) := by decide +kernel
theorem dS_choose_95 : decode mS_choose.2.1 95 = .ok (.iload 9, 2) := by decide +kernel
theorem dS_choose_97 : decode mS_choose.2.1 97 = .ok (.istore 6, 2) := by decide +kernel
theorem dS_choose_99 : decode mS_choose.2.1 99 = .ok (.iload 7, 2) := by decide +kernel
theorem dS_choose_101 : decode mS_choose.2.1 101 = .ok (.ifCond .eq (12), 3) := by decide +kernel
theorem dS_choose_104 : decode mS_choose.2.1 104 = .ok (.iload 10, 2) := by decide +kernel
theorem dS_choose_106 : decode mS_choose.2.1 106 = .ok (.ifCond .le (7), 3) := by decide +kernel
theorem dS_choose_109 : decode mS_choose.2.1 109 = .ok (.iconst 1, 1) := by decide +kernel
theorem dS_choose_110 : decode mS_choose.2.1 110 = .ok (.goto (4), 3) := by decide +kernel
theorem dS_choose_113 : decode mS_choose.2.1 113 = .ok (.iconst 0, 1) := by decide +kernel
theorem dS_choose_114 : decode mS_choose.2.1 114 = .ok (.istore 7, 2) := by decide +kernel
theorem dS_choose_116 : decode mS_choose.2.1 116 = .ok (.iload 8, 2) := by decide +kernel
theorem dS_choose_118 : decode mS_choose.2.1 118 = .ok (.ifCond .eq (12), 3) := by decide +kernel
theorem dS_choose_121 : decode mS_choose.2.1 121 = .ok (.iload 10, 2) := by decide +kernel
theorem dS_choose_123 : decode mS_choose.2.1 123 = .ok (.ifCond .ge (7), 3) := by decide +kernel
theorem dS_choose_126 : decode mS_choose.2.1 126 = .ok (.iconst 1, 1) := by decide +kernel
theorem dS_choose_127 : decode mS_choose.2.1 127 = .ok (.goto (4), 3) := by decide +kernel
theorem dS_choose_130 : decode mS_choose.2.1 130 = .ok (.iconst 0, 1) := by decide +kernel
theorem dS_choose_131 : decode mS_choose.2.1 131 = .ok (.istore 8, 2) := by decide +kernel
theorem dS_choose_133 : decode mS_choose.2.1 133 = .ok (.iinc 9 (1), 3) := by decide +kernel
theorem dS_choose_136 : decode mS_choose.2.1 136 = .ok (.goto (-118), 3) := by decide +kernel
theorem dS_choose_139 : decode mS_choose.2.1 139 = .ok (.iload 7, 2) := by decide +kernel
theorem dS_choose_141 : decode mS_choose.2.1 141 = .ok (.ifCond .eq (6), 3) := by decide +kernel
theorem dS_choose_144 : decode mS_choose.2.1 144 = .ok (.iload 5, 2) := by decide +kernel
theorem dS_choose_146 : decode mS_choose.2.1 146 = .ok (.ireturn, 1) := by decide +kernel
theorem dS_choose_147 : decode mS_choose.2.1 147 = .ok (.iload 8, 2) := by decide +kernel
theorem dS_choose_149 : decode mS_choose.2.1 149 = .ok (.ifCond .eq (8), 3) := by decide +kernel
theorem dS_choose_152 : decode mS_choose.2.1 152 = .ok (.iload 4, 2) := by decide +kernel
theorem dS_choose_154 : decode mS_choose.2.1 154 = .ok (.goto (5), 3) := by decide +kernel
theorem dS_choose_157 : decode mS_choose.2.1 157 = .ok (.iload 6, 2) := by decide +kernel
theorem dS_choose_159 : decode mS_choose.2.1 159 = .ok (.ireturn, 1) := by decide +kernel
theorem dC_tradeAll_0 : decode mC_tradeAll.2.1 0 = .ok (.iconst 0, 1) := by decide +kernel
theorem dC_tradeAll_1 : decode mC_tradeAll.2.1 1 = .ok (.istore_n 3, 1) := by decide +kernel
theorem dC_tradeAll_2 : decode mC_tradeAll.2.1 2 = .ok (.iconst 0, 1) := by decide +kernel
theorem dC_tradeAll_3 : decode mC_tradeAll.2.1 3 = .ok (.istore 4, 2) := by decide +kernel
theorem dC_tradeAll_5 : decode mC_tradeAll.2.1 5 = .ok (.iload 4, 2) := by decide +kernel
theorem dC_tradeAll_7 : decode mC_tradeAll.2.1 7 = .ok (.bipush (120), 2) := by decide +kernel
theorem dC_tradeAll_9 : decode mC_tradeAll.2.1 9 = .ok (.if_icmp .ge (100), 3) := by decide +kernel
theorem dC_tradeAll_12 : decode mC_tradeAll.2.1 12 = .ok (.aload_n 1, 1) := by decide +kernel
theorem dC_tradeAll_13 : decode mC_tradeAll.2.1 13 = .ok (.getfield 188, 3) := by decide +kernel
theorem dC_tradeAll_16 : decode mC_tradeAll.2.1 16 = .ok (.getfield 140, 3) := by decide +kernel
theorem dC_tradeAll_19 : decode mC_tradeAll.2.1 19 = .ok (.astore 5, 2) := by decide +kernel
theorem dC_tradeAll_21 : decode mC_tradeAll.2.1 21 = .ok (.aload_n 1, 1) := by decide +kernel
theorem dC_tradeAll_22 : decode mC_tradeAll.2.1 22 = .ok (.getfield 195, 3) := by decide +kernel
theorem dC_tradeAll_25 : decode mC_tradeAll.2.1 25 = .ok (.getfield 140, 3) := by decide +kernel
theorem dC_tradeAll_28 : decode mC_tradeAll.2.1 28 = .ok (.astore 6, 2) := by decide +kernel
theorem dC_tradeAll_30 : decode mC_tradeAll.2.1 30 = .ok (.aload 5, 2) := by decide +kernel
theorem dC_tradeAll_32 : decode mC_tradeAll.2.1 32 = .ok (.ifnull (26), 3) := by decide +kernel
theorem dC_tradeAll_35 : decode mC_tradeAll.2.1 35 = .ok (.aload 6, 2) := by decide +kernel
theorem dC_tradeAll_37 : decode mC_tradeAll.2.1 37 = .ok (.ifnull (21), 3) := by decide +kernel
theorem dC_tradeAll_40 : decode mC_tradeAll.2.1 40 = .ok (.aload 5, 2) := by decide +kernel
theorem dC_tradeAll_42 : decode mC_tradeAll.2.1 42 = .ok (.iload_n 2, 1) := by decide +kernel
theorem dC_tradeAll_43 : decode mC_tradeAll.2.1 43 = .ok (.invokevirtual 223, 3) := by decide +kernel
theorem dC_tradeAll_46 : decode mC_tradeAll.2.1 46 = .ok (.ifCond .eq (12), 3) := by decide +kernel
theorem dC_tradeAll_49 : decode mC_tradeAll.2.1 49 = .ok (.aload 6, 2) := by decide +kernel
theorem dC_tradeAll_51 : decode mC_tradeAll.2.1 51 = .ok (.iload_n 2, 1) := by decide +kernel
theorem dC_tradeAll_52 : decode mC_tradeAll.2.1 52 = .ok (.invokevirtual 223, 3) := by decide +kernel
theorem dC_tradeAll_55 : decode mC_tradeAll.2.1 55 = .ok (.ifCond .ne (5), 3) := by decide +kernel
theorem dC_tradeAll_58 : decode mC_tradeAll.2.1 58 = .ok (.iload_n 3, 1) := by decide +kernel
theorem dC_tradeAll_59 : decode mC_tradeAll.2.1 59 = .ok (.ireturn, 1) := by decide +kernel
theorem dC_tradeAll_60 : decode mC_tradeAll.2.1 60 = .ok (.aload 5, 2) := by decide +kernel
theorem dC_tradeAll_62 : decode mC_tradeAll.2.1 62 = .ok (.getfield 107, 3) := by decide +kernel
theorem dC_tradeAll_65 : decode mC_tradeAll.2.1 65 = .ok (.aload 6, 2) := by decide +kernel
theorem dC_tradeAll_67 : decode mC_tradeAll.2.1 67 = .ok (.getfield 107, 3) := by decide +kernel
theorem dC_tradeAll_70 : decode mC_tradeAll.2.1 70 = .ok (.invokestatic 113, 3) := by decide +kernel
theorem dC_tradeAll_73 : decode mC_tradeAll.2.1 73 = .ok (.istore 7, 2) := by decide +kernel
theorem dC_tradeAll_75 : decode mC_tradeAll.2.1 75 = .ok (.aload_n 0, 1) := by decide +kernel
theorem dC_tradeAll_76 : decode mC_tradeAll.2.1 76 = .ok (.aload 5, 2) := by decide +kernel
theorem dC_tradeAll_78 : decode mC_tradeAll.2.1 78 = .ok (.aload 6, 2) := by decide +kernel
theorem dC_tradeAll_80 : decode mC_tradeAll.2.1 80 = .ok (.iload_n 2, 1) := by decide +kernel
theorem dC_tradeAll_81 : decode mC_tradeAll.2.1 81 = .ok (.iload 7, 2) := by decide +kernel
theorem dC_tradeAll_83 : decode mC_tradeAll.2.1 83 = .ok (.invokevirtual 230, 3) := by decide +kernel
theorem dC_tradeAll_86 : decode mC_tradeAll.2.1 86 = .ok (.aload_n 0, 1) := by decide +kernel
theorem dC_tradeAll_87 : decode mC_tradeAll.2.1 87 = .ok (.aload 5, 2) := by decide +kernel
theorem dC_tradeAll_89 : decode mC_tradeAll.2.1 89 = .ok (.invokevirtual 237, 3) := by decide +kernel
theorem dC_tradeAll_92 : decode mC_tradeAll.2.1 92 = .ok (.aload_n 0, 1) := by decide +kernel
theorem dC_tradeAll_93 : decode mC_tradeAll.2.1 93 = .ok (.aload 6, 2) := by decide +kernel
theorem dC_tradeAll_95 : decode mC_tradeAll.2.1 95 = .ok (.invokevirtual 237, 3) := by decide +kernel
theorem dC_tradeAll_98 : decode mC_tradeAll.2.1 98 = .ok (.iload_n 3, 1) := by decide +kernel
theorem dC_tradeAll_99 : decode mC_tradeAll.2.1 99 = .ok (.iload 7, 2) := by decide +kernel
theorem dC_tradeAll_101 : decode mC_tradeAll.2.1 101 = .ok (.iadd, 1) := by decide +kernel
theorem dC_tradeAll_102 : decode mC_tradeAll.2.1 102 = .ok (.istore_n 3, 1) := by decide +kernel
theorem dC_tradeAll_103 : decode mC_tradeAll.2.1 103 = .ok (.iinc 4 (1), 3) := by decide +kernel
theorem dC_tradeAll_106 : decode mC_tradeAll.2.1 106 = .ok (.goto (-101), 3) := by decide +kernel
theorem dC_tradeAll_109 : decode mC_tradeAll.2.1 109 = .ok (.iload_n 3, 1) := by decide +kernel
theorem dC_tradeAll_110 : decode mC_tradeAll.2.1 110 = .ok (.ireturn, 1) := by decide +kernel
theorem dC_keepOrFill_0 : decode mC_keepOrFill.2.1 0 = .ok (.aload_n 1, 1) := by decide +kernel
theorem dC_keepOrFill_1 : decode mC_keepOrFill.2.1 1 = .ok (.getfield 107, 3) := by decide +kernel
theorem dC_keepOrFill_4 : decode mC_keepOrFill.2.1 4 = .ok (.ifCond .ne (12), 3) := by decide +kernel
theorem dC_keepOrFill_7 : decode mC_keepOrFill.2.1 7 = .ok (.aload_n 0, 1) := by decide +kernel
theorem dC_keepOrFill_8 : decode mC_keepOrFill.2.1 8 = .ok (.aload_n 1, 1) := by decide +kernel
theorem dC_keepOrFill_9 : decode mC_keepOrFill.2.1 9 = .ok (.iconst 1, 1) := by decide +kernel
theorem dC_keepOrFill_10 : decode mC_keepOrFill.2.1 10 = .ok (.invokevirtual 103, 3) := by decide +kernel
theorem dC_keepOrFill_13 : decode mC_keepOrFill.2.1 13 = .ok (.goto (7), 3) := by decide +kernel
theorem dC_keepOrFill_16 : decode mC_keepOrFill.2.1 16 = .ok (.aload_n 1, 1) := by decide +kernel
theorem dC_keepOrFill_17 : decode mC_keepOrFill.2.1 17 = .ok (.invokevirtual 213, 3) := by decide +kernel
theorem dC_keepOrFill_20 : decode mC_keepOrFill.2.1 20 = .ok (.return_, 1) := by decide +kernel
theorem dC_close_0 : decode mC_close.2.1 0 = .ok (.iload_n 1, 1) := by decide +kernel
theorem dC_close_1 : decode mC_close.2.1 1 = .ok (.invokestatic 61, 3) := by decide +kernel
theorem dC_close_4 : decode mC_close.2.1 4 = .ok (.ifCond .ne (5), 3) := by decide +kernel
theorem dC_close_7 : decode mC_close.2.1 7 = .ok (.iconst (-1), 1) := by decide +kernel
theorem dC_close_8 : decode mC_close.2.1 8 = .ok (.ireturn, 1) := by decide +kernel
theorem dC_close_9 : decode mC_close.2.1 9 = .ok (.aload_n 0, 1) := by decide +kernel
theorem dC_close_10 : decode mC_close.2.1 10 = .ok (.getfield 17, 3) := by decide +kernel
theorem dC_close_13 : decode mC_close.2.1 13 = .ok (.iload_n 1, 1) := by decide +kernel
theorem dC_close_14 : decode mC_close.2.1 14 = .ok (.aaload, 1) := by decide +kernel
theorem dC_close_15 : decode mC_close.2.1 15 = .ok (.getfield 74, 3) := by decide +kernel
theorem dC_close_18 : decode mC_close.2.1 18 = .ok (.ifCond .ne (6), 3) := by decide +kernel
theorem dC_close_21 : decode mC_close.2.1 21 = .ok (.bipush (-3), 2) := by decide +kernel
theorem dC_close_23 : decode mC_close.2.1 23 = .ok (.ireturn, 1) := by decide +kernel
theorem dC_close_24 : decode mC_close.2.1 24 = .ok (.aload_n 0, 1) := by decide +kernel
theorem dC_close_25 : decode mC_close.2.1 25 = .ok (.getfield 17, 3) := by decide +kernel
theorem dC_close_28 : decode mC_close.2.1 28 = .ok (.iload_n 1, 1) := by decide +kernel
theorem dC_close_29 : decode mC_close.2.1 29 = .ok (.aaload, 1) := by decide +kernel
theorem dC_close_30 : decode mC_close.2.1 30 = .ok (.iconst 0, 1) := by decide +kernel
theorem dC_close_31 : decode mC_close.2.1 31 = .ok (.putfield 74, 3) := by decide +kernel
theorem dC_close_34 : decode mC_close.2.1 34 = .ok (.iconst 0, 1) := by decide +kernel
theorem dC_close_35 : decode mC_close.2.1 35 = .ok (.ireturn, 1) := by decide +kernel
theorem dC_indication_0 : decode mC_indication.2.1 0 = .ok (.iload_n 1, 1) := by decide +kernel
theorem dC_indication_1 : decode mC_indication.2.1 1 = .ok (.invokestatic 61, 3) := by decide +kernel
theorem dC_indication_4 : decode mC_indication.2.1 4 = .ok (.ifCond .ne (5), 3) := by decide +kernel
theorem dC_indication_7 : decode mC_indication.2.1 7 = .ok (.iconst (-1), 1) := by decide +kernel
theorem dC_indication_8 : decode mC_indication.2.1 8 = .ok (.ireturn, 1) := by decide +kernel
theorem dC_indication_9 : decode mC_indication.2.1 9 = .ok (.aload_n 0, 1) := by decide +kernel
theorem dC_indication_10 : decode mC_indication.2.1 10 = .ok (.getfield 37, 3) := by decide +kernel
theorem dC_indication_13 : decode mC_indication.2.1 13 = .ok (.aload_n 0, 1) := by decide +kernel
theorem dC_indication_14 : decode mC_indication.2.1 14 = .ok (.getfield 17, 3) := by decide +kernel
theorem dC_indication_17 : decode mC_indication.2.1 17 = .ok (.iload_n 1, 1) := by decide +kernel
theorem dC_indication_18 : decode mC_indication.2.1 18 = .ok (.aaload, 1) := by decide +kernel
theorem dC_indication_19 : decode mC_indication.2.1 19 = .ok (.invokevirtual 119, 3) := by decide +kernel
theorem dC_indication_22 : decode mC_indication.2.1 22 = .ok (.istore_n 3, 1) := by decide +kernel
theorem dC_indication_23 : decode mC_indication.2.1 23 = .ok (.iload_n 3, 1) := by decide +kernel
theorem dC_indication_24 : decode mC_indication.2.1 24 = .ok (.ifCond .ne (6), 3) := by decide +kernel
theorem dC_indication_27 : decode mC_indication.2.1 27 = .ok (.bipush (-6), 2) := by decide +kernel
theorem dC_indication_29 : decode mC_indication.2.1 29 = .ok (.ireturn, 1) := by decide +kernel
theorem dC_indication_30 : decode mC_indication.2.1 30 = .ok (.iload_n 2, 1) := by decide +kernel
theorem dC_indication_31 : decode mC_indication.2.1 31 = .ok (.tableswitch (45) (0) (2) #[(25), (27), (36)], 25) := by decide +kernel
theorem dC_indication_56 : decode mC_indication.2.1 56 = .ok (.iload_n 3, 1) := by decide +kernel
theorem dC_indication_57 : decode mC_indication.2.1 57 = .ok (.ireturn, 1) := by decide +kernel
theorem dC_indication_58 : decode mC_indication.2.1 58 = .ok (.aload_n 0, 1) := by decide +kernel
theorem dC_indication_59 : decode mC_indication.2.1 59 = .ok (.getfield 37, 3) := by decide +kernel
theorem dC_indication_62 : decode mC_indication.2.1 62 = .ok (.iload_n 3, 1) := by decide +kernel
theorem dC_indication_63 : decode mC_indication.2.1 63 = .ok (.invokevirtual 127, 3) := by decide +kernel
theorem dC_indication_66 : decode mC_indication.2.1 66 = .ok (.ireturn, 1) := by decide +kernel
theorem dC_indication_67 : decode mC_indication.2.1 67 = .ok (.aload_n 0, 1) := by decide +kernel
theorem dC_indication_68 : decode mC_indication.2.1 68 = .ok (.getfield 37, 3) := by decide +kernel
theorem dC_indication_71 : decode mC_indication.2.1 71 = .ok (.iload_n 3, 1) := by decide +kernel
theorem dC_indication_72 : decode mC_indication.2.1 72 = .ok (.invokevirtual 130, 3) := by decide +kernel
theorem dC_indication_75 : decode mC_indication.2.1 75 = .ok (.ireturn, 1) := by decide +kernel
theorem dC_indication_76 : decode mC_indication.2.1 76 = .ok (.iconst (-1), 1) := by decide +kernel
theorem dC_indication_77 : decode mC_indication.2.1 77 = .ok (.ireturn, 1) := by decide +kernel
theorem dC_best_0 : decode mC_best.2.1 0 = .ok (.iload_n 1, 1) := by decide +kernel
theorem dC_best_1 : decode mC_best.2.1 1 = .ok (.invokestatic 61, 3) := by decide +kernel
theorem dC_best_4 : decode mC_best.2.1 4 = .ok (.ifCond .eq (10), 3) := by decide +kernel
theorem dC_best_7 : decode mC_best.2.1 7 = .ok (.iload_n 2, 1) := by decide +kernel
theorem dC_best_8 : decode mC_best.2.1 8 = .ok (.invokestatic 133, 3) := by decide +kernel
theorem dC_best_11 : decode mC_best.2.1 11 = .ok (.ifCond .ne (5), 3) := by decide +kernel
theorem dC_best_14 : decode mC_best.2.1 14 = .ok (.iconst (-1), 1) := by decide +kernel
theorem dC_best_15 : decode mC_best.2.1 15 = .ok (.ireturn, 1) := by decide +kernel
theorem dC_best_16 : decode mC_best.2.1 16 = .ok (.aload_n 0, 1) := by decide +kernel
theorem dC_best_17 : decode mC_best.2.1 17 = .ok (.getfield 17, 3) := by decide +kernel
theorem dC_best_20 : decode mC_best.2.1 20 = .ok (.iload_n 1, 1) := by decide +kernel
theorem dC_best_21 : decode mC_best.2.1 21 = .ok (.aaload, 1) := by decide +kernel
theorem dC_best_22 : decode mC_best.2.1 22 = .ok (.iload_n 2, 1) := by decide +kernel
theorem dC_best_23 : decode mC_best.2.1 23 = .ok (.invokevirtual 136, 3) := by decide +kernel
theorem dC_best_26 : decode mC_best.2.1 26 = .ok (.getfield 140, 3) := by decide +kernel
theorem dC_best_29 : decode mC_best.2.1 29 = .ok (.astore_n 3, 1) := by decide +kernel
theorem dC_best_30 : decode mC_best.2.1 30 = .ok (.aload_n 3, 1) := by decide +kernel
theorem dC_best_31 : decode mC_best.2.1 31 = .ok (.ifnonnull (8), 3) := by decide +kernel
theorem dC_best_34 : decode mC_best.2.1 34 = .ok (.bipush (-6), 2) := by decide +kernel
theorem dC_best_36 : decode mC_best.2.1 36 = .ok (.goto (7), 3) := by decide +kernel
theorem dC_best_39 : decode mC_best.2.1 39 = .ok (.aload_n 3, 1) := by decide +kernel
theorem dC_best_40 : decode mC_best.2.1 40 = .ok (.getfield 146, 3) := by decide +kernel
theorem dC_best_43 : decode mC_best.2.1 43 = .ok (.ireturn, 1) := by decide +kernel
theorem dC_isSide_0 : decode mC_isSide.2.1 0 = .ok (.iload_n 0, 1) := by decide +kernel
theorem dC_isSide_1 : decode mC_isSide.2.1 1 = .ok (.ifCond .eq (8), 3) := by decide +kernel
theorem dC_isSide_4 : decode mC_isSide.2.1 4 = .ok (.iload_n 0, 1) := by decide +kernel
theorem dC_isSide_5 : decode mC_isSide.2.1 5 = .ok (.iconst 1, 1) := by decide +kernel
theorem dC_isSide_6 : decode mC_isSide.2.1 6 = .ok (.if_icmp .ne (7), 3) := by decide +kernel
theorem dC_isSide_9 : decode mC_isSide.2.1 9 = .ok (.iconst 1, 1) := by decide +kernel
theorem dC_isSide_10 : decode mC_isSide.2.1 10 = .ok (.goto (4), 3) := by decide +kernel
theorem dC_isSide_13 : decode mC_isSide.2.1 13 = .ok (.iconst 0, 1) := by decide +kernel
theorem dC_isSide_14 : decode mC_isSide.2.1 14 = .ok (.ireturn, 1) := by decide +kernel
theorem dC_depth_0 : decode mC_depth.2.1 0 = .ok (.iload_n 1, 1) := by decide +kernel
theorem dC_depth_1 : decode mC_depth.2.1 1 = .ok (.invokestatic 61, 3) := by decide +kernel
theorem dC_depth_4 : decode mC_depth.2.1 4 = .ok (.ifCond .eq (17), 3) := by decide +kernel
theorem dC_depth_7 : decode mC_depth.2.1 7 = .ok (.iload_n 2, 1) := by decide +kernel
theorem dC_depth_8 : decode mC_depth.2.1 8 = .ok (.invokestatic 133, 3) := by decide +kernel
theorem dC_depth_11 : decode mC_depth.2.1 11 = .ok (.ifCond .eq (10), 3) := by decide +kernel
theorem dC_depth_14 : decode mC_depth.2.1 14 = .ok (.iload_n 3, 1) := by decide +kernel
theorem dC_depth_15 : decode mC_depth.2.1 15 = .ok (.invokestatic 71, 3) := by decide +kernel
theorem dC_depth_18 : decode mC_depth.2.1 18 = .ok (.ifCond .ne (5), 3) := by decide +kernel
theorem dC_depth_21 : decode mC_depth.2.1 21 = .ok (.iconst (-1), 1) := by decide +kernel
theorem dC_depth_22 : decode mC_depth.2.1 22 = .ok (.ireturn, 1) := by decide +kernel
theorem dC_depth_23 : decode mC_depth.2.1 23 = .ok (.aload_n 0, 1) := by decide +kernel
theorem dC_depth_24 : decode mC_depth.2.1 24 = .ok (.getfield 17, 3) := by decide +kernel
theorem dC_depth_27 : decode mC_depth.2.1 27 = .ok (.iload_n 1, 1) := by decide +kernel
theorem dC_depth_28 : decode mC_depth.2.1 28 = .ok (.aaload, 1) := by decide +kernel
theorem dC_depth_29 : decode mC_depth.2.1 29 = .ok (.iload_n 2, 1) := by decide +kernel
theorem dC_depth_30 : decode mC_depth.2.1 30 = .ok (.invokevirtual 136, 3) := by decide +kernel
theorem dC_depth_33 : decode mC_depth.2.1 33 = .ok (.iload_n 3, 1) := by decide +kernel
theorem dC_depth_34 : decode mC_depth.2.1 34 = .ok (.aconst_null, 1) := by decide +kernel
theorem dC_depth_35 : decode mC_depth.2.1 35 = .ok (.invokevirtual 149, 3) := by decide +kernel
theorem dC_depth_38 : decode mC_depth.2.1 38 = .ok (.ireturn, 1) := by decide +kernel
theorem dD_shownInQueue_0 : decode mD_shownInQueue.2.1 0 = .ok (.iconst 0, 1) := by decide +kernel
theorem dD_shownInQueue_1 : decode mD_shownInQueue.2.1 1 = .ok (.istore_n 3, 1) := by decide +kernel
theorem dD_shownInQueue_2 : decode mD_shownInQueue.2.1 2 = .ok (.aload_n 0, 1) := by decide +kernel
theorem dD_shownInQueue_3 : decode mD_shownInQueue.2.1 3 = .ok (.getfield 9, 3) := by decide +kernel
theorem dD_shownInQueue_6 : decode mD_shownInQueue.2.1 6 = .ok (.astore 4, 2) := by decide +kernel
theorem dD_shownInQueue_8 : decode mD_shownInQueue.2.1 8 = .ok (.aload 4, 2) := by decide +kernel
theorem dD_shownInQueue_10 : decode mD_shownInQueue.2.1 10 = .ok (.ifnull (36), 3) := by decide +kernel
theorem dD_shownInQueue_13 : decode mD_shownInQueue.2.1 13 = .ok (.aload 4, 2) := by decide +kernel
theorem dD_shownInQueue_15 : decode mD_shownInQueue.2.1 15 = .ok (.aload_n 2, 1) := by decide +kernel
theorem dD_shownInQueue_16 : decode mD_shownInQueue.2.1 16 = .ok (.if_acmp .eq (30), 3) := by decide +kernel
theorem dD_shownInQueue_19 : decode mD_shownInQueue.2.1 19 = .ok (.aload 4, 2) := by decide +kernel
theorem dD_shownInQueue_21 : decode mD_shownInQueue.2.1 21 = .ok (.getfield 35, 3) := by decide +kernel
theorem dD_shownInQueue_24 : decode mD_shownInQueue.2.1 24 = .ok (.iload_n 1, 1) := by decide +kernel
theorem dD_shownInQueue_25 : decode mD_shownInQueue.2.1 25 = .ok (.if_icmp .ne (11), 3) := by decide +kernel
theorem dD_shownInQueue_28 : decode mD_shownInQueue.2.1 28 = .ok (.iload_n 3, 1) := by decide +kernel
theorem dD_shownInQueue_29 : decode mD_shownInQueue.2.1 29 = .ok (.aload 4, 2) := by decide +kernel
theorem dD_shownInQueue_31 : decode mD_shownInQueue.2.1 31 = .ok (.getfield 42, 3) := by decide +kernel
theorem dD_shownInQueue_34 : decode mD_shownInQueue.2.1 34 = .ok (.iadd, 1) := by decide +kernel
theorem dD_shownInQueue_35 : decode mD_shownInQueue.2.1 35 = .ok (.istore_n 3, 1) := by decide +kernel
theorem dD_shownInQueue_36 : decode mD_shownInQueue.2.1 36 = .ok (.aload 4, 2) := by decide +kernel
theorem dD_shownInQueue_38 : decode mD_shownInQueue.2.1 38 = .ok (.getfield 19, 3) := by decide +kernel
theorem dD_shownInQueue_41 : decode mD_shownInQueue.2.1 41 = .ok (.astore 4, 2) := by decide +kernel
theorem dD_shownInQueue_43 : decode mD_shownInQueue.2.1 43 = .ok (.goto (-35), 3) := by decide +kernel
theorem dD_shownInQueue_46 : decode mD_shownInQueue.2.1 46 = .ok (.iload_n 3, 1) := by decide +kernel
theorem dD_shownInQueue_47 : decode mD_shownInQueue.2.1 47 = .ok (.ireturn, 1) := by decide +kernel
theorem dC_ahead_0 : decode mC_ahead.2.1 0 = .ok (.aload_n 0, 1) := by decide +kernel
theorem dC_ahead_1 : decode mC_ahead.2.1 1 = .ok (.iload_n 1, 1) := by decide +kernel
theorem dC_ahead_2 : decode mC_ahead.2.1 2 = .ok (.invokevirtual 153, 3) := by decide +kernel
theorem dC_ahead_5 : decode mC_ahead.2.1 5 = .ok (.astore_n 2, 1) := by decide +kernel
theorem dC_ahead_6 : decode mC_ahead.2.1 6 = .ok (.aload_n 2, 1) := by decide +kernel
theorem dC_ahead_7 : decode mC_ahead.2.1 7 = .ok (.ifnull (10), 3) := by decide +kernel
theorem dC_ahead_10 : decode mC_ahead.2.1 10 = .ok (.aload_n 2, 1) := by decide +kernel
theorem dC_ahead_11 : decode mC_ahead.2.1 11 = .ok (.getfield 157, 3) := by decide +kernel
theorem dC_ahead_14 : decode mC_ahead.2.1 14 = .ok (.ifCond .eq (6), 3) := by decide +kernel
theorem dC_ahead_17 : decode mC_ahead.2.1 17 = .ok (.bipush (-6), 2) := by decide +kernel
theorem dC_ahead_19 : decode mC_ahead.2.1 19 = .ok (.ireturn, 1) := by decide +kernel
theorem dC_ahead_20 : decode mC_ahead.2.1 20 = .ok (.aload_n 0, 1) := by decide +kernel
theorem dC_ahead_21 : decode mC_ahead.2.1 21 = .ok (.getfield 17, 3) := by decide +kernel
theorem dC_ahead_24 : decode mC_ahead.2.1 24 = .ok (.aload_n 2, 1) := by decide +kernel
theorem dC_ahead_25 : decode mC_ahead.2.1 25 = .ok (.getfield 160, 3) := by decide +kernel
theorem dC_ahead_28 : decode mC_ahead.2.1 28 = .ok (.aaload, 1) := by decide +kernel
theorem dC_ahead_29 : decode mC_ahead.2.1 29 = .ok (.aload_n 2, 1) := by decide +kernel
theorem dC_ahead_30 : decode mC_ahead.2.1 30 = .ok (.getfield 163, 3) := by decide +kernel
theorem dC_ahead_33 : decode mC_ahead.2.1 33 = .ok (.invokevirtual 136, 3) := by decide +kernel
theorem dC_ahead_36 : decode mC_ahead.2.1 36 = .ok (.aload_n 2, 1) := by decide +kernel
theorem dC_ahead_37 : decode mC_ahead.2.1 37 = .ok (.getfield 146, 3) := by decide +kernel
theorem dC_ahead_40 : decode mC_ahead.2.1 40 = .ok (.aload_n 2, 1) := by decide +kernel
theorem dC_ahead_41 : decode mC_ahead.2.1 41 = .ok (.invokevirtual 149, 3) := by decide +kernel
theorem dC_ahead_44 : decode mC_ahead.2.1 44 = .ok (.ireturn, 1) := by decide +kernel
theorem dC_left_0 : decode mC_left.2.1 0 = .ok (.aload_n 0, 1) := by decide +kernel
theorem dC_left_1 : decode mC_left.2.1 1 = .ok (.iload_n 1, 1) := by decide +kernel
theorem dC_left_2 : decode mC_left.2.1 2 = .ok (.invokevirtual 153, 3) := by decide +kernel
theorem dC_left_5 : decode mC_left.2.1 5 = .ok (.astore_n 2, 1) := by decide +kernel
theorem dC_left_6 : decode mC_left.2.1 6 = .ok (.aload_n 2, 1) := by decide +kernel
theorem dC_left_7 : decode mC_left.2.1 7 = .ok (.ifnonnull (7), 3) := by decide +kernel
theorem dC_left_10 : decode mC_left.2.1 10 = .ok (.iconst (-1), 1) := by decide +kernel
theorem dC_left_11 : decode mC_left.2.1 11 = .ok (.goto (7), 3) := by decide +kernel
theorem dC_left_14 : decode mC_left.2.1 14 = .ok (.aload_n 2, 1) := by decide +kernel
theorem dC_left_15 : decode mC_left.2.1 15 = .ok (.getfield 107, 3) := by decide +kernel
theorem dC_left_18 : decode mC_left.2.1 18 = .ok (.ireturn, 1) := by decide +kernel
theorem dC_state_0 : decode mC_state.2.1 0 = .ok (.aload_n 0, 1) := by decide +kernel
theorem dC_state_1 : decode mC_state.2.1 1 = .ok (.iload_n 1, 1) := by decide +kernel
theorem dC_state_2 : decode mC_state.2.1 2 = .ok (.invokevirtual 153, 3) := by decide +kernel
theorem dC_state_5 : decode mC_state.2.1 5 = .ok (.astore_n 2, 1) := by decide +kernel
theorem dC_state_6 : decode mC_state.2.1 6 = .ok (.aload_n 2, 1) := by decide +kernel
theorem dC_state_7 : decode mC_state.2.1 7 = .ok (.ifnonnull (7), 3) := by decide +kernel
theorem dC_state_10 : decode mC_state.2.1 10 = .ok (.iconst (-1), 1) := by decide +kernel
theorem dC_state_11 : decode mC_state.2.1 11 = .ok (.goto (7), 3) := by decide +kernel
theorem dC_state_14 : decode mC_state.2.1 14 = .ok (.aload_n 2, 1) := by decide +kernel
theorem dC_state_15 : decode mC_state.2.1 15 = .ok (.getfield 157, 3) := by decide +kernel
theorem dC_state_18 : decode mC_state.2.1 18 = .ok (.ireturn, 1) := by decide +kernel
theorem dC_trades_0 : decode mC_trades.2.1 0 = .ok (.aload_n 0, 1) := by decide +kernel
theorem dC_trades_1 : decode mC_trades.2.1 1 = .ok (.getfield 30, 3) := by decide +kernel
theorem dC_trades_4 : decode mC_trades.2.1 4 = .ok (.getfield 166, 3) := by decide +kernel
theorem dC_trades_7 : decode mC_trades.2.1 7 = .ok (.ireturn, 1) := by decide +kernel
theorem dC_trade_0 : decode mC_trade.2.1 0 = .ok (.iload_n 2, 1) := by decide +kernel
theorem dC_trade_1 : decode mC_trade.2.1 1 = .ok (.ifCond .lt (8), 3) := by decide +kernel
theorem dC_trade_4 : decode mC_trade.2.1 4 = .ok (.iload_n 2, 1) := by decide +kernel
theorem dC_trade_5 : decode mC_trade.2.1 5 = .ok (.iconst 4, 1) := by decide +kernel
theorem dC_trade_6 : decode mC_trade.2.1 6 = .ok (.if_icmp .lt (5), 3) := by decide +kernel
theorem dC_trade_9 : decode mC_trade.2.1 9 = .ok (.iconst (-1), 1) := by decide +kernel
theorem dC_trade_10 : decode mC_trade.2.1 10 = .ok (.ireturn, 1) := by decide +kernel
theorem dC_trade_11 : decode mC_trade.2.1 11 = .ok (.aload_n 0, 1) := by decide +kernel
theorem dC_trade_12 : decode mC_trade.2.1 12 = .ok (.getfield 30, 3) := by decide +kernel
theorem dC_trade_15 : decode mC_trade.2.1 15 = .ok (.iload_n 1, 1) := by decide +kernel
theorem dC_trade_16 : decode mC_trade.2.1 16 = .ok (.invokevirtual 169, 3) := by decide +kernel
theorem dC_trade_19 : decode mC_trade.2.1 19 = .ok (.ifCond .eq (15), 3) := by decide +kernel
theorem dC_trade_22 : decode mC_trade.2.1 22 = .ok (.aload_n 0, 1) := by decide +kernel
theorem dC_trade_23 : decode mC_trade.2.1 23 = .ok (.getfield 30, 3) := by decide +kernel
theorem dC_trade_26 : decode mC_trade.2.1 26 = .ok (.iload_n 1, 1) := by decide +kernel
theorem dC_trade_27 : decode mC_trade.2.1 27 = .ok (.iload_n 2, 1) := by decide +kernel
theorem dC_trade_28 : decode mC_trade.2.1 28 = .ok (.invokevirtual 172, 3) := by decide +kernel
theorem dC_trade_31 : decode mC_trade.2.1 31 = .ok (.goto (5), 3) := by decide +kernel
theorem dC_trade_34 : decode mC_trade.2.1 34 = .ok (.bipush (-6), 2) := by decide +kernel
theorem dC_trade_36 : decode mC_trade.2.1 36 = .ok (.ireturn, 1) := by decide +kernel
theorem dT_holds_0 : decode mT_holds.2.1 0 = .ok (.iload_n 1, 1) := by decide +kernel
theorem dT_holds_1 : decode mT_holds.2.1 1 = .ok (.ifCond .lt (26), 3) := by decide +kernel
theorem dT_holds_4 : decode mT_holds.2.1 4 = .ok (.iload_n 1, 1) := by decide +kernel
theorem dT_holds_5 : decode mT_holds.2.1 5 = .ok (.aload_n 0, 1) := by decide +kernel
theorem dT_holds_6 : decode mT_holds.2.1 6 = .ok (.getfield 15, 3) := by decide +kernel
theorem dT_holds_9 : decode mT_holds.2.1 9 = .ok (.if_icmp .ge (18), 3) := by decide +kernel
theorem dT_holds_12 : decode mT_holds.2.1 12 = .ok (.iload_n 1, 1) := by decide +kernel
theorem dT_holds_13 : decode mT_holds.2.1 13 = .ok (.aload_n 0, 1) := by decide +kernel
theorem dT_holds_14 : decode mT_holds.2.1 14 = .ok (.getfield 15, 3) := by decide +kernel
theorem dT_holds_17 : decode mT_holds.2.1 17 = .ok (.bipush (100), 2) := by decide +kernel
theorem dT_holds_19 : decode mT_holds.2.1 19 = .ok (.isub, 1) := by decide +kernel
theorem dT_holds_20 : decode mT_holds.2.1 20 = .ok (.if_icmp .lt (7), 3) := by decide +kernel
theorem dT_holds_23 : decode mT_holds.2.1 23 = .ok (.iconst 1, 1) := by decide +kernel
theorem dT_holds_24 : decode mT_holds.2.1 24 = .ok (.goto (4), 3) := by decide +kernel
theorem dT_holds_27 : decode mT_holds.2.1 27 = .ok (.iconst 0, 1) := by decide +kernel
theorem dT_holds_28 : decode mT_holds.2.1 28 = .ok (.ireturn, 1) := by decide +kernel
theorem dT_read_0 : decode mT_read.2.1 0 = .ok (.aload_n 0, 1) := by decide +kernel
theorem dT_read_1 : decode mT_read.2.1 1 = .ok (.getfield 9, 3) := by decide +kernel
theorem dT_read_4 : decode mT_read.2.1 4 = .ok (.iload_n 1, 1) := by decide +kernel
theorem dT_read_5 : decode mT_read.2.1 5 = .ok (.bipush (100), 2) := by decide +kernel
theorem dT_read_7 : decode mT_read.2.1 7 = .ok (.irem, 1) := by decide +kernel
theorem dT_read_8 : decode mT_read.2.1 8 = .ok (.iconst 4, 1) := by decide +kernel
theorem dT_read_9 : decode mT_read.2.1 9 = .ok (.imul, 1) := by decide +kernel
theorem dT_read_10 : decode mT_read.2.1 10 = .ok (.iload_n 2, 1) := by decide +kernel
theorem dT_read_11 : decode mT_read.2.1 11 = .ok (.iadd, 1) := by decide +kernel
theorem dT_read_12 : decode mT_read.2.1 12 = .ok (.iaload, 1) := by decide +kernel
theorem dT_read_13 : decode mT_read.2.1 13 = .ok (.ireturn, 1) := by decide +kernel
theorem dC_position_0 : decode mC_position.2.1 0 = .ok (.iload_n 1, 1) := by decide +kernel
theorem dC_position_1 : decode mC_position.2.1 1 = .ok (.invokestatic 47, 3) := by decide +kernel
theorem dC_position_4 : decode mC_position.2.1 4 = .ok (.ifCond .eq (24), 3) := by decide +kernel
theorem dC_position_7 : decode mC_position.2.1 7 = .ok (.iload_n 2, 1) := by decide +kernel
theorem dC_position_8 : decode mC_position.2.1 8 = .ok (.invokestatic 61, 3) := by decide +kernel
theorem dC_position_11 : decode mC_position.2.1 11 = .ok (.ifCond .eq (17), 3) := by decide +kernel
theorem dC_position_14 : decode mC_position.2.1 14 = .ok (.aload_n 0, 1) := by decide +kernel
theorem dC_position_15 : decode mC_position.2.1 15 = .ok (.getfield 11, 3) := by decide +kernel
theorem dC_position_18 : decode mC_position.2.1 18 = .ok (.iload_n 1, 1) := by decide +kernel
theorem dC_position_19 : decode mC_position.2.1 19 = .ok (.aaload, 1) := by decide +kernel
theorem dC_position_20 : decode mC_position.2.1 20 = .ok (.getfield 175, 3) := by decide +kernel
theorem dC_position_23 : decode mC_position.2.1 23 = .ok (.iload_n 2, 1) := by decide +kernel
theorem dC_position_24 : decode mC_position.2.1 24 = .ok (.iaload, 1) := by decide +kernel
theorem dC_position_25 : decode mC_position.2.1 25 = .ok (.goto (4), 3) := by decide +kernel
theorem dC_position_28 : decode mC_position.2.1 28 = .ok (.iconst 0, 1) := by decide +kernel
theorem dC_position_29 : decode mC_position.2.1 29 = .ok (.ireturn, 1) := by decide +kernel
theorem dC_money_0 : decode mC_money.2.1 0 = .ok (.iload_n 1, 1) := by decide +kernel
theorem dC_money_1 : decode mC_money.2.1 1 = .ok (.invokestatic 47, 3) := by decide +kernel
theorem dC_money_4 : decode mC_money.2.1 4 = .ok (.ifCond .eq (15), 3) := by decide +kernel
theorem dC_money_7 : decode mC_money.2.1 7 = .ok (.aload_n 0, 1) := by decide +kernel
theorem dC_money_8 : decode mC_money.2.1 8 = .ok (.getfield 11, 3) := by decide +kernel
theorem dC_money_11 : decode mC_money.2.1 11 = .ok (.iload_n 1, 1) := by decide +kernel
theorem dC_money_12 : decode mC_money.2.1 12 = .ok (.aaload, 1) := by decide +kernel
theorem dC_money_13 : decode mC_money.2.1 13 = .ok (.getfield 53, 3) := by decide +kernel
theorem dC_money_16 : decode mC_money.2.1 16 = .ok (.goto (4), 3) := by decide +kernel
theorem dC_money_19 : decode mC_money.2.1 19 = .ok (.lconst 0, 1) := by decide +kernel
theorem dC_money_20 : decode mC_money.2.1 20 = .ok (.lreturn, 1) := by decide +kernel
theorem dC_owed_0 : decode mC_owed.2.1 0 = .ok (.iload_n 1, 1) := by decide +kernel
theorem dC_owed_1 : decode mC_owed.2.1 1 = .ok (.invokestatic 47, 3) := by decide +kernel
theorem dC_owed_4 : decode mC_owed.2.1 4 = .ok (.ifCond .eq (15), 3) := by decide +kernel
theorem dC_owed_7 : decode mC_owed.2.1 7 = .ok (.aload_n 0, 1) := by decide +kernel
theorem dC_owed_8 : decode mC_owed.2.1 8 = .ok (.getfield 11, 3) := by decide +kernel
theorem dC_owed_11 : decode mC_owed.2.1 11 = .ok (.iload_n 1, 1) := by decide +kernel
theorem dC_owed_12 : decode mC_owed.2.1 12 = .ok (.aaload, 1) := by decide +kernel
theorem dC_owed_13 : decode mC_owed.2.1 13 = .ok (.getfield 179, 3) := by decide +kernel
theorem dC_owed_16 : decode mC_owed.2.1 16 = .ok (.goto (4), 3) := by decide +kernel
theorem dC_owed_19 : decode mC_owed.2.1 19 = .ok (.lconst 0, 1) := by decide +kernel
theorem dC_owed_20 : decode mC_owed.2.1 20 = .ok (.lreturn, 1) := by decide +kernel
theorem dC_risk_0 : decode mC_risk.2.1 0 = .ok (.iload_n 1, 1) := by decide +kernel
theorem dC_risk_1 : decode mC_risk.2.1 1 = .ok (.invokestatic 47, 3) := by decide +kernel
theorem dC_risk_4 : decode mC_risk.2.1 4 = .ok (.ifCond .eq (11), 3) := by decide +kernel
theorem dC_risk_7 : decode mC_risk.2.1 7 = .ok (.aload_n 0, 1) := by decide +kernel
theorem dC_risk_8 : decode mC_risk.2.1 8 = .ok (.iload_n 1, 1) := by decide +kernel
theorem dC_risk_9 : decode mC_risk.2.1 9 = .ok (.invokevirtual 57, 3) := by decide +kernel
theorem dC_risk_12 : decode mC_risk.2.1 12 = .ok (.goto (4), 3) := by decide +kernel
theorem dC_risk_15 : decode mC_risk.2.1 15 = .ok (.lconst 0, 1) := by decide +kernel
theorem dC_risk_16 : decode mC_risk.2.1 16 = .ok (.lreturn, 1) := by decide +kernel
theorem dC_settle_0 : decode mC_settle.2.1 0 = .ok (.iconst 0, 1) := by decide +kernel
theorem dC_settle_1 : decode mC_settle.2.1 1 = .ok (.istore_n 1, 1) := by decide +kernel
theorem dC_settle_2 : decode mC_settle.2.1 2 = .ok (.iload_n 1, 1) := by decide +kernel
theorem dC_settle_3 : decode mC_settle.2.1 3 = .ok (.iconst 2, 1) := by decide +kernel
theorem dC_settle_4 : decode mC_settle.2.1 4 = .ok (.if_icmp .ge (18), 3) := by decide +kernel
theorem dC_settle_7 : decode mC_settle.2.1 7 = .ok (.aload_n 0, 1) := by decide +kernel
theorem dC_settle_8 : decode mC_settle.2.1 8 = .ok (.getfield 17, 3) := by decide +kernel
theorem dC_settle_11 : decode mC_settle.2.1 11 = .ok (.iload_n 1, 1) := by decide +kernel
theorem dC_settle_12 : decode mC_settle.2.1 12 = .ok (.aaload, 1) := by decide +kernel
theorem dC_settle_13 : decode mC_settle.2.1 13 = .ok (.invokevirtual 182, 3) := by decide +kernel
theorem dC_settle_16 : decode mC_settle.2.1 16 = .ok (.iinc 1 (1), 3) := by decide +kernel
theorem dC_settle_19 : decode mC_settle.2.1 19 = .ok (.goto (-17), 3) := by decide +kernel
theorem dC_settle_22 : decode mC_settle.2.1 22 = .ok (.iconst 0, 1) := by decide +kernel
theorem dC_settle_23 : decode mC_settle.2.1 23 = .ok (.istore_n 1, 1) := by decide +kernel
theorem dC_settle_24 : decode mC_settle.2.1 24 = .ok (.iconst 0, 1) := by decide +kernel
theorem dC_settle_25 : decode mC_settle.2.1 25 = .ok (.istore_n 2, 1) := by decide +kernel
theorem dC_settle_26 : decode mC_settle.2.1 26 = .ok (.iload_n 2, 1) := by decide +kernel
theorem dC_settle_27 : decode mC_settle.2.1 27 = .ok (.iconst 5, 1) := by decide +kernel
theorem dC_settle_28 : decode mC_settle.2.1 28 = .ok (.if_icmp .ge (46), 3) := by decide +kernel
theorem dC_settle_31 : decode mC_settle.2.1 31 = .ok (.aload_n 0, 1) := by decide +kernel
theorem dC_settle_32 : decode mC_settle.2.1 32 = .ok (.getfield 11, 3) := by decide +kernel
theorem dC_settle_35 : decode mC_settle.2.1 35 = .ok (.iload_n 2, 1) := by decide +kernel
theorem dC_settle_36 : decode mC_settle.2.1 36 = .ok (.aaload, 1) := by decide +kernel
theorem dC_settle_37 : decode mC_settle.2.1 37 = .ok (.astore_n 3, 1) := by decide +kernel
theorem dC_settle_38 : decode mC_settle.2.1 38 = .ok (.aload_n 3, 1) := by decide +kernel
theorem dC_settle_39 : decode mC_settle.2.1 39 = .ok (.getfield 179, 3) := by decide +kernel
theorem dC_settle_42 : decode mC_settle.2.1 42 = .ok (.lconst 0, 1) := by decide +kernel
theorem dC_settle_43 : decode mC_settle.2.1 43 = .ok (.lcmp, 1) := by decide +kernel
theorem dC_settle_44 : decode mC_settle.2.1 44 = .ok (.ifCond .eq (6), 3) := by decide +kernel
theorem dC_settle_47 : decode mC_settle.2.1 47 = .ok (.iinc 1 (1), 3) := by decide +kernel
theorem dC_settle_50 : decode mC_settle.2.1 50 = .ok (.aload_n 3, 1) := by decide +kernel
theorem dC_settle_51 : decode mC_settle.2.1 51 = .ok (.dup, 1) := by decide +kernel
theorem dC_settle_52 : decode mC_settle.2.1 52 = .ok (.getfield 53, 3) := by decide +kernel
theorem dC_settle_55 : decode mC_settle.2.1 55 = .ok (.aload_n 3, 1) := by decide +kernel
theorem dC_settle_56 : decode mC_settle.2.1 56 = .ok (.getfield 179, 3) := by decide +kernel
theorem dC_settle_59 : decode mC_settle.2.1 59 = .ok (.ladd, 1) := by decide +kernel
theorem dC_settle_60 : decode mC_settle.2.1 60 = .ok (.putfield 53, 3) := by decide +kernel
theorem dC_settle_63 : decode mC_settle.2.1 63 = .ok (.aload_n 3, 1) := by decide +kernel
theorem dC_settle_64 : decode mC_settle.2.1 64 = .ok (.lconst 0, 1) := by decide +kernel
theorem dC_settle_65 : decode mC_settle.2.1 65 = .ok (.putfield 179, 3) := by decide +kernel
theorem dC_settle_68 : decode mC_settle.2.1 68 = .ok (.iinc 2 (1), 3) := by decide +kernel
theorem dC_settle_71 : decode mC_settle.2.1 71 = .ok (.goto (-45), 3) := by decide +kernel
theorem dC_settle_74 : decode mC_settle.2.1 74 = .ok (.iload_n 1, 1) := by decide +kernel
theorem dC_settle_75 : decode mC_settle.2.1 75 = .ok (.ireturn, 1) := by decide +kernel
theorem dB_endDay_0 : decode mB_endDay.2.1 0 = .ok (.aload_n 0, 1) := by decide +kernel
theorem dB_endDay_1 : decode mB_endDay.2.1 1 = .ok (.getfield 12, 3) := by decide +kernel
theorem dB_endDay_4 : decode mB_endDay.2.1 4 = .ok (.invokevirtual 59, 3) := by decide +kernel
theorem dB_endDay_7 : decode mB_endDay.2.1 7 = .ok (.aload_n 0, 1) := by decide +kernel
theorem dB_endDay_8 : decode mB_endDay.2.1 8 = .ok (.getfield 18, 3) := by decide +kernel
theorem dB_endDay_11 : decode mB_endDay.2.1 11 = .ok (.invokevirtual 59, 3) := by decide +kernel
theorem dB_endDay_14 : decode mB_endDay.2.1 14 = .ok (.aload_n 0, 1) := by decide +kernel
theorem dB_endDay_15 : decode mB_endDay.2.1 15 = .ok (.iconst 0, 1) := by decide +kernel
theorem dB_endDay_16 : decode mB_endDay.2.1 16 = .ok (.putfield 21, 3) := by decide +kernel
theorem dB_endDay_19 : decode mB_endDay.2.1 19 = .ok (.return_, 1) := by decide +kernel
theorem dD_withdrawAll_0 : decode mD_withdrawAll.2.1 0 = .ok (.aload_n 0, 1) := by decide +kernel
theorem dD_withdrawAll_1 : decode mD_withdrawAll.2.1 1 = .ok (.getfield 9, 3) := by decide +kernel
theorem dD_withdrawAll_4 : decode mD_withdrawAll.2.1 4 = .ok (.astore_n 1, 1) := by decide +kernel
theorem dD_withdrawAll_5 : decode mD_withdrawAll.2.1 5 = .ok (.aload_n 1, 1) := by decide +kernel
theorem dD_withdrawAll_6 : decode mD_withdrawAll.2.1 6 = .ok (.ifnull (16), 3) := by decide +kernel
theorem dD_withdrawAll_9 : decode mD_withdrawAll.2.1 9 = .ok (.aload_n 1, 1) := by decide +kernel
theorem dD_withdrawAll_10 : decode mD_withdrawAll.2.1 10 = .ok (.iconst 2, 1) := by decide +kernel
theorem dD_withdrawAll_11 : decode mD_withdrawAll.2.1 11 = .ok (.putfield 45, 3) := by decide +kernel
theorem dD_withdrawAll_14 : decode mD_withdrawAll.2.1 14 = .ok (.aload_n 1, 1) := by decide +kernel
theorem dD_withdrawAll_15 : decode mD_withdrawAll.2.1 15 = .ok (.getfield 19, 3) := by decide +kernel
theorem dD_withdrawAll_18 : decode mD_withdrawAll.2.1 18 = .ok (.astore_n 1, 1) := by decide +kernel
theorem dD_withdrawAll_19 : decode mD_withdrawAll.2.1 19 = .ok (.goto (-14), 3) := by decide +kernel
theorem dD_withdrawAll_22 : decode mD_withdrawAll.2.1 22 = .ok (.aload_n 0, 1) := by decide +kernel
theorem dD_withdrawAll_23 : decode mD_withdrawAll.2.1 23 = .ok (.aconst_null, 1) := by decide +kernel
theorem dD_withdrawAll_24 : decode mD_withdrawAll.2.1 24 = .ok (.putfield 9, 3) := by decide +kernel
theorem dD_withdrawAll_27 : decode mD_withdrawAll.2.1 27 = .ok (.return_, 1) := by decide +kernel
theorem dR_init_0 : decode mR_init.2.1 0 = .ok (.aload_n 0, 1) := by decide +kernel
theorem dR_init_1 : decode mR_init.2.1 1 = .ok (.invokespecial 1, 3) := by decide +kernel
theorem dR_init_4 : decode mR_init.2.1 4 = .ok (.aload_n 0, 1) := by decide +kernel
theorem dR_init_5 : decode mR_init.2.1 5 = .ok (.bipush (120), 2) := by decide +kernel
theorem dR_init_7 : decode mR_init.2.1 7 = .ok (.newarray .int, 2) := by decide +kernel
theorem dR_init_9 : decode mR_init.2.1 9 = .ok (.putfield 7, 3) := by decide +kernel
theorem dR_init_12 : decode mR_init.2.1 12 = .ok (.aload_n 0, 1) := by decide +kernel
theorem dR_init_13 : decode mR_init.2.1 13 = .ok (.bipush (120), 2) := by decide +kernel
theorem dR_init_15 : decode mR_init.2.1 15 = .ok (.newarray .int, 2) := by decide +kernel
theorem dR_init_17 : decode mR_init.2.1 17 = .ok (.putfield 13, 3) := by decide +kernel
theorem dR_init_20 : decode mR_init.2.1 20 = .ok (.aload_n 0, 1) := by decide +kernel
theorem dR_init_21 : decode mR_init.2.1 21 = .ok (.bipush (120), 2) := by decide +kernel
theorem dR_init_23 : decode mR_init.2.1 23 = .ok (.newarray .int, 2) := by decide +kernel
theorem dR_init_25 : decode mR_init.2.1 25 = .ok (.putfield 16, 3) := by decide +kernel
theorem dR_init_28 : decode mR_init.2.1 28 = .ok (.aload_n 0, 1) := by decide +kernel
theorem dR_init_29 : decode mR_init.2.1 29 = .ok (.bipush (120), 2) := by decide +kernel
theorem dR_init_31 : decode mR_init.2.1 31 = .ok (.newarray .int, 2) := by decide +kernel
theorem dR_init_33 : decode mR_init.2.1 33 = .ok (.putfield 19, 3) := by decide +kernel
theorem dR_init_36 : decode mR_init.2.1 36 = .ok (.aload_n 0, 1) := by decide +kernel
theorem dR_init_37 : decode mR_init.2.1 37 = .ok (.bipush (120), 2) := by decide +kernel
theorem dR_init_39 : decode mR_init.2.1 39 = .ok (.newarray .int, 2) := by decide +kernel
theorem dR_init_41 : decode mR_init.2.1 41 = .ok (.putfield 22, 3) := by decide +kernel
theorem dR_init_44 : decode mR_init.2.1 44 = .ok (.aload_n 0, 1) := by decide +kernel
theorem dR_init_45 : decode mR_init.2.1 45 = .ok (.bipush (120), 2) := by decide +kernel
theorem dR_init_47 : decode mR_init.2.1 47 = .ok (.newarray .int, 2) := by decide +kernel
theorem dR_init_49 : decode mR_init.2.1 49 = .ok (.putfield 25, 3) := by decide +kernel
theorem dR_init_52 : decode mR_init.2.1 52 = .ok (.aload_n 0, 1) := by decide +kernel
theorem dR_init_53 : decode mR_init.2.1 53 = .ok (.bipush (120), 2) := by decide +kernel
theorem dR_init_55 : decode mR_init.2.1 55 = .ok (.newarray .int, 2) := by decide +kernel
theorem dR_init_57 : decode mR_init.2.1 57 = .ok (.putfield 28, 3) := by decide +kernel
theorem dR_init_60 : decode mR_init.2.1 60 = .ok (.aload_n 0, 1) := by decide +kernel
theorem dR_init_61 : decode mR_init.2.1 61 = .ok (.bipush (120), 2) := by decide +kernel
theorem dR_init_63 : decode mR_init.2.1 63 = .ok (.newarray .int, 2) := by decide +kernel
theorem dR_init_65 : decode mR_init.2.1 65 = .ok (.putfield 31, 3) := by decide +kernel
theorem dR_init_68 : decode mR_init.2.1 68 = .ok (.aload_n 0, 1) := by decide +kernel
theorem dR_init_69 : decode mR_init.2.1 69 = .ok (.bipush (120), 2) := by decide +kernel
theorem dR_init_71 : decode mR_init.2.1 71 = .ok (.newarray .int, 2) := by decide +kernel
theorem dR_init_73 : decode mR_init.2.1 73 = .ok (.putfield 34, 3) := by decide +kernel
theorem dR_init_76 : decode mR_init.2.1 76 = .ok (.aload_n 0, 1) := by decide +kernel
theorem dR_init_77 : decode mR_init.2.1 77 = .ok (.iconst 5, 1) := by decide +kernel
theorem dR_init_78 : decode mR_init.2.1 78 = .ok (.newarray .long, 2) := by decide +kernel
theorem dR_init_80 : decode mR_init.2.1 80 = .ok (.putfield 37, 3) := by decide +kernel
theorem dR_init_83 : decode mR_init.2.1 83 = .ok (.aload_n 0, 1) := by decide +kernel
theorem dR_init_84 : decode mR_init.2.1 84 = .ok (.iconst 5, 1) := by decide +kernel
theorem dR_init_85 : decode mR_init.2.1 85 = .ok (.newarray .long, 2) := by decide +kernel
theorem dR_init_87 : decode mR_init.2.1 87 = .ok (.putfield 41, 3) := by decide +kernel
theorem dR_init_90 : decode mR_init.2.1 90 = .ok (.aload_n 0, 1) := by decide +kernel
theorem dR_init_91 : decode mR_init.2.1 91 = .ok (.bipush (10), 2) := by decide +kernel
theorem dR_init_93 : decode mR_init.2.1 93 = .ok (.newarray .int, 2) := by decide +kernel
theorem dR_init_95 : decode mR_init.2.1 95 = .ok (.putfield 44, 3) := by decide +kernel
theorem dR_init_98 : decode mR_init.2.1 98 = .ok (.aload_n 0, 1) := by decide +kernel
theorem dR_init_99 : decode mR_init.2.1 99 = .ok (.iconst 2, 1) := by decide +kernel
theorem dR_init_100 : decode mR_init.2.1 100 = .ok (.newarray .boolean, 2) := by decide +kernel
theorem dR_init_102 : decode mR_init.2.1 102 = .ok (.putfield 47, 3) := by decide +kernel
theorem dR_init_105 : decode mR_init.2.1 105 = .ok (.aload_n 0, 1) := by decide +kernel
theorem dR_init_106 : decode mR_init.2.1 106 = .ok (.iconst 2, 1) := by decide +kernel
theorem dR_init_107 : decode mR_init.2.1 107 = .ok (.newarray .int, 2) := by decide +kernel
theorem dR_init_109 : decode mR_init.2.1 109 = .ok (.putfield 51, 3) := by decide +kernel
theorem dR_init_112 : decode mR_init.2.1 112 = .ok (.aload_n 0, 1) := by decide +kernel
theorem dR_init_113 : decode mR_init.2.1 113 = .ok (.sipush (400), 3) := by decide +kernel
theorem dR_init_116 : decode mR_init.2.1 116 = .ok (.newarray .int, 2) := by decide +kernel
theorem dR_init_118 : decode mR_init.2.1 118 = .ok (.putfield 54, 3) := by decide +kernel
theorem dR_init_121 : decode mR_init.2.1 121 = .ok (.aload_n 0, 1) := by decide +kernel
theorem dR_init_122 : decode mR_init.2.1 122 = .ok (.getfield 51, 3) := by decide +kernel
theorem dR_init_125 : decode mR_init.2.1 125 = .ok (.iconst 0, 1) := by decide +kernel
theorem dR_init_126 : decode mR_init.2.1 126 = .ok (.bipush (32), 2) := by decide +kernel
theorem dR_init_128 : decode mR_init.2.1 128 = .ok (.iastore, 1) := by decide +kernel
theorem dR_init_129 : decode mR_init.2.1 129 = .ok (.aload_n 0, 1) := by decide +kernel
theorem dR_init_130 : decode mR_init.2.1 130 = .ok (.getfield 51, 3) := by decide +kernel
theorem dR_init_133 : decode mR_init.2.1 133 = .ok (.iconst 1, 1) := by decide +kernel
theorem dR_init_134 : decode mR_init.2.1 134 = .ok (.bipush (32), 2) := by decide +kernel
theorem dR_init_136 : decode mR_init.2.1 136 = .ok (.iastore, 1) := by decide +kernel
theorem dR_init_137 : decode mR_init.2.1 137 = .ok (.return_, 1) := by decide +kernel
theorem dR_deposit_0 : decode mR_deposit.2.1 0 = .ok (.iload_n 1, 1) := by decide +kernel
theorem dR_deposit_1 : decode mR_deposit.2.1 1 = .ok (.invokestatic 101, 3) := by decide +kernel
theorem dR_deposit_4 : decode mR_deposit.2.1 4 = .ok (.ifCond .ne (39), 3) := by decide +kernel
theorem dR_deposit_7 : decode mR_deposit.2.1 7 = .ok (.iload_n 2, 1) := by decide +kernel
theorem dR_deposit_8 : decode mR_deposit.2.1 8 = .ok (.ldc 105, 2) := by decide +kernel
theorem dR_deposit_10 : decode mR_deposit.2.1 10 = .ok (.ldc 106, 2) := by decide +kernel
theorem dR_deposit_12 : decode mR_deposit.2.1 12 = .ok (.invokestatic 98, 3) := by decide +kernel
theorem dR_deposit_15 : decode mR_deposit.2.1 15 = .ok (.ifCond .ne (28), 3) := by decide +kernel
theorem dR_deposit_18 : decode mR_deposit.2.1 18 = .ok (.iload_n 2, 1) := by decide +kernel
theorem dR_deposit_19 : decode mR_deposit.2.1 19 = .ok (.ifCond .ge (26), 3) := by decide +kernel
theorem dR_deposit_22 : decode mR_deposit.2.1 22 = .ok (.aload_n 0, 1) := by decide +kernel
theorem dR_deposit_23 : decode mR_deposit.2.1 23 = .ok (.getfield 37, 3) := by decide +kernel
theorem dR_deposit_26 : decode mR_deposit.2.1 26 = .ok (.iload_n 1, 1) := by decide +kernel
theorem dR_deposit_27 : decode mR_deposit.2.1 27 = .ok (.laload, 1) := by decide +kernel
theorem dR_deposit_28 : decode mR_deposit.2.1 28 = .ok (.iload_n 2, 1) := by decide +kernel
theorem dR_deposit_29 : decode mR_deposit.2.1 29 = .ok (.i2l, 1) := by decide +kernel
theorem dR_deposit_30 : decode mR_deposit.2.1 30 = .ok (.ladd, 1) := by decide +kernel
theorem dR_deposit_31 : decode mR_deposit.2.1 31 = .ok (.aload_n 0, 1) := by decide +kernel
theorem dR_deposit_32 : decode mR_deposit.2.1 32 = .ok (.iload_n 1, 1) := by decide +kernel
theorem dR_deposit_33 : decode mR_deposit.2.1 33 = .ok (.iconst 0, 1) := by decide +kernel
theorem dR_deposit_34 : decode mR_deposit.2.1 34 = .ok (.iconst 0, 1) := by decide +kernel
theorem dR_deposit_35 : decode mR_deposit.2.1 35 = .ok (.iconst 0, 1) := by decide +kernel
theorem dR_deposit_36 : decode mR_deposit.2.1 36 = .ok (.invokevirtual 107, 3) := by decide +kernel
theorem dR_deposit_39 : decode mR_deposit.2.1 39 = .ok (.lcmp, 1) := by decide +kernel
theorem dR_deposit_40 : decode mR_deposit.2.1 40 = .ok (.ifCond .ge (5), 3) := by decide +kernel
theorem dR_deposit_43 : decode mR_deposit.2.1 43 = .ok (.iconst 0, 1) := by decide +kernel
theorem dR_deposit_44 : decode mR_deposit.2.1 44 = .ok (.ireturn, 1) := by decide +kernel
theorem dR_deposit_45 : decode mR_deposit.2.1 45 = .ok (.aload_n 0, 1) := by decide +kernel
theorem dR_deposit_46 : decode mR_deposit.2.1 46 = .ok (.getfield 37, 3) := by decide +kernel
theorem dR_deposit_49 : decode mR_deposit.2.1 49 = .ok (.iload_n 1, 1) := by decide +kernel
theorem dR_deposit_50 : decode mR_deposit.2.1 50 = .ok (.dup2, 1) := by decide +kernel
theorem dR_deposit_51 : decode mR_deposit.2.1 51 = .ok (.laload, 1) := by decide +kernel
theorem dR_deposit_52 : decode mR_deposit.2.1 52 = .ok (.iload_n 2, 1) := by decide +kernel
theorem dR_deposit_53 : decode mR_deposit.2.1 53 = .ok (.i2l, 1) := by decide +kernel
theorem dR_deposit_54 : decode mR_deposit.2.1 54 = .ok (.ladd, 1) := by decide +kernel
theorem dR_deposit_55 : decode mR_deposit.2.1 55 = .ok (.lastore, 1) := by decide +kernel
theorem dR_deposit_56 : decode mR_deposit.2.1 56 = .ok (.iconst 1, 1) := by decide +kernel
theorem dR_deposit_57 : decode mR_deposit.2.1 57 = .ok (.ireturn, 1) := by decide +kernel
theorem dR_noMember_0 : decode mR_noMember.2.1 0 = .ok (.iload_n 0, 1) := by decide +kernel
theorem dR_noMember_1 : decode mR_noMember.2.1 1 = .ok (.iconst 0, 1) := by decide +kernel
theorem dR_noMember_2 : decode mR_noMember.2.1 2 = .ok (.iconst 4, 1) := by decide +kernel
theorem dR_noMember_3 : decode mR_noMember.2.1 3 = .ok (.invokestatic 98, 3) := by decide +kernel
theorem dR_noMember_6 : decode mR_noMember.2.1 6 = .ok (.ireturn, 1) := by decide +kernel
theorem dR_outside_0 : decode mR_outside.2.1 0 = .ok (.iload_n 0, 1) := by decide +kernel
theorem dR_outside_1 : decode mR_outside.2.1 1 = .ok (.iload_n 1, 1) := by decide +kernel
theorem dR_outside_2 : decode mR_outside.2.1 2 = .ok (.if_icmp .lt (8), 3) := by decide +kernel
theorem dR_outside_5 : decode mR_outside.2.1 5 = .ok (.iload_n 0, 1) := by decide +kernel
theorem dR_outside_6 : decode mR_outside.2.1 6 = .ok (.iload_n 2, 1) := by decide +kernel
theorem dR_outside_7 : decode mR_outside.2.1 7 = .ok (.if_icmp .le (7), 3) := by decide +kernel
theorem dR_outside_10 : decode mR_outside.2.1 10 = .ok (.iconst 1, 1) := by decide +kernel
theorem dR_outside_11 : decode mR_outside.2.1 11 = .ok (.goto (4), 3) := by decide +kernel
theorem dR_outside_14 : decode mR_outside.2.1 14 = .ok (.iconst 0, 1) := by decide +kernel
theorem dR_outside_15 : decode mR_outside.2.1 15 = .ok (.ireturn, 1) := by decide +kernel
theorem dR_riskWith_0 : decode mR_riskWith.2.1 0 = .ok (.lconst 0, 1) := by decide +kernel
theorem dR_riskWith_1 : decode mR_riskWith.2.1 1 = .ok (.lstore 5, 2) := by decide +kernel
theorem dR_riskWith_3 : decode mR_riskWith.2.1 3 = .ok (.iconst 0, 1) := by decide +kernel
theorem dR_riskWith_4 : decode mR_riskWith.2.1 4 = .ok (.istore 7, 2) := by decide +kernel
theorem dR_riskWith_6 : decode mR_riskWith.2.1 6 = .ok (.iload 7, 2) := by decide +kernel
theorem dR_riskWith_8 : decode mR_riskWith.2.1 8 = .ok (.iconst 2, 1) := by decide +kernel
theorem dR_riskWith_9 : decode mR_riskWith.2.1 9 = .ok (.if_icmp .ge (226), 3) := by decide +kernel
theorem dR_riskWith_12 : decode mR_riskWith.2.1 12 = .ok (.iload_n 2, 1) := by decide +kernel
theorem dR_riskWith_13 : decode mR_riskWith.2.1 13 = .ok (.iload 7, 2) := by decide +kernel
theorem dR_riskWith_15 : decode mR_riskWith.2.1 15 = .ok (.if_icmp .ne (13), 3) := by decide +kernel
theorem dR_riskWith_18 : decode mR_riskWith.2.1 18 = .ok (.iload_n 3, 1) := by decide +kernel
theorem dR_riskWith_19 : decode mR_riskWith.2.1 19 = .ok (.ifCond .ne (9), 3) := by decide +kernel
theorem dR_riskWith_22 : decode mR_riskWith.2.1 22 = .ok (.iload 4, 2) := by decide +kernel
theorem dR_riskWith_24 : decode mR_riskWith.2.1 24 = .ok (.i2l, 1) := by decide +kernel
theorem dR_riskWith_25 : decode mR_riskWith.2.1 25 = .ok (.goto (4), 3) := by decide +kernel
theorem dR_riskWith_28 : decode mR_riskWith.2.1 28 = .ok (.lconst 0, 1) := by decide +kernel
theorem dR_riskWith_29 : decode mR_riskWith.2.1 29 = .ok (.lstore 8, 2) := by decide +kernel
theorem dR_riskWith_31 : decode mR_riskWith.2.1 31 = .ok (.iload_n 2, 1) := by decide +kernel
theorem dR_riskWith_32 : decode mR_riskWith.2.1 32 = .ok (.iload 7, 2) := by decide +kernel
theorem dR_riskWith_34 : decode mR_riskWith.2.1 34 = .ok (.if_icmp .ne (14), 3) := by decide +kernel
theorem dR_riskWith_37 : decode mR_riskWith.2.1 37 = .ok (.iload_n 3, 1) := by decide +kernel
theorem dR_riskWith_38 : decode mR_riskWith.2.1 38 = .ok (.iconst 1, 1) := by decide +kernel
theorem dR_riskWith_39 : decode mR_riskWith.2.1 39 = .ok (.if_icmp .ne (9), 3) := by decide +kernel
theorem dR_riskWith_42 : decode mR_riskWith.2.1 42 = .ok (.iload 4, 2) := by decide +kernel
theorem dR_riskWith_44 : decode mR_riskWith.2.1 44 = .ok (.i2l, 1) := by decide +kernel
theorem dR_riskWith_45 : decode mR_riskWith.2.1 45 = .ok (.goto (4), 3) := by decide +kernel
theorem dR_riskWith_48 : decode mR_riskWith.2.1 48 = .ok (.lconst 0, 1) := by decide +kernel
theorem dR_riskWith_49 : decode mR_riskWith.2.1 49 = .ok (.lstore 10, 2) := by decide +kernel
theorem dR_riskWith_51 : decode mR_riskWith.2.1 51 = .ok (.iconst 0, 1) := by decide +kernel
theorem dR_riskWith_52 : decode mR_riskWith.2.1 52 = .ok (.istore 12, 2) := by decide +kernel
theorem dR_riskWith_54 : decode mR_riskWith.2.1 54 = .ok (.iload 12, 2) := by decide +kernel
theorem dR_riskWith_56 : decode mR_riskWith.2.1 56 = .ok (.aload_n 0, 1) := by decide +kernel
theorem dR_riskWith_57 : decode mR_riskWith.2.1 57 = .ok (.getfield 57, 3) := by decide +kernel
theorem dR_riskWith_60 : decode mR_riskWith.2.1 60 = .ok (.if_icmp .ge (97), 3) := by decide +kernel
theorem dR_riskWith_63 : decode mR_riskWith.2.1 63 = .ok (.aload_n 0, 1) := by decide +kernel
theorem dR_riskWith_64 : decode mR_riskWith.2.1 64 = .ok (.getfield 7, 3) := by decide +kernel
theorem dR_riskWith_67 : decode mR_riskWith.2.1 67 = .ok (.iload 12, 2) := by decide +kernel
theorem dR_riskWith_69 : decode mR_riskWith.2.1 69 = .ok (.iaload, 1) := by decide +kernel
theorem dR_riskWith_70 : decode mR_riskWith.2.1 70 = .ok (.iload_n 1, 1) := by decide +kernel
theorem dR_riskWith_71 : decode mR_riskWith.2.1 71 = .ok (.if_icmp .ne (80), 3) := by decide +kernel
theorem dR_riskWith_74 : decode mR_riskWith.2.1 74 = .ok (.aload_n 0, 1) := by decide +kernel
theorem dR_riskWith_75 : decode mR_riskWith.2.1 75 = .ok (.getfield 31, 3) := by decide +kernel
theorem dR_riskWith_78 : decode mR_riskWith.2.1 78 = .ok (.iload 12, 2) := by decide +kernel
theorem dR_riskWith_80 : decode mR_riskWith.2.1 80 = .ok (.iaload, 1) := by decide +kernel
theorem dR_riskWith_81 : decode mR_riskWith.2.1 81 = .ok (.ifCond .ne (70), 3) := by decide +kernel
theorem dR_riskWith_84 : decode mR_riskWith.2.1 84 = .ok (.aload_n 0, 1) := by decide +kernel
theorem dR_riskWith_85 : decode mR_riskWith.2.1 85 = .ok (.getfield 13, 3) := by decide +kernel
theorem dR_riskWith_88 : decode mR_riskWith.2.1 88 = .ok (.iload 12, 2) := by decide +kernel
theorem dR_riskWith_90 : decode mR_riskWith.2.1 90 = .ok (.iaload, 1) := by decide +kernel
theorem dR_riskWith_91 : decode mR_riskWith.2.1 91 = .ok (.iload 7, 2) := by decide +kernel
theorem dR_riskWith_93 : decode mR_riskWith.2.1 93 = .ok (.if_icmp .ne (58), 3) := by decide +kernel
theorem dR_riskWith_96 : decode mR_riskWith.2.1 96 = .ok (.lload 8, 2) := by decide +kernel
theorem dR_riskWith_98 : decode mR_riskWith.2.1 98 = .ok (.aload_n 0, 1) := by decide +kernel
theorem dR_riskWith_99 : decode mR_riskWith.2.1 99 = .ok (.getfield 16, 3) := by decide +kernel
theorem dR_riskWith_102 : decode mR_riskWith.2.1 102 = .ok (.iload 12, 2) := by decide +kernel
theorem dR_riskWith_104 : decode mR_riskWith.2.1 104 = .ok (.iaload, 1) := by decide +kernel
theorem dR_riskWith_105 : decode mR_riskWith.2.1 105 = .ok (.ifCond .ne (14), 3) := by decide +kernel
theorem dR_riskWith_108 : decode mR_riskWith.2.1 108 = .ok (.aload_n 0, 1) := by decide +kernel
theorem dR_riskWith_109 : decode mR_riskWith.2.1 109 = .ok (.getfield 25, 3) := by decide +kernel
theorem dR_riskWith_112 : decode mR_riskWith.2.1 112 = .ok (.iload 12, 2) := by decide +kernel
theorem dR_riskWith_114 : decode mR_riskWith.2.1 114 = .ok (.iaload, 1) := by decide +kernel
theorem dR_riskWith_115 : decode mR_riskWith.2.1 115 = .ok (.i2l, 1) := by decide +kernel
theorem dR_riskWith_116 : decode mR_riskWith.2.1 116 = .ok (.goto (4), 3) := by decide +kernel
theorem dR_riskWith_119 : decode mR_riskWith.2.1 119 = .ok (.lconst 0, 1) := by decide +kernel
theorem dR_riskWith_120 : decode mR_riskWith.2.1 120 = .ok (.ladd, 1) := by decide +kernel
theorem dR_riskWith_121 : decode mR_riskWith.2.1 121 = .ok (.lstore 8, 2) := by decide +kernel
theorem dR_riskWith_123 : decode mR_riskWith.2.1 123 = .ok (.lload 10, 2) := by decide +kernel
theorem dR_riskWith_125 : decode mR_riskWith.2.1 125 = .ok (.aload_n 0, 1) := by decide +kernel
theorem dR_riskWith_126 : decode mR_riskWith.2.1 126 = .ok (.getfield 16, 3) := by decide +kernel
theorem dR_riskWith_129 : decode mR_riskWith.2.1 129 = .ok (.iload 12, 2) := by decide +kernel
theorem dR_riskWith_131 : decode mR_riskWith.2.1 131 = .ok (.iaload, 1) := by decide +kernel
theorem dR_riskWith_132 : decode mR_riskWith.2.1 132 = .ok (.iconst 1, 1) := by decide +kernel
theorem dR_riskWith_133 : decode mR_riskWith.2.1 133 = .ok (.if_icmp .ne (14), 3) := by decide +kernel
theorem dR_riskWith_136 : decode mR_riskWith.2.1 136 = .ok (.aload_n 0, 1) := by decide +kernel
theorem dR_riskWith_137 : decode mR_riskWith.2.1 137 = .ok (.getfield 25, 3) := by decide +kernel
theorem dR_riskWith_140 : decode mR_riskWith.2.1 140 = .ok (.iload 12, 2) := by decide +kernel
theorem dR_riskWith_142 : decode mR_riskWith.2.1 142 = .ok (.iaload, 1) := by decide +kernel
theorem dR_riskWith_143 : decode mR_riskWith.2.1 143 = .ok (.i2l, 1) := by decide +kernel
theorem dR_riskWith_144 : decode mR_riskWith.2.1 144 = .ok (.goto (4), 3) := by decide +kernel
theorem dR_riskWith_147 : decode mR_riskWith.2.1 147 = .ok (.lconst 0, 1) := by decide +kernel
theorem dR_riskWith_148 : decode mR_riskWith.2.1 148 = .ok (.ladd, 1) := by decide +kernel
theorem dR_riskWith_149 : decode mR_riskWith.2.1 149 = .ok (.lstore 10, 2) := by decide +kernel
theorem dR_riskWith_151 : decode mR_riskWith.2.1 151 = .ok (.iinc 12 (1), 3) := by decide +kernel
theorem dR_riskWith_154 : decode mR_riskWith.2.1 154 = .ok (.goto (-100), 3) := by decide +kernel
theorem dR_riskWith_157 : decode mR_riskWith.2.1 157 = .ok (.aload_n 0, 1) := by decide +kernel
theorem dR_riskWith_158 : decode mR_riskWith.2.1 158 = .ok (.getfield 44, 3) := by decide +kernel
theorem dR_riskWith_161 : decode mR_riskWith.2.1 161 = .ok (.iconst 2, 1) := by decide +kernel
theorem dR_riskWith_162 : decode mR_riskWith.2.1 162 = .ok (.iload_n 1, 1) := by decide +kernel
theorem dR_riskWith_163 : decode mR_riskWith.2.1 163 = .ok (.imul, 1) := by decide +kernel
theorem dR_riskWith_164 : decode mR_riskWith.2.1 164 = .ok (.iload 7, 2) := by decide +kernel
theorem dR_riskWith_166 : decode mR_riskWith.2.1 166 = .ok (.iadd, 1) := by decide +kernel
theorem dR_riskWith_167 : decode mR_riskWith.2.1 167 = .ok (.iaload, 1) := by decide +kernel
theorem dR_riskWith_168 : decode mR_riskWith.2.1 168 = .ok (.i2l, 1) := by decide +kernel
theorem dR_riskWith_169 : decode mR_riskWith.2.1 169 = .ok (.lload 8, 2) := by decide +kernel
theorem dR_riskWith_171 : decode mR_riskWith.2.1 171 = .ok (.ladd, 1) := by decide +kernel
theorem dR_riskWith_172 : decode mR_riskWith.2.1 172 = .ok (.invokestatic 94, 3) := by decide +kernel
theorem dR_riskWith_175 : decode mR_riskWith.2.1 175 = .ok (.lstore 12, 2) := by decide +kernel
theorem dR_riskWith_177 : decode mR_riskWith.2.1 177 = .ok (.aload_n 0, 1) := by decide +kernel
theorem dR_riskWith_178 : decode mR_riskWith.2.1 178 = .ok (.getfield 44, 3) := by decide +kernel
theorem dR_riskWith_181 : decode mR_riskWith.2.1 181 = .ok (.iconst 2, 1) := by decide +kernel
theorem dR_riskWith_182 : decode mR_riskWith.2.1 182 = .ok (.iload_n 1, 1) := by decide +kernel
theorem dR_riskWith_183 : decode mR_riskWith.2.1 183 = .ok (.imul, 1) := by decide +kernel
theorem dR_riskWith_184 : decode mR_riskWith.2.1 184 = .ok (.iload 7, 2) := by decide +kernel
theorem dR_riskWith_186 : decode mR_riskWith.2.1 186 = .ok (.iadd, 1) := by decide +kernel
theorem dR_riskWith_187 : decode mR_riskWith.2.1 187 = .ok (.iaload, 1) := by decide +kernel
theorem dR_riskWith_188 : decode mR_riskWith.2.1 188 = .ok (.i2l, 1) := by decide +kernel
theorem dR_riskWith_189 : decode mR_riskWith.2.1 189 = .ok (.lload 10, 2) := by decide +kernel
theorem dR_riskWith_191 : decode mR_riskWith.2.1 191 = .ok (.lsub, 1) := by decide +kernel
theorem dR_riskWith_192 : decode mR_riskWith.2.1 192 = .ok (.invokestatic 94, 3) := by decide +kernel
theorem dR_riskWith_195 : decode mR_riskWith.2.1 195 = .ok (.lstore 14, 2) := by decide +kernel
theorem dR_riskWith_197 : decode mR_riskWith.2.1 197 = .ok (.lload 5, 2) := by decide +kernel
end
section
theorem dR_riskWith_199 : decode mR_riskWith.2.1 199 = .ok (.iload 7, 2) := by decide +kernel
theorem dR_riskWith_201 : decode mR_riskWith.2.1 201 = .ok (.ifCond .ne (7), 3) := by decide +kernel
theorem dR_riskWith_204 : decode mR_riskWith.2.1 204 = .ok (.iconst 3, 1) := by decide +kernel
theorem dR_riskWith_205 : decode mR_riskWith.2.1 205 = .ok (.goto (4), 3) := by decide +kernel
theorem dR_riskWith_208 : decode mR_riskWith.2.1 208 = .ok (.iconst 5, 1) := by decide +kernel
theorem dR_riskWith_209 : decode mR_riskWith.2.1 209 = .ok (.i2l, 1) := by decide +kernel
theorem dR_riskWith_210 : decode mR_riskWith.2.1 210 = .ok (.lload 12, 2) := by decide +kernel
theorem dR_riskWith_212 : decode mR_riskWith.2.1 212 = .ok (.lload 14, 2) := by decide +kernel
theorem dR_riskWith_214 : decode mR_riskWith.2.1 214 = .ok (.lcmp, 1) := by decide +kernel
theorem dR_riskWith_215 : decode mR_riskWith.2.1 215 = .ok (.ifCond .le (8), 3) := by decide +kernel
theorem dR_riskWith_218 : decode mR_riskWith.2.1 218 = .ok (.lload 12, 2) := by decide +kernel
theorem dR_riskWith_220 : decode mR_riskWith.2.1 220 = .ok (.goto (5), 3) := by decide +kernel
theorem dR_riskWith_223 : decode mR_riskWith.2.1 223 = .ok (.lload 14, 2) := by decide +kernel
theorem dR_riskWith_225 : decode mR_riskWith.2.1 225 = .ok (.lmul, 1) := by decide +kernel
theorem dR_riskWith_226 : decode mR_riskWith.2.1 226 = .ok (.ladd, 1) := by decide +kernel
theorem dR_riskWith_227 : decode mR_riskWith.2.1 227 = .ok (.lstore 5, 2) := by decide +kernel
theorem dR_riskWith_229 : decode mR_riskWith.2.1 229 = .ok (.iinc 7 (1), 3) := by decide +kernel
theorem dR_riskWith_232 : decode mR_riskWith.2.1 232 = .ok (.goto (-226), 3) := by decide +kernel
theorem dR_riskWith_235 : decode mR_riskWith.2.1 235 = .ok (.lload 5, 2) := by decide +kernel
theorem dR_riskWith_237 : decode mR_riskWith.2.1 237 = .ok (.lreturn, 1) := by decide +kernel
theorem dR_size_0 : decode mR_size.2.1 0 = .ok (.lload_n 0, 1) := by decide +kernel
theorem dR_size_1 : decode mR_size.2.1 1 = .ok (.lconst 0, 1) := by decide +kernel
theorem dR_size_2 : decode mR_size.2.1 2 = .ok (.lcmp, 1) := by decide +kernel
theorem dR_size_3 : decode mR_size.2.1 3 = .ok (.ifCond .ge (8), 3) := by decide +kernel
theorem dR_size_6 : decode mR_size.2.1 6 = .ok (.lload_n 0, 1) := by decide +kernel
theorem dR_size_7 : decode mR_size.2.1 7 = .ok (.lneg, 1) := by decide +kernel
theorem dR_size_8 : decode mR_size.2.1 8 = .ok (.goto (4), 3) := by decide +kernel
theorem dR_size_11 : decode mR_size.2.1 11 = .ok (.lload_n 0, 1) := by decide +kernel
theorem dR_size_12 : decode mR_size.2.1 12 = .ok (.lreturn, 1) := by decide +kernel
theorem dR_place_0 : decode mR_place.2.1 0 = .ok (.iload_n 3, 1) := by decide +kernel
theorem dR_place_1 : decode mR_place.2.1 1 = .ok (.iconst 2, 1) := by decide +kernel
theorem dR_place_2 : decode mR_place.2.1 2 = .ok (.idiv, 1) := by decide +kernel
theorem dR_place_3 : decode mR_place.2.1 3 = .ok (.istore 6, 2) := by decide +kernel
theorem dR_place_5 : decode mR_place.2.1 5 = .ok (.iload_n 3, 1) := by decide +kernel
theorem dR_place_6 : decode mR_place.2.1 6 = .ok (.iconst 2, 1) := by decide +kernel
theorem dR_place_7 : decode mR_place.2.1 7 = .ok (.irem, 1) := by decide +kernel
theorem dR_place_8 : decode mR_place.2.1 8 = .ok (.istore 7, 2) := by decide +kernel
theorem dR_place_10 : decode mR_place.2.1 10 = .ok (.iload_n 1, 1) := by decide +kernel
theorem dR_place_11 : decode mR_place.2.1 11 = .ok (.invokestatic 101, 3) := by decide +kernel
theorem dR_place_14 : decode mR_place.2.1 14 = .ok (.ifCond .ne (50), 3) := by decide +kernel
theorem dR_place_17 : decode mR_place.2.1 17 = .ok (.iload_n 2, 1) := by decide +kernel
theorem dR_place_18 : decode mR_place.2.1 18 = .ok (.iconst 0, 1) := by decide +kernel
theorem dR_place_19 : decode mR_place.2.1 19 = .ok (.iconst 1, 1) := by decide +kernel
theorem dR_place_20 : decode mR_place.2.1 20 = .ok (.invokestatic 98, 3) := by decide +kernel
theorem dR_place_23 : decode mR_place.2.1 23 = .ok (.ifCond .ne (41), 3) := by decide +kernel
theorem dR_place_26 : decode mR_place.2.1 26 = .ok (.iload_n 3, 1) := by decide +kernel
theorem dR_place_27 : decode mR_place.2.1 27 = .ok (.iconst 0, 1) := by decide +kernel
theorem dR_place_28 : decode mR_place.2.1 28 = .ok (.bipush (11), 2) := by decide +kernel
theorem dR_place_30 : decode mR_place.2.1 30 = .ok (.invokestatic 98, 3) := by decide +kernel
theorem dR_place_33 : decode mR_place.2.1 33 = .ok (.ifCond .ne (31), 3) := by decide +kernel
theorem dR_place_36 : decode mR_place.2.1 36 = .ok (.iload 5, 2) := by decide +kernel
theorem dR_place_38 : decode mR_place.2.1 38 = .ok (.iconst 1, 1) := by decide +kernel
theorem dR_place_39 : decode mR_place.2.1 39 = .ok (.bipush (99), 2) := by decide +kernel
theorem dR_place_41 : decode mR_place.2.1 41 = .ok (.invokestatic 98, 3) := by decide +kernel
theorem dR_place_44 : decode mR_place.2.1 44 = .ok (.ifCond .ne (20), 3) := by decide +kernel
theorem dR_place_47 : decode mR_place.2.1 47 = .ok (.iload 6, 2) := by decide +kernel
theorem dR_place_49 : decode mR_place.2.1 49 = .ok (.iconst 3, 1) := by decide +kernel
theorem dR_place_50 : decode mR_place.2.1 50 = .ok (.if_icmp .eq (16), 3) := by decide +kernel
theorem dR_place_53 : decode mR_place.2.1 53 = .ok (.iload 4, 2) := by decide +kernel
theorem dR_place_55 : decode mR_place.2.1 55 = .ok (.iconst 1, 1) := by decide +kernel
theorem dR_place_56 : decode mR_place.2.1 56 = .ok (.bipush (63), 2) := by decide +kernel
theorem dR_place_58 : decode mR_place.2.1 58 = .ok (.invokestatic 98, 3) := by decide +kernel
theorem dR_place_61 : decode mR_place.2.1 61 = .ok (.ifCond .eq (5), 3) := by decide +kernel
theorem dR_place_64 : decode mR_place.2.1 64 = .ok (.iconst (-1), 1) := by decide +kernel
theorem dR_place_65 : decode mR_place.2.1 65 = .ok (.ireturn, 1) := by decide +kernel
theorem dR_place_66 : decode mR_place.2.1 66 = .ok (.aload_n 0, 1) := by decide +kernel
theorem dR_place_67 : decode mR_place.2.1 67 = .ok (.getfield 57, 3) := by decide +kernel
theorem dR_place_70 : decode mR_place.2.1 70 = .ok (.bipush (120), 2) := by decide +kernel
theorem dR_place_72 : decode mR_place.2.1 72 = .ok (.if_icmp .ne (6), 3) := by decide +kernel
theorem dR_place_75 : decode mR_place.2.1 75 = .ok (.bipush (-2), 2) := by decide +kernel
theorem dR_place_77 : decode mR_place.2.1 77 = .ok (.ireturn, 1) := by decide +kernel
theorem dR_place_78 : decode mR_place.2.1 78 = .ok (.aload_n 0, 1) := by decide +kernel
theorem dR_place_79 : decode mR_place.2.1 79 = .ok (.getfield 47, 3) := by decide +kernel
theorem dR_place_82 : decode mR_place.2.1 82 = .ok (.iload_n 2, 1) := by decide +kernel
theorem dR_place_83 : decode mR_place.2.1 83 = .ok (.baload, 1) := by decide +kernel
theorem dR_place_84 : decode mR_place.2.1 84 = .ok (.ifCond .ne (17), 3) := by decide +kernel
theorem dR_place_87 : decode mR_place.2.1 87 = .ok (.iload 6, 2) := by decide +kernel
theorem dR_place_89 : decode mR_place.2.1 89 = .ok (.ifCond .eq (12), 3) := by decide +kernel
theorem dR_place_92 : decode mR_place.2.1 92 = .ok (.iload 6, 2) := by decide +kernel
theorem dR_place_94 : decode mR_place.2.1 94 = .ok (.iconst 5, 1) := by decide +kernel
theorem dR_place_95 : decode mR_place.2.1 95 = .ok (.if_icmp .eq (6), 3) := by decide +kernel
theorem dR_place_98 : decode mR_place.2.1 98 = .ok (.bipush (-3), 2) := by decide +kernel
theorem dR_place_100 : decode mR_place.2.1 100 = .ok (.ireturn, 1) := by decide +kernel
theorem dR_place_101 : decode mR_place.2.1 101 = .ok (.aload_n 0, 1) := by decide +kernel
theorem dR_place_102 : decode mR_place.2.1 102 = .ok (.iload_n 1, 1) := by decide +kernel
theorem dR_place_103 : decode mR_place.2.1 103 = .ok (.iload_n 2, 1) := by decide +kernel
theorem dR_place_104 : decode mR_place.2.1 104 = .ok (.iload 7, 2) := by decide +kernel
theorem dR_place_106 : decode mR_place.2.1 106 = .ok (.iload 5, 2) := by decide +kernel
theorem dR_place_108 : decode mR_place.2.1 108 = .ok (.invokevirtual 107, 3) := by decide +kernel
theorem dR_place_111 : decode mR_place.2.1 111 = .ok (.aload_n 0, 1) := by decide +kernel
theorem dR_place_112 : decode mR_place.2.1 112 = .ok (.getfield 37, 3) := by decide +kernel
theorem dR_place_115 : decode mR_place.2.1 115 = .ok (.iload_n 1, 1) := by decide +kernel
theorem dR_place_116 : decode mR_place.2.1 116 = .ok (.laload, 1) := by decide +kernel
theorem dR_place_117 : decode mR_place.2.1 117 = .ok (.lcmp, 1) := by decide +kernel
theorem dR_place_118 : decode mR_place.2.1 118 = .ok (.ifCond .le (6), 3) := by decide +kernel
theorem dR_place_121 : decode mR_place.2.1 121 = .ok (.bipush (-4), 2) := by decide +kernel
theorem dR_place_123 : decode mR_place.2.1 123 = .ok (.ireturn, 1) := by decide +kernel
theorem dR_place_124 : decode mR_place.2.1 124 = .ok (.aload_n 0, 1) := by decide +kernel
theorem dR_place_125 : decode mR_place.2.1 125 = .ok (.iload_n 1, 1) := by decide +kernel
theorem dR_place_126 : decode mR_place.2.1 126 = .ok (.iload_n 2, 1) := by decide +kernel
theorem dR_place_127 : decode mR_place.2.1 127 = .ok (.iload 6, 2) := by decide +kernel
theorem dR_place_129 : decode mR_place.2.1 129 = .ok (.iload 7, 2) := by decide +kernel
theorem dR_place_131 : decode mR_place.2.1 131 = .ok (.iload 4, 2) := by decide +kernel
theorem dR_place_133 : decode mR_place.2.1 133 = .ok (.iload 5, 2) := by decide +kernel
theorem dR_place_135 : decode mR_place.2.1 135 = .ok (.invokevirtual 111, 3) := by decide +kernel
theorem dR_place_138 : decode mR_place.2.1 138 = .ok (.ifCond .eq (6), 3) := by decide +kernel
theorem dR_place_141 : decode mR_place.2.1 141 = .ok (.bipush (-5), 2) := by decide +kernel
theorem dR_place_143 : decode mR_place.2.1 143 = .ok (.ireturn, 1) := by decide +kernel
theorem dR_place_144 : decode mR_place.2.1 144 = .ok (.aload_n 0, 1) := by decide +kernel
theorem dR_place_145 : decode mR_place.2.1 145 = .ok (.getfield 57, 3) := by decide +kernel
theorem dR_place_148 : decode mR_place.2.1 148 = .ok (.istore 8, 2) := by decide +kernel
theorem dR_place_150 : decode mR_place.2.1 150 = .ok (.aload_n 0, 1) := by decide +kernel
theorem dR_place_151 : decode mR_place.2.1 151 = .ok (.getfield 7, 3) := by decide +kernel
theorem dR_place_154 : decode mR_place.2.1 154 = .ok (.iload 8, 2) := by decide +kernel
theorem dR_place_156 : decode mR_place.2.1 156 = .ok (.iload_n 1, 1) := by decide +kernel
theorem dR_place_157 : decode mR_place.2.1 157 = .ok (.iastore, 1) := by decide +kernel
theorem dR_place_158 : decode mR_place.2.1 158 = .ok (.aload_n 0, 1) := by decide +kernel
theorem dR_place_159 : decode mR_place.2.1 159 = .ok (.getfield 13, 3) := by decide +kernel
theorem dR_place_162 : decode mR_place.2.1 162 = .ok (.iload 8, 2) := by decide +kernel
theorem dR_place_164 : decode mR_place.2.1 164 = .ok (.iload_n 2, 1) := by decide +kernel
theorem dR_place_165 : decode mR_place.2.1 165 = .ok (.iastore, 1) := by decide +kernel
theorem dR_place_166 : decode mR_place.2.1 166 = .ok (.aload_n 0, 1) := by decide +kernel
theorem dR_place_167 : decode mR_place.2.1 167 = .ok (.getfield 16, 3) := by decide +kernel
theorem dR_place_170 : decode mR_place.2.1 170 = .ok (.iload 8, 2) := by decide +kernel
theorem dR_place_172 : decode mR_place.2.1 172 = .ok (.iload 7, 2) := by decide +kernel
theorem dR_place_174 : decode mR_place.2.1 174 = .ok (.iastore, 1) := by decide +kernel
theorem dR_place_175 : decode mR_place.2.1 175 = .ok (.aload_n 0, 1) := by decide +kernel
theorem dR_place_176 : decode mR_place.2.1 176 = .ok (.getfield 19, 3) := by decide +kernel
theorem dR_place_179 : decode mR_place.2.1 179 = .ok (.iload 8, 2) := by decide +kernel
theorem dR_place_181 : decode mR_place.2.1 181 = .ok (.iload 6, 2) := by decide +kernel
theorem dR_place_183 : decode mR_place.2.1 183 = .ok (.iastore, 1) := by decide +kernel
theorem dR_place_184 : decode mR_place.2.1 184 = .ok (.aload_n 0, 1) := by decide +kernel
theorem dR_place_185 : decode mR_place.2.1 185 = .ok (.getfield 22, 3) := by decide +kernel
theorem dR_place_188 : decode mR_place.2.1 188 = .ok (.iload 8, 2) := by decide +kernel
theorem dR_place_190 : decode mR_place.2.1 190 = .ok (.iload 4, 2) := by decide +kernel
theorem dR_place_192 : decode mR_place.2.1 192 = .ok (.iastore, 1) := by decide +kernel
theorem dR_place_193 : decode mR_place.2.1 193 = .ok (.aload_n 0, 1) := by decide +kernel
theorem dR_place_194 : decode mR_place.2.1 194 = .ok (.getfield 25, 3) := by decide +kernel
theorem dR_place_197 : decode mR_place.2.1 197 = .ok (.iload 8, 2) := by decide +kernel
theorem dR_place_199 : decode mR_place.2.1 199 = .ok (.iload 5, 2) := by decide +kernel
theorem dR_place_201 : decode mR_place.2.1 201 = .ok (.iastore, 1) := by decide +kernel
theorem dR_place_202 : decode mR_place.2.1 202 = .ok (.aload_n 0, 1) := by decide +kernel
theorem dR_place_203 : decode mR_place.2.1 203 = .ok (.getfield 31, 3) := by decide +kernel
theorem dR_place_206 : decode mR_place.2.1 206 = .ok (.iload 8, 2) := by decide +kernel
theorem dR_place_208 : decode mR_place.2.1 208 = .ok (.iconst 3, 1) := by decide +kernel
theorem dR_place_209 : decode mR_place.2.1 209 = .ok (.iastore, 1) := by decide +kernel
theorem dR_place_210 : decode mR_place.2.1 210 = .ok (.aload_n 0, 1) := by decide +kernel
theorem dR_place_211 : decode mR_place.2.1 211 = .ok (.dup, 1) := by decide +kernel
theorem dR_place_212 : decode mR_place.2.1 212 = .ok (.getfield 57, 3) := by decide +kernel
theorem dR_place_215 : decode mR_place.2.1 215 = .ok (.iconst 1, 1) := by decide +kernel
theorem dR_place_216 : decode mR_place.2.1 216 = .ok (.iadd, 1) := by decide +kernel
theorem dR_place_217 : decode mR_place.2.1 217 = .ok (.putfield 57, 3) := by decide +kernel
theorem dR_place_220 : decode mR_place.2.1 220 = .ok (.aload_n 0, 1) := by decide +kernel
theorem dR_place_221 : decode mR_place.2.1 221 = .ok (.getfield 47, 3) := by decide +kernel
theorem dR_place_224 : decode mR_place.2.1 224 = .ok (.iload_n 2, 1) := by decide +kernel
theorem dR_place_225 : decode mR_place.2.1 225 = .ok (.baload, 1) := by decide +kernel
theorem dR_place_226 : decode mR_place.2.1 226 = .ok (.istore 9, 2) := by decide +kernel
theorem dR_place_228 : decode mR_place.2.1 228 = .ok (.iload 9, 2) := by decide +kernel
theorem dR_place_230 : decode mR_place.2.1 230 = .ok (.ifCond .eq (14), 3) := by decide +kernel
theorem dR_place_233 : decode mR_place.2.1 233 = .ok (.aload_n 0, 1) := by decide +kernel
theorem dR_place_234 : decode mR_place.2.1 234 = .ok (.iload 8, 2) := by decide +kernel
theorem dR_place_236 : decode mR_place.2.1 236 = .ok (.invokevirtual 115, 3) := by decide +kernel
theorem dR_place_239 : decode mR_place.2.1 239 = .ok (.istore 9, 2) := by decide +kernel
theorem dR_place_241 : decode mR_place.2.1 241 = .ok (.goto (-13), 3) := by decide +kernel
theorem dR_place_244 : decode mR_place.2.1 244 = .ok (.aload_n 0, 1) := by decide +kernel
theorem dR_place_245 : decode mR_place.2.1 245 = .ok (.getfield 25, 3) := by decide +kernel
theorem dR_place_248 : decode mR_place.2.1 248 = .ok (.iload 8, 2) := by decide +kernel
theorem dR_place_250 : decode mR_place.2.1 250 = .ok (.iaload, 1) := by decide +kernel
theorem dR_place_251 : decode mR_place.2.1 251 = .ok (.ifCond .ne (14), 3) := by decide +kernel
theorem dR_place_254 : decode mR_place.2.1 254 = .ok (.aload_n 0, 1) := by decide +kernel
theorem dR_place_255 : decode mR_place.2.1 255 = .ok (.getfield 31, 3) := by decide +kernel
theorem dR_place_258 : decode mR_place.2.1 258 = .ok (.iload 8, 2) := by decide +kernel
theorem dR_place_260 : decode mR_place.2.1 260 = .ok (.iconst 1, 1) := by decide +kernel
theorem dR_place_261 : decode mR_place.2.1 261 = .ok (.iastore, 1) := by decide +kernel
theorem dR_place_262 : decode mR_place.2.1 262 = .ok (.goto (32), 3) := by decide +kernel
theorem dR_place_265 : decode mR_place.2.1 265 = .ok (.iload 6, 2) := by decide +kernel
theorem dR_place_267 : decode mR_place.2.1 267 = .ok (.iconst 1, 1) := by decide +kernel
theorem dR_place_268 : decode mR_place.2.1 268 = .ok (.if_icmp .eq (9), 3) := by decide +kernel
theorem dR_place_271 : decode mR_place.2.1 271 = .ok (.iload 6, 2) := by decide +kernel
theorem dR_place_273 : decode mR_place.2.1 273 = .ok (.iconst 3, 1) := by decide +kernel
theorem dR_place_274 : decode mR_place.2.1 274 = .ok (.if_icmp .ne (14), 3) := by decide +kernel
theorem dR_place_277 : decode mR_place.2.1 277 = .ok (.aload_n 0, 1) := by decide +kernel
theorem dR_place_278 : decode mR_place.2.1 278 = .ok (.getfield 31, 3) := by decide +kernel
theorem dR_place_281 : decode mR_place.2.1 281 = .ok (.iload 8, 2) := by decide +kernel
theorem dR_place_283 : decode mR_place.2.1 283 = .ok (.iconst 2, 1) := by decide +kernel
theorem dR_place_284 : decode mR_place.2.1 284 = .ok (.iastore, 1) := by decide +kernel
theorem dR_place_285 : decode mR_place.2.1 285 = .ok (.goto (9), 3) := by decide +kernel
theorem dR_place_288 : decode mR_place.2.1 288 = .ok (.aload_n 0, 1) := by decide +kernel
theorem dR_place_289 : decode mR_place.2.1 289 = .ok (.iload 8, 2) := by decide +kernel
theorem dR_place_291 : decode mR_place.2.1 291 = .ok (.invokevirtual 90, 3) := by decide +kernel
theorem dR_place_294 : decode mR_place.2.1 294 = .ok (.iload 8, 2) := by decide +kernel
theorem dR_place_296 : decode mR_place.2.1 296 = .ok (.ireturn, 1) := by decide +kernel
theorem dR_unfit_0 : decode mR_unfit.2.1 0 = .ok (.iconst 0, 1) := by decide +kernel
theorem dR_unfit_1 : decode mR_unfit.2.1 1 = .ok (.istore 7, 2) := by decide +kernel
theorem dR_unfit_3 : decode mR_unfit.2.1 3 = .ok (.iconst 0, 1) := by decide +kernel
theorem dR_unfit_4 : decode mR_unfit.2.1 4 = .ok (.istore 8, 2) := by decide +kernel
theorem dR_unfit_6 : decode mR_unfit.2.1 6 = .ok (.iconst 0, 1) := by decide +kernel
theorem dR_unfit_7 : decode mR_unfit.2.1 7 = .ok (.istore 9, 2) := by decide +kernel
theorem dR_unfit_9 : decode mR_unfit.2.1 9 = .ok (.iload 9, 2) := by decide +kernel
theorem dR_unfit_11 : decode mR_unfit.2.1 11 = .ok (.aload_n 0, 1) := by decide +kernel
theorem dR_unfit_12 : decode mR_unfit.2.1 12 = .ok (.getfield 57, 3) := by decide +kernel
theorem dR_unfit_15 : decode mR_unfit.2.1 15 = .ok (.if_icmp .ge (71), 3) := by decide +kernel
theorem dR_unfit_18 : decode mR_unfit.2.1 18 = .ok (.aload_n 0, 1) := by decide +kernel
theorem dR_unfit_19 : decode mR_unfit.2.1 19 = .ok (.iload 9, 2) := by decide +kernel
theorem dR_unfit_21 : decode mR_unfit.2.1 21 = .ok (.iload_n 2, 1) := by decide +kernel
theorem dR_unfit_22 : decode mR_unfit.2.1 22 = .ok (.iconst 1, 1) := by decide +kernel
theorem dR_unfit_23 : decode mR_unfit.2.1 23 = .ok (.iload 4, 2) := by decide +kernel
theorem dR_unfit_25 : decode mR_unfit.2.1 25 = .ok (.isub, 1) := by decide +kernel
theorem dR_unfit_26 : decode mR_unfit.2.1 26 = .ok (.invokevirtual 61, 3) := by decide +kernel
theorem dR_unfit_29 : decode mR_unfit.2.1 29 = .ok (.ifCond .eq (51), 3) := by decide +kernel
theorem dR_unfit_32 : decode mR_unfit.2.1 32 = .ok (.iload_n 3, 1) := by decide +kernel
theorem dR_unfit_33 : decode mR_unfit.2.1 33 = .ok (.iload 4, 2) := by decide +kernel
theorem dR_unfit_35 : decode mR_unfit.2.1 35 = .ok (.iload 5, 2) := by decide +kernel
theorem dR_unfit_37 : decode mR_unfit.2.1 37 = .ok (.aload_n 0, 1) := by decide +kernel
theorem dR_unfit_38 : decode mR_unfit.2.1 38 = .ok (.getfield 22, 3) := by decide +kernel
theorem dR_unfit_41 : decode mR_unfit.2.1 41 = .ok (.iload 9, 2) := by decide +kernel
theorem dR_unfit_43 : decode mR_unfit.2.1 43 = .ok (.iaload, 1) := by decide +kernel
theorem dR_unfit_44 : decode mR_unfit.2.1 44 = .ok (.invokestatic 78, 3) := by decide +kernel
theorem dR_unfit_47 : decode mR_unfit.2.1 47 = .ok (.ifCond .eq (33), 3) := by decide +kernel
theorem dR_unfit_50 : decode mR_unfit.2.1 50 = .ok (.iinc 7 (1), 3) := by decide +kernel
theorem dR_unfit_53 : decode mR_unfit.2.1 53 = .ok (.iload 8, 2) := by decide +kernel
theorem dR_unfit_55 : decode mR_unfit.2.1 55 = .ok (.aload_n 0, 1) := by decide +kernel
theorem dR_unfit_56 : decode mR_unfit.2.1 56 = .ok (.getfield 7, 3) := by decide +kernel
theorem dR_unfit_59 : decode mR_unfit.2.1 59 = .ok (.iload 9, 2) := by decide +kernel
theorem dR_unfit_61 : decode mR_unfit.2.1 61 = .ok (.iaload, 1) := by decide +kernel
theorem dR_unfit_62 : decode mR_unfit.2.1 62 = .ok (.iload_n 1, 1) := by decide +kernel
theorem dR_unfit_63 : decode mR_unfit.2.1 63 = .ok (.if_icmp .ne (7), 3) := by decide +kernel
theorem dR_unfit_66 : decode mR_unfit.2.1 66 = .ok (.iconst 0, 1) := by decide +kernel
theorem dR_unfit_67 : decode mR_unfit.2.1 67 = .ok (.goto (10), 3) := by decide +kernel
theorem dR_unfit_70 : decode mR_unfit.2.1 70 = .ok (.aload_n 0, 1) := by decide +kernel
theorem dR_unfit_71 : decode mR_unfit.2.1 71 = .ok (.getfield 25, 3) := by decide +kernel
theorem dR_unfit_74 : decode mR_unfit.2.1 74 = .ok (.iload 9, 2) := by decide +kernel
theorem dR_unfit_76 : decode mR_unfit.2.1 76 = .ok (.iaload, 1) := by decide +kernel
theorem dR_unfit_77 : decode mR_unfit.2.1 77 = .ok (.iadd, 1) := by decide +kernel
theorem dR_unfit_78 : decode mR_unfit.2.1 78 = .ok (.istore 8, 2) := by decide +kernel
theorem dR_unfit_80 : decode mR_unfit.2.1 80 = .ok (.iinc 9 (1), 3) := by decide +kernel
theorem dR_unfit_83 : decode mR_unfit.2.1 83 = .ok (.goto (-74), 3) := by decide +kernel
theorem dR_unfit_86 : decode mR_unfit.2.1 86 = .ok (.iload_n 3, 1) := by decide +kernel
theorem dR_unfit_87 : decode mR_unfit.2.1 87 = .ok (.iconst 4, 1) := by decide +kernel
theorem dR_unfit_88 : decode mR_unfit.2.1 88 = .ok (.if_icmp .ne (8), 3) := by decide +kernel
theorem dR_unfit_91 : decode mR_unfit.2.1 91 = .ok (.iload 7, 2) := by decide +kernel
theorem dR_unfit_93 : decode mR_unfit.2.1 93 = .ok (.ifCond .gt (15), 3) := by decide +kernel
theorem dR_unfit_96 : decode mR_unfit.2.1 96 = .ok (.iload_n 3, 1) := by decide +kernel
theorem dR_unfit_97 : decode mR_unfit.2.1 97 = .ok (.iconst 2, 1) := by decide +kernel
theorem dR_unfit_98 : decode mR_unfit.2.1 98 = .ok (.if_icmp .ne (14), 3) := by decide +kernel
theorem dR_unfit_101 : decode mR_unfit.2.1 101 = .ok (.iload 8, 2) := by decide +kernel
theorem dR_unfit_103 : decode mR_unfit.2.1 103 = .ok (.iload 6, 2) := by decide +kernel
theorem dR_unfit_105 : decode mR_unfit.2.1 105 = .ok (.if_icmp .ge (7), 3) := by decide +kernel
theorem dR_unfit_108 : decode mR_unfit.2.1 108 = .ok (.iconst 1, 1) := by decide +kernel
theorem dR_unfit_109 : decode mR_unfit.2.1 109 = .ok (.goto (4), 3) := by decide +kernel
theorem dR_unfit_112 : decode mR_unfit.2.1 112 = .ok (.iconst 0, 1) := by decide +kernel
theorem dR_unfit_113 : decode mR_unfit.2.1 113 = .ok (.ireturn, 1) := by decide +kernel
theorem dR_waits_0 : decode mR_waits.2.1 0 = .ok (.aload_n 0, 1) := by decide +kernel
theorem dR_waits_1 : decode mR_waits.2.1 1 = .ok (.getfield 31, 3) := by decide +kernel
theorem dR_waits_4 : decode mR_waits.2.1 4 = .ok (.iload_n 1, 1) := by decide +kernel
theorem dR_waits_5 : decode mR_waits.2.1 5 = .ok (.iaload, 1) := by decide +kernel
theorem dR_waits_6 : decode mR_waits.2.1 6 = .ok (.ifCond .ne (27), 3) := by decide +kernel
theorem dR_waits_9 : decode mR_waits.2.1 9 = .ok (.aload_n 0, 1) := by decide +kernel
theorem dR_waits_10 : decode mR_waits.2.1 10 = .ok (.getfield 13, 3) := by decide +kernel
theorem dR_waits_13 : decode mR_waits.2.1 13 = .ok (.iload_n 1, 1) := by decide +kernel
theorem dR_waits_14 : decode mR_waits.2.1 14 = .ok (.iaload, 1) := by decide +kernel
theorem dR_waits_15 : decode mR_waits.2.1 15 = .ok (.iload_n 2, 1) := by decide +kernel
theorem dR_waits_16 : decode mR_waits.2.1 16 = .ok (.if_icmp .ne (17), 3) := by decide +kernel
theorem dR_waits_19 : decode mR_waits.2.1 19 = .ok (.aload_n 0, 1) := by decide +kernel
theorem dR_waits_20 : decode mR_waits.2.1 20 = .ok (.getfield 16, 3) := by decide +kernel
theorem dR_waits_23 : decode mR_waits.2.1 23 = .ok (.iload_n 1, 1) := by decide +kernel
theorem dR_waits_24 : decode mR_waits.2.1 24 = .ok (.iaload, 1) := by decide +kernel
theorem dR_waits_25 : decode mR_waits.2.1 25 = .ok (.iload_n 3, 1) := by decide +kernel
theorem dR_waits_26 : decode mR_waits.2.1 26 = .ok (.if_icmp .ne (7), 3) := by decide +kernel
theorem dR_waits_29 : decode mR_waits.2.1 29 = .ok (.iconst 1, 1) := by decide +kernel
theorem dR_waits_30 : decode mR_waits.2.1 30 = .ok (.goto (4), 3) := by decide +kernel
theorem dR_waits_33 : decode mR_waits.2.1 33 = .ok (.iconst 0, 1) := by decide +kernel
theorem dR_waits_34 : decode mR_waits.2.1 34 = .ok (.ireturn, 1) := by decide +kernel
theorem dR_good_0 : decode mR_good.2.1 0 = .ok (.iload_n 0, 1) := by decide +kernel
theorem dR_good_1 : decode mR_good.2.1 1 = .ok (.iconst 3, 1) := by decide +kernel
theorem dR_good_2 : decode mR_good.2.1 2 = .ok (.if_icmp .eq (20), 3) := by decide +kernel
theorem dR_good_5 : decode mR_good.2.1 5 = .ok (.iload_n 1, 1) := by decide +kernel
theorem dR_good_6 : decode mR_good.2.1 6 = .ok (.ifCond .ne (11), 3) := by decide +kernel
theorem dR_good_9 : decode mR_good.2.1 9 = .ok (.iload_n 3, 1) := by decide +kernel
theorem dR_good_10 : decode mR_good.2.1 10 = .ok (.iload_n 2, 1) := by decide +kernel
theorem dR_good_11 : decode mR_good.2.1 11 = .ok (.if_icmp .gt (15), 3) := by decide +kernel
theorem dR_good_14 : decode mR_good.2.1 14 = .ok (.goto (8), 3) := by decide +kernel
theorem dR_good_17 : decode mR_good.2.1 17 = .ok (.iload_n 3, 1) := by decide +kernel
theorem dR_good_18 : decode mR_good.2.1 18 = .ok (.iload_n 2, 1) := by decide +kernel
theorem dR_good_19 : decode mR_good.2.1 19 = .ok (.if_icmp .lt (7), 3) := by decide +kernel
theorem dR_good_22 : decode mR_good.2.1 22 = .ok (.iconst 1, 1) := by decide +kernel
theorem dR_good_23 : decode mR_good.2.1 23 = .ok (.goto (4), 3) := by decide +kernel
theorem dR_good_26 : decode mR_good.2.1 26 = .ok (.iconst 0, 1) := by decide +kernel
theorem dR_good_27 : decode mR_good.2.1 27 = .ok (.ireturn, 1) := by decide +kernel
theorem dR_meet_0 : decode mR_meet.2.1 0 = .ok (.aload_n 0, 1) := by decide +kernel
theorem dR_meet_1 : decode mR_meet.2.1 1 = .ok (.aload_n 0, 1) := by decide +kernel
theorem dR_meet_2 : decode mR_meet.2.1 2 = .ok (.getfield 13, 3) := by decide +kernel
theorem dR_meet_5 : decode mR_meet.2.1 5 = .ok (.iload_n 1, 1) := by decide +kernel
theorem dR_meet_6 : decode mR_meet.2.1 6 = .ok (.iaload, 1) := by decide +kernel
theorem dR_meet_7 : decode mR_meet.2.1 7 = .ok (.iconst 1, 1) := by decide +kernel
theorem dR_meet_8 : decode mR_meet.2.1 8 = .ok (.aload_n 0, 1) := by decide +kernel
theorem dR_meet_9 : decode mR_meet.2.1 9 = .ok (.getfield 16, 3) := by decide +kernel
theorem dR_meet_12 : decode mR_meet.2.1 12 = .ok (.iload_n 1, 1) := by decide +kernel
theorem dR_meet_13 : decode mR_meet.2.1 13 = .ok (.iaload, 1) := by decide +kernel
theorem dR_meet_14 : decode mR_meet.2.1 14 = .ok (.isub, 1) := by decide +kernel
theorem dR_meet_15 : decode mR_meet.2.1 15 = .ok (.invokevirtual 74, 3) := by decide +kernel
theorem dR_meet_18 : decode mR_meet.2.1 18 = .ok (.istore_n 2, 1) := by decide +kernel
theorem dR_meet_19 : decode mR_meet.2.1 19 = .ok (.aload_n 0, 1) := by decide +kernel
theorem dR_meet_20 : decode mR_meet.2.1 20 = .ok (.getfield 25, 3) := by decide +kernel
theorem dR_meet_23 : decode mR_meet.2.1 23 = .ok (.iload_n 1, 1) := by decide +kernel
theorem dR_meet_24 : decode mR_meet.2.1 24 = .ok (.iaload, 1) := by decide +kernel
theorem dR_meet_25 : decode mR_meet.2.1 25 = .ok (.ifCond .eq (37), 3) := by decide +kernel
theorem dR_meet_28 : decode mR_meet.2.1 28 = .ok (.iload_n 2, 1) := by decide +kernel
theorem dR_meet_29 : decode mR_meet.2.1 29 = .ok (.ifCond .lt (33), 3) := by decide +kernel
theorem dR_meet_32 : decode mR_meet.2.1 32 = .ok (.aload_n 0, 1) := by decide +kernel
theorem dR_meet_33 : decode mR_meet.2.1 33 = .ok (.getfield 19, 3) := by decide +kernel
theorem dR_meet_36 : decode mR_meet.2.1 36 = .ok (.iload_n 1, 1) := by decide +kernel
theorem dR_meet_37 : decode mR_meet.2.1 37 = .ok (.iaload, 1) := by decide +kernel
theorem dR_meet_38 : decode mR_meet.2.1 38 = .ok (.aload_n 0, 1) := by decide +kernel
theorem dR_meet_39 : decode mR_meet.2.1 39 = .ok (.getfield 16, 3) := by decide +kernel
theorem dR_meet_42 : decode mR_meet.2.1 42 = .ok (.iload_n 1, 1) := by decide +kernel
theorem dR_meet_43 : decode mR_meet.2.1 43 = .ok (.iaload, 1) := by decide +kernel
theorem dR_meet_44 : decode mR_meet.2.1 44 = .ok (.aload_n 0, 1) := by decide +kernel
theorem dR_meet_45 : decode mR_meet.2.1 45 = .ok (.getfield 22, 3) := by decide +kernel
theorem dR_meet_48 : decode mR_meet.2.1 48 = .ok (.iload_n 1, 1) := by decide +kernel
theorem dR_meet_49 : decode mR_meet.2.1 49 = .ok (.iaload, 1) := by decide +kernel
theorem dR_meet_50 : decode mR_meet.2.1 50 = .ok (.aload_n 0, 1) := by decide +kernel
theorem dR_meet_51 : decode mR_meet.2.1 51 = .ok (.getfield 22, 3) := by decide +kernel
theorem dR_meet_54 : decode mR_meet.2.1 54 = .ok (.iload_n 2, 1) := by decide +kernel
theorem dR_meet_55 : decode mR_meet.2.1 55 = .ok (.iaload, 1) := by decide +kernel
theorem dR_meet_56 : decode mR_meet.2.1 56 = .ok (.invokestatic 78, 3) := by decide +kernel
theorem dR_meet_59 : decode mR_meet.2.1 59 = .ok (.ifCond .ne (5), 3) := by decide +kernel
theorem dR_meet_62 : decode mR_meet.2.1 62 = .ok (.iconst 0, 1) := by decide +kernel
theorem dR_meet_63 : decode mR_meet.2.1 63 = .ok (.ireturn, 1) := by decide +kernel
theorem dR_meet_64 : decode mR_meet.2.1 64 = .ok (.aload_n 0, 1) := by decide +kernel
theorem dR_meet_65 : decode mR_meet.2.1 65 = .ok (.getfield 7, 3) := by decide +kernel
theorem dR_meet_68 : decode mR_meet.2.1 68 = .ok (.iload_n 2, 1) := by decide +kernel
theorem dR_meet_69 : decode mR_meet.2.1 69 = .ok (.iaload, 1) := by decide +kernel
theorem dR_meet_70 : decode mR_meet.2.1 70 = .ok (.aload_n 0, 1) := by decide +kernel
theorem dR_meet_71 : decode mR_meet.2.1 71 = .ok (.getfield 7, 3) := by decide +kernel
theorem dR_meet_74 : decode mR_meet.2.1 74 = .ok (.iload_n 1, 1) := by decide +kernel
theorem dR_meet_75 : decode mR_meet.2.1 75 = .ok (.iaload, 1) := by decide +kernel
theorem dR_meet_76 : decode mR_meet.2.1 76 = .ok (.if_icmp .ne (12), 3) := by decide +kernel
theorem dR_meet_79 : decode mR_meet.2.1 79 = .ok (.aload_n 0, 1) := by decide +kernel
theorem dR_meet_80 : decode mR_meet.2.1 80 = .ok (.getfield 31, 3) := by decide +kernel
theorem dR_meet_83 : decode mR_meet.2.1 83 = .ok (.iload_n 2, 1) := by decide +kernel
theorem dR_meet_84 : decode mR_meet.2.1 84 = .ok (.iconst 2, 1) := by decide +kernel
theorem dR_meet_85 : decode mR_meet.2.1 85 = .ok (.iastore, 1) := by decide +kernel
theorem dR_meet_86 : decode mR_meet.2.1 86 = .ok (.iconst 1, 1) := by decide +kernel
theorem dR_meet_87 : decode mR_meet.2.1 87 = .ok (.ireturn, 1) := by decide +kernel
theorem dR_meet_88 : decode mR_meet.2.1 88 = .ok (.aload_n 0, 1) := by decide +kernel
theorem dR_meet_89 : decode mR_meet.2.1 89 = .ok (.getfield 25, 3) := by decide +kernel
theorem dR_meet_92 : decode mR_meet.2.1 92 = .ok (.iload_n 1, 1) := by decide +kernel
theorem dR_meet_93 : decode mR_meet.2.1 93 = .ok (.iaload, 1) := by decide +kernel
theorem dR_meet_94 : decode mR_meet.2.1 94 = .ok (.aload_n 0, 1) := by decide +kernel
theorem dR_meet_95 : decode mR_meet.2.1 95 = .ok (.iload_n 2, 1) := by decide +kernel
theorem dR_meet_96 : decode mR_meet.2.1 96 = .ok (.invokevirtual 82, 3) := by decide +kernel
theorem dR_meet_99 : decode mR_meet.2.1 99 = .ok (.if_icmp .ge (12), 3) := by decide +kernel
theorem dR_meet_102 : decode mR_meet.2.1 102 = .ok (.aload_n 0, 1) := by decide +kernel
theorem dR_meet_103 : decode mR_meet.2.1 103 = .ok (.getfield 25, 3) := by decide +kernel
theorem dR_meet_106 : decode mR_meet.2.1 106 = .ok (.iload_n 1, 1) := by decide +kernel
theorem dR_meet_107 : decode mR_meet.2.1 107 = .ok (.iaload, 1) := by decide +kernel
theorem dR_meet_108 : decode mR_meet.2.1 108 = .ok (.goto (8), 3) := by decide +kernel
theorem dR_meet_111 : decode mR_meet.2.1 111 = .ok (.aload_n 0, 1) := by decide +kernel
theorem dR_meet_112 : decode mR_meet.2.1 112 = .ok (.iload_n 2, 1) := by decide +kernel
theorem dR_meet_113 : decode mR_meet.2.1 113 = .ok (.invokevirtual 82, 3) := by decide +kernel
theorem dR_meet_116 : decode mR_meet.2.1 116 = .ok (.istore_n 3, 1) := by decide +kernel
theorem dR_meet_117 : decode mR_meet.2.1 117 = .ok (.aload_n 0, 1) := by decide +kernel
theorem dR_meet_118 : decode mR_meet.2.1 118 = .ok (.aload_n 0, 1) := by decide +kernel
theorem dR_meet_119 : decode mR_meet.2.1 119 = .ok (.getfield 16, 3) := by decide +kernel
theorem dR_meet_122 : decode mR_meet.2.1 122 = .ok (.iload_n 1, 1) := by decide +kernel
theorem dR_meet_123 : decode mR_meet.2.1 123 = .ok (.iaload, 1) := by decide +kernel
theorem dR_meet_124 : decode mR_meet.2.1 124 = .ok (.ifCond .ne (7), 3) := by decide +kernel
theorem dR_meet_127 : decode mR_meet.2.1 127 = .ok (.iload_n 1, 1) := by decide +kernel
theorem dR_meet_128 : decode mR_meet.2.1 128 = .ok (.goto (4), 3) := by decide +kernel
theorem dR_meet_131 : decode mR_meet.2.1 131 = .ok (.iload_n 2, 1) := by decide +kernel
theorem dR_meet_132 : decode mR_meet.2.1 132 = .ok (.aload_n 0, 1) := by decide +kernel
theorem dR_meet_133 : decode mR_meet.2.1 133 = .ok (.getfield 16, 3) := by decide +kernel
theorem dR_meet_136 : decode mR_meet.2.1 136 = .ok (.iload_n 1, 1) := by decide +kernel
theorem dR_meet_137 : decode mR_meet.2.1 137 = .ok (.iaload, 1) := by decide +kernel
theorem dR_meet_138 : decode mR_meet.2.1 138 = .ok (.ifCond .ne (7), 3) := by decide +kernel
theorem dR_meet_141 : decode mR_meet.2.1 141 = .ok (.iload_n 2, 1) := by decide +kernel
theorem dR_meet_142 : decode mR_meet.2.1 142 = .ok (.goto (4), 3) := by decide +kernel
theorem dR_meet_145 : decode mR_meet.2.1 145 = .ok (.iload_n 1, 1) := by decide +kernel
theorem dR_meet_146 : decode mR_meet.2.1 146 = .ok (.aload_n 0, 1) := by decide +kernel
theorem dR_meet_147 : decode mR_meet.2.1 147 = .ok (.getfield 22, 3) := by decide +kernel
theorem dR_meet_150 : decode mR_meet.2.1 150 = .ok (.iload_n 2, 1) := by decide +kernel
theorem dR_meet_151 : decode mR_meet.2.1 151 = .ok (.iaload, 1) := by decide +kernel
theorem dR_meet_152 : decode mR_meet.2.1 152 = .ok (.iload_n 3, 1) := by decide +kernel
theorem dR_meet_153 : decode mR_meet.2.1 153 = .ok (.invokevirtual 86, 3) := by decide +kernel
theorem dR_meet_156 : decode mR_meet.2.1 156 = .ok (.aload_n 0, 1) := by decide +kernel
theorem dR_meet_157 : decode mR_meet.2.1 157 = .ok (.getfield 28, 3) := by decide +kernel
theorem dR_meet_160 : decode mR_meet.2.1 160 = .ok (.iload_n 2, 1) := by decide +kernel
theorem dR_meet_161 : decode mR_meet.2.1 161 = .ok (.dup2, 1) := by decide +kernel
theorem dR_meet_162 : decode mR_meet.2.1 162 = .ok (.iaload, 1) := by decide +kernel
theorem dR_meet_163 : decode mR_meet.2.1 163 = .ok (.iload_n 3, 1) := by decide +kernel
theorem dR_meet_164 : decode mR_meet.2.1 164 = .ok (.isub, 1) := by decide +kernel
theorem dR_meet_165 : decode mR_meet.2.1 165 = .ok (.iastore, 1) := by decide +kernel
theorem dR_meet_166 : decode mR_meet.2.1 166 = .ok (.aload_n 0, 1) := by decide +kernel
theorem dR_meet_167 : decode mR_meet.2.1 167 = .ok (.getfield 25, 3) := by decide +kernel
theorem dR_meet_170 : decode mR_meet.2.1 170 = .ok (.iload_n 2, 1) := by decide +kernel
theorem dR_meet_171 : decode mR_meet.2.1 171 = .ok (.iaload, 1) := by decide +kernel
theorem dR_meet_172 : decode mR_meet.2.1 172 = .ok (.ifCond .ne (13), 3) := by decide +kernel
theorem dR_meet_175 : decode mR_meet.2.1 175 = .ok (.aload_n 0, 1) := by decide +kernel
theorem dR_meet_176 : decode mR_meet.2.1 176 = .ok (.getfield 31, 3) := by decide +kernel
theorem dR_meet_179 : decode mR_meet.2.1 179 = .ok (.iload_n 2, 1) := by decide +kernel
theorem dR_meet_180 : decode mR_meet.2.1 180 = .ok (.iconst 1, 1) := by decide +kernel
theorem dR_meet_181 : decode mR_meet.2.1 181 = .ok (.iastore, 1) := by decide +kernel
theorem dR_meet_182 : decode mR_meet.2.1 182 = .ok (.goto (27), 3) := by decide +kernel
theorem dR_meet_185 : decode mR_meet.2.1 185 = .ok (.aload_n 0, 1) := by decide +kernel
theorem dR_meet_186 : decode mR_meet.2.1 186 = .ok (.getfield 19, 3) := by decide +kernel
theorem dR_meet_189 : decode mR_meet.2.1 189 = .ok (.iload_n 2, 1) := by decide +kernel
theorem dR_meet_190 : decode mR_meet.2.1 190 = .ok (.iaload, 1) := by decide +kernel
theorem dR_meet_191 : decode mR_meet.2.1 191 = .ok (.iconst 5, 1) := by decide +kernel
theorem dR_meet_192 : decode mR_meet.2.1 192 = .ok (.if_icmp .ne (17), 3) := by decide +kernel
theorem dR_meet_195 : decode mR_meet.2.1 195 = .ok (.aload_n 0, 1) := by decide +kernel
theorem dR_meet_196 : decode mR_meet.2.1 196 = .ok (.getfield 28, 3) := by decide +kernel
theorem dR_meet_199 : decode mR_meet.2.1 199 = .ok (.iload_n 2, 1) := by decide +kernel
theorem dR_meet_200 : decode mR_meet.2.1 200 = .ok (.iaload, 1) := by decide +kernel
theorem dR_meet_201 : decode mR_meet.2.1 201 = .ok (.ifCond .ne (8), 3) := by decide +kernel
theorem dR_meet_204 : decode mR_meet.2.1 204 = .ok (.aload_n 0, 1) := by decide +kernel
theorem dR_meet_205 : decode mR_meet.2.1 205 = .ok (.iload_n 2, 1) := by decide +kernel
theorem dR_meet_206 : decode mR_meet.2.1 206 = .ok (.invokevirtual 90, 3) := by decide +kernel
theorem dR_meet_209 : decode mR_meet.2.1 209 = .ok (.iconst 1, 1) := by decide +kernel
theorem dR_meet_210 : decode mR_meet.2.1 210 = .ok (.ireturn, 1) := by decide +kernel
theorem dR_front_0 : decode mR_front.2.1 0 = .ok (.iconst (-1), 1) := by decide +kernel
theorem dR_front_1 : decode mR_front.2.1 1 = .ok (.istore_n 3, 1) := by decide +kernel
theorem dR_front_2 : decode mR_front.2.1 2 = .ok (.iconst 0, 1) := by decide +kernel
theorem dR_front_3 : decode mR_front.2.1 3 = .ok (.istore 4, 2) := by decide +kernel
theorem dR_front_5 : decode mR_front.2.1 5 = .ok (.iload 4, 2) := by decide +kernel
theorem dR_front_7 : decode mR_front.2.1 7 = .ok (.aload_n 0, 1) := by decide +kernel
theorem dR_front_8 : decode mR_front.2.1 8 = .ok (.getfield 57, 3) := by decide +kernel
theorem dR_front_11 : decode mR_front.2.1 11 = .ok (.if_icmp .ge (79), 3) := by decide +kernel
theorem dR_front_14 : decode mR_front.2.1 14 = .ok (.aload_n 0, 1) := by decide +kernel
theorem dR_front_15 : decode mR_front.2.1 15 = .ok (.iload 4, 2) := by decide +kernel
theorem dR_front_17 : decode mR_front.2.1 17 = .ok (.iload_n 1, 1) := by decide +kernel
theorem dR_front_18 : decode mR_front.2.1 18 = .ok (.iload_n 2, 1) := by decide +kernel
theorem dR_front_19 : decode mR_front.2.1 19 = .ok (.invokevirtual 61, 3) := by decide +kernel
theorem dR_front_22 : decode mR_front.2.1 22 = .ok (.ifCond .eq (62), 3) := by decide +kernel
theorem dR_front_25 : decode mR_front.2.1 25 = .ok (.iload_n 3, 1) := by decide +kernel
theorem dR_front_26 : decode mR_front.2.1 26 = .ok (.ifCond .lt (55), 3) := by decide +kernel
theorem dR_front_29 : decode mR_front.2.1 29 = .ok (.iload_n 2, 1) := by decide +kernel
theorem dR_front_30 : decode mR_front.2.1 30 = .ok (.aload_n 0, 1) := by decide +kernel
theorem dR_front_31 : decode mR_front.2.1 31 = .ok (.getfield 22, 3) := by decide +kernel
theorem dR_front_34 : decode mR_front.2.1 34 = .ok (.iload 4, 2) := by decide +kernel
theorem dR_front_36 : decode mR_front.2.1 36 = .ok (.iaload, 1) := by decide +kernel
theorem dR_front_37 : decode mR_front.2.1 37 = .ok (.aload_n 0, 1) := by decide +kernel
theorem dR_front_38 : decode mR_front.2.1 38 = .ok (.getfield 22, 3) := by decide +kernel
theorem dR_front_41 : decode mR_front.2.1 41 = .ok (.iload_n 3, 1) := by decide +kernel
theorem dR_front_42 : decode mR_front.2.1 42 = .ok (.iaload, 1) := by decide +kernel
theorem dR_front_43 : decode mR_front.2.1 43 = .ok (.invokestatic 65, 3) := by decide +kernel
theorem dR_front_46 : decode mR_front.2.1 46 = .ok (.ifCond .ne (35), 3) := by decide +kernel
theorem dR_front_49 : decode mR_front.2.1 49 = .ok (.aload_n 0, 1) := by decide +kernel
theorem dR_front_50 : decode mR_front.2.1 50 = .ok (.getfield 22, 3) := by decide +kernel
theorem dR_front_53 : decode mR_front.2.1 53 = .ok (.iload 4, 2) := by decide +kernel
theorem dR_front_55 : decode mR_front.2.1 55 = .ok (.iaload, 1) := by decide +kernel
theorem dR_front_56 : decode mR_front.2.1 56 = .ok (.aload_n 0, 1) := by decide +kernel
theorem dR_front_57 : decode mR_front.2.1 57 = .ok (.getfield 22, 3) := by decide +kernel
theorem dR_front_60 : decode mR_front.2.1 60 = .ok (.iload_n 3, 1) := by decide +kernel
theorem dR_front_61 : decode mR_front.2.1 61 = .ok (.iaload, 1) := by decide +kernel
theorem dR_front_62 : decode mR_front.2.1 62 = .ok (.if_icmp .ne (22), 3) := by decide +kernel
theorem dR_front_65 : decode mR_front.2.1 65 = .ok (.aload_n 0, 1) := by decide +kernel
theorem dR_front_66 : decode mR_front.2.1 66 = .ok (.getfield 34, 3) := by decide +kernel
theorem dR_front_69 : decode mR_front.2.1 69 = .ok (.iload 4, 2) := by decide +kernel
theorem dR_front_71 : decode mR_front.2.1 71 = .ok (.iaload, 1) := by decide +kernel
theorem dR_front_72 : decode mR_front.2.1 72 = .ok (.aload_n 0, 1) := by decide +kernel
theorem dR_front_73 : decode mR_front.2.1 73 = .ok (.getfield 34, 3) := by decide +kernel
theorem dR_front_76 : decode mR_front.2.1 76 = .ok (.iload_n 3, 1) := by decide +kernel
theorem dR_front_77 : decode mR_front.2.1 77 = .ok (.iaload, 1) := by decide +kernel
theorem dR_front_78 : decode mR_front.2.1 78 = .ok (.if_icmp .ge (6), 3) := by decide +kernel
theorem dR_front_81 : decode mR_front.2.1 81 = .ok (.iload 4, 2) := by decide +kernel
theorem dR_front_83 : decode mR_front.2.1 83 = .ok (.istore_n 3, 1) := by decide +kernel
theorem dR_front_84 : decode mR_front.2.1 84 = .ok (.iinc 4 (1), 3) := by decide +kernel
theorem dR_front_87 : decode mR_front.2.1 87 = .ok (.goto (-82), 3) := by decide +kernel
theorem dR_front_90 : decode mR_front.2.1 90 = .ok (.iload_n 3, 1) := by decide +kernel
theorem dR_front_91 : decode mR_front.2.1 91 = .ok (.ireturn, 1) := by decide +kernel
theorem dR_better_0 : decode mR_better.2.1 0 = .ok (.iload_n 0, 1) := by decide +kernel
theorem dR_better_1 : decode mR_better.2.1 1 = .ok (.ifCond .ne (16), 3) := by decide +kernel
theorem dR_better_4 : decode mR_better.2.1 4 = .ok (.iload_n 1, 1) := by decide +kernel
theorem dR_better_5 : decode mR_better.2.1 5 = .ok (.iload_n 2, 1) := by decide +kernel
theorem dR_better_6 : decode mR_better.2.1 6 = .ok (.if_icmp .le (7), 3) := by decide +kernel
theorem dR_better_9 : decode mR_better.2.1 9 = .ok (.iconst 1, 1) := by decide +kernel
theorem dR_better_10 : decode mR_better.2.1 10 = .ok (.goto (17), 3) := by decide +kernel
theorem dR_better_13 : decode mR_better.2.1 13 = .ok (.iconst 0, 1) := by decide +kernel
theorem dR_better_14 : decode mR_better.2.1 14 = .ok (.goto (13), 3) := by decide +kernel
theorem dR_better_17 : decode mR_better.2.1 17 = .ok (.iload_n 1, 1) := by decide +kernel
theorem dR_better_18 : decode mR_better.2.1 18 = .ok (.iload_n 2, 1) := by decide +kernel
theorem dR_better_19 : decode mR_better.2.1 19 = .ok (.if_icmp .ge (7), 3) := by decide +kernel
theorem dR_better_22 : decode mR_better.2.1 22 = .ok (.iconst 1, 1) := by decide +kernel
theorem dR_better_23 : decode mR_better.2.1 23 = .ok (.goto (4), 3) := by decide +kernel
theorem dR_better_26 : decode mR_better.2.1 26 = .ok (.iconst 0, 1) := by decide +kernel
theorem dR_better_27 : decode mR_better.2.1 27 = .ok (.ireturn, 1) := by decide +kernel
theorem dR_shows_0 : decode mR_shows.2.1 0 = .ok (.aload_n 0, 1) := by decide +kernel
theorem dR_shows_1 : decode mR_shows.2.1 1 = .ok (.getfield 19, 3) := by decide +kernel
theorem dR_shows_4 : decode mR_shows.2.1 4 = .ok (.iload_n 1, 1) := by decide +kernel
theorem dR_shows_5 : decode mR_shows.2.1 5 = .ok (.iaload, 1) := by decide +kernel
theorem dR_shows_6 : decode mR_shows.2.1 6 = .ok (.iconst 5, 1) := by decide +kernel
theorem dR_shows_7 : decode mR_shows.2.1 7 = .ok (.if_icmp .ne (12), 3) := by decide +kernel
theorem dR_shows_10 : decode mR_shows.2.1 10 = .ok (.aload_n 0, 1) := by decide +kernel
theorem dR_shows_11 : decode mR_shows.2.1 11 = .ok (.getfield 28, 3) := by decide +kernel
theorem dR_shows_14 : decode mR_shows.2.1 14 = .ok (.iload_n 1, 1) := by decide +kernel
theorem dR_shows_15 : decode mR_shows.2.1 15 = .ok (.iaload, 1) := by decide +kernel
theorem dR_shows_16 : decode mR_shows.2.1 16 = .ok (.goto (9), 3) := by decide +kernel
theorem dR_shows_19 : decode mR_shows.2.1 19 = .ok (.aload_n 0, 1) := by decide +kernel
theorem dR_shows_20 : decode mR_shows.2.1 20 = .ok (.getfield 25, 3) := by decide +kernel
theorem dR_shows_23 : decode mR_shows.2.1 23 = .ok (.iload_n 1, 1) := by decide +kernel
theorem dR_shows_24 : decode mR_shows.2.1 24 = .ok (.iaload, 1) := by decide +kernel
theorem dR_shows_25 : decode mR_shows.2.1 25 = .ok (.ireturn, 1) := by decide +kernel
theorem dR_swap_0 : decode mR_swap.2.1 0 = .ok (.aload_n 0, 1) := by decide +kernel
theorem dR_swap_1 : decode mR_swap.2.1 1 = .ok (.getfield 13, 3) := by decide +kernel
theorem dR_swap_4 : decode mR_swap.2.1 4 = .ok (.iload_n 1, 1) := by decide +kernel
theorem dR_swap_5 : decode mR_swap.2.1 5 = .ok (.iaload, 1) := by decide +kernel
theorem dR_swap_6 : decode mR_swap.2.1 6 = .ok (.istore 5, 2) := by decide +kernel
theorem dR_swap_8 : decode mR_swap.2.1 8 = .ok (.aload_n 0, 1) := by decide +kernel
theorem dR_swap_9 : decode mR_swap.2.1 9 = .ok (.getfield 71, 3) := by decide +kernel
theorem dR_swap_12 : decode mR_swap.2.1 12 = .ok (.bipush (100), 2) := by decide +kernel
theorem dR_swap_14 : decode mR_swap.2.1 14 = .ok (.irem, 1) := by decide +kernel
theorem dR_swap_15 : decode mR_swap.2.1 15 = .ok (.iconst 4, 1) := by decide +kernel
theorem dR_swap_16 : decode mR_swap.2.1 16 = .ok (.imul, 1) := by decide +kernel
theorem dR_swap_17 : decode mR_swap.2.1 17 = .ok (.istore 6, 2) := by decide +kernel
theorem dR_swap_19 : decode mR_swap.2.1 19 = .ok (.aload_n 0, 1) := by decide +kernel
theorem dR_swap_20 : decode mR_swap.2.1 20 = .ok (.getfield 54, 3) := by decide +kernel
theorem dR_swap_23 : decode mR_swap.2.1 23 = .ok (.iload 6, 2) := by decide +kernel
theorem dR_swap_25 : decode mR_swap.2.1 25 = .ok (.iload_n 1, 1) := by decide +kernel
theorem dR_swap_26 : decode mR_swap.2.1 26 = .ok (.iastore, 1) := by decide +kernel
theorem dR_swap_27 : decode mR_swap.2.1 27 = .ok (.aload_n 0, 1) := by decide +kernel
theorem dR_swap_28 : decode mR_swap.2.1 28 = .ok (.getfield 54, 3) := by decide +kernel
theorem dR_swap_31 : decode mR_swap.2.1 31 = .ok (.iload 6, 2) := by decide +kernel
theorem dR_swap_33 : decode mR_swap.2.1 33 = .ok (.iconst 1, 1) := by decide +kernel
theorem dR_swap_34 : decode mR_swap.2.1 34 = .ok (.iadd, 1) := by decide +kernel
theorem dR_swap_35 : decode mR_swap.2.1 35 = .ok (.iload_n 2, 1) := by decide +kernel
theorem dR_swap_36 : decode mR_swap.2.1 36 = .ok (.iastore, 1) := by decide +kernel
theorem dR_swap_37 : decode mR_swap.2.1 37 = .ok (.aload_n 0, 1) := by decide +kernel
theorem dR_swap_38 : decode mR_swap.2.1 38 = .ok (.getfield 54, 3) := by decide +kernel
theorem dR_swap_41 : decode mR_swap.2.1 41 = .ok (.iload 6, 2) := by decide +kernel
theorem dR_swap_43 : decode mR_swap.2.1 43 = .ok (.iconst 2, 1) := by decide +kernel
theorem dR_swap_44 : decode mR_swap.2.1 44 = .ok (.iadd, 1) := by decide +kernel
theorem dR_swap_45 : decode mR_swap.2.1 45 = .ok (.iload_n 3, 1) := by decide +kernel
theorem dR_swap_46 : decode mR_swap.2.1 46 = .ok (.iastore, 1) := by decide +kernel
theorem dR_swap_47 : decode mR_swap.2.1 47 = .ok (.aload_n 0, 1) := by decide +kernel
theorem dR_swap_48 : decode mR_swap.2.1 48 = .ok (.getfield 54, 3) := by decide +kernel
theorem dR_swap_51 : decode mR_swap.2.1 51 = .ok (.iload 6, 2) := by decide +kernel
theorem dR_swap_53 : decode mR_swap.2.1 53 = .ok (.iconst 3, 1) := by decide +kernel
theorem dR_swap_54 : decode mR_swap.2.1 54 = .ok (.iadd, 1) := by decide +kernel
theorem dR_swap_55 : decode mR_swap.2.1 55 = .ok (.iload 4, 2) := by decide +kernel
theorem dR_swap_57 : decode mR_swap.2.1 57 = .ok (.iastore, 1) := by decide +kernel
theorem dR_swap_58 : decode mR_swap.2.1 58 = .ok (.aload_n 0, 1) := by decide +kernel
theorem dR_swap_59 : decode mR_swap.2.1 59 = .ok (.dup, 1) := by decide +kernel
theorem dR_swap_60 : decode mR_swap.2.1 60 = .ok (.getfield 71, 3) := by decide +kernel
theorem dR_swap_63 : decode mR_swap.2.1 63 = .ok (.iconst 1, 1) := by decide +kernel
theorem dR_swap_64 : decode mR_swap.2.1 64 = .ok (.iadd, 1) := by decide +kernel
theorem dR_swap_65 : decode mR_swap.2.1 65 = .ok (.putfield 71, 3) := by decide +kernel
theorem dR_swap_68 : decode mR_swap.2.1 68 = .ok (.aload_n 0, 1) := by decide +kernel
theorem dR_swap_69 : decode mR_swap.2.1 69 = .ok (.getfield 51, 3) := by decide +kernel
theorem dR_swap_72 : decode mR_swap.2.1 72 = .ok (.iload 5, 2) := by decide +kernel
theorem dR_swap_74 : decode mR_swap.2.1 74 = .ok (.iload_n 3, 1) := by decide +kernel
theorem dR_swap_75 : decode mR_swap.2.1 75 = .ok (.iastore, 1) := by decide +kernel
theorem dR_swap_76 : decode mR_swap.2.1 76 = .ok (.aload_n 0, 1) := by decide +kernel
theorem dR_swap_77 : decode mR_swap.2.1 77 = .ok (.getfield 25, 3) := by decide +kernel
theorem dR_swap_80 : decode mR_swap.2.1 80 = .ok (.iload_n 1, 1) := by decide +kernel
theorem dR_swap_81 : decode mR_swap.2.1 81 = .ok (.dup2, 1) := by decide +kernel
theorem dR_swap_82 : decode mR_swap.2.1 82 = .ok (.iaload, 1) := by decide +kernel
theorem dR_swap_83 : decode mR_swap.2.1 83 = .ok (.iload 4, 2) := by decide +kernel
theorem dR_swap_85 : decode mR_swap.2.1 85 = .ok (.isub, 1) := by decide +kernel
theorem dR_swap_86 : decode mR_swap.2.1 86 = .ok (.iastore, 1) := by decide +kernel
theorem dR_swap_87 : decode mR_swap.2.1 87 = .ok (.aload_n 0, 1) := by decide +kernel
theorem dR_swap_88 : decode mR_swap.2.1 88 = .ok (.getfield 25, 3) := by decide +kernel
theorem dR_swap_91 : decode mR_swap.2.1 91 = .ok (.iload_n 2, 1) := by decide +kernel
theorem dR_swap_92 : decode mR_swap.2.1 92 = .ok (.dup2, 1) := by decide +kernel
theorem dR_swap_93 : decode mR_swap.2.1 93 = .ok (.iaload, 1) := by decide +kernel
theorem dR_swap_94 : decode mR_swap.2.1 94 = .ok (.iload 4, 2) := by decide +kernel
theorem dR_swap_96 : decode mR_swap.2.1 96 = .ok (.isub, 1) := by decide +kernel
theorem dR_swap_97 : decode mR_swap.2.1 97 = .ok (.iastore, 1) := by decide +kernel
theorem dR_swap_98 : decode mR_swap.2.1 98 = .ok (.iload 4, 2) := by decide +kernel
theorem dR_swap_100 : decode mR_swap.2.1 100 = .ok (.i2l, 1) := by decide +kernel
theorem dR_swap_101 : decode mR_swap.2.1 101 = .ok (.iload_n 3, 1) := by decide +kernel
theorem dR_swap_102 : decode mR_swap.2.1 102 = .ok (.i2l, 1) := by decide +kernel
theorem dR_swap_103 : decode mR_swap.2.1 103 = .ok (.lmul, 1) := by decide +kernel
theorem dR_swap_104 : decode mR_swap.2.1 104 = .ok (.lstore 7, 2) := by decide +kernel
theorem dR_swap_106 : decode mR_swap.2.1 106 = .ok (.aload_n 0, 1) := by decide +kernel
theorem dR_swap_107 : decode mR_swap.2.1 107 = .ok (.getfield 44, 3) := by decide +kernel
theorem dR_swap_110 : decode mR_swap.2.1 110 = .ok (.iconst 2, 1) := by decide +kernel
theorem dR_swap_111 : decode mR_swap.2.1 111 = .ok (.aload_n 0, 1) := by decide +kernel
theorem dR_swap_112 : decode mR_swap.2.1 112 = .ok (.getfield 7, 3) := by decide +kernel
theorem dR_swap_115 : decode mR_swap.2.1 115 = .ok (.iload_n 1, 1) := by decide +kernel
theorem dR_swap_116 : decode mR_swap.2.1 116 = .ok (.iaload, 1) := by decide +kernel
theorem dR_swap_117 : decode mR_swap.2.1 117 = .ok (.imul, 1) := by decide +kernel
theorem dR_swap_118 : decode mR_swap.2.1 118 = .ok (.iload 5, 2) := by decide +kernel
theorem dR_swap_120 : decode mR_swap.2.1 120 = .ok (.iadd, 1) := by decide +kernel
theorem dR_swap_121 : decode mR_swap.2.1 121 = .ok (.dup2, 1) := by decide +kernel
theorem dR_swap_122 : decode mR_swap.2.1 122 = .ok (.iaload, 1) := by decide +kernel
theorem dR_swap_123 : decode mR_swap.2.1 123 = .ok (.iload 4, 2) := by decide +kernel
theorem dR_swap_125 : decode mR_swap.2.1 125 = .ok (.iadd, 1) := by decide +kernel
theorem dR_swap_126 : decode mR_swap.2.1 126 = .ok (.iastore, 1) := by decide +kernel
theorem dR_swap_127 : decode mR_swap.2.1 127 = .ok (.aload_n 0, 1) := by decide +kernel
theorem dR_swap_128 : decode mR_swap.2.1 128 = .ok (.getfield 44, 3) := by decide +kernel
theorem dR_swap_131 : decode mR_swap.2.1 131 = .ok (.iconst 2, 1) := by decide +kernel
theorem dR_swap_132 : decode mR_swap.2.1 132 = .ok (.aload_n 0, 1) := by decide +kernel
theorem dR_swap_133 : decode mR_swap.2.1 133 = .ok (.getfield 7, 3) := by decide +kernel
theorem dR_swap_136 : decode mR_swap.2.1 136 = .ok (.iload_n 2, 1) := by decide +kernel
theorem dR_swap_137 : decode mR_swap.2.1 137 = .ok (.iaload, 1) := by decide +kernel
theorem dR_swap_138 : decode mR_swap.2.1 138 = .ok (.imul, 1) := by decide +kernel
theorem dR_swap_139 : decode mR_swap.2.1 139 = .ok (.iload 5, 2) := by decide +kernel
theorem dR_swap_141 : decode mR_swap.2.1 141 = .ok (.iadd, 1) := by decide +kernel
theorem dR_swap_142 : decode mR_swap.2.1 142 = .ok (.dup2, 1) := by decide +kernel
theorem dR_swap_143 : decode mR_swap.2.1 143 = .ok (.iaload, 1) := by decide +kernel
theorem dR_swap_144 : decode mR_swap.2.1 144 = .ok (.iload 4, 2) := by decide +kernel
theorem dR_swap_146 : decode mR_swap.2.1 146 = .ok (.isub, 1) := by decide +kernel
theorem dR_swap_147 : decode mR_swap.2.1 147 = .ok (.iastore, 1) := by decide +kernel
theorem dR_swap_148 : decode mR_swap.2.1 148 = .ok (.aload_n 0, 1) := by decide +kernel
theorem dR_swap_149 : decode mR_swap.2.1 149 = .ok (.getfield 41, 3) := by decide +kernel
theorem dR_swap_152 : decode mR_swap.2.1 152 = .ok (.aload_n 0, 1) := by decide +kernel
theorem dR_swap_153 : decode mR_swap.2.1 153 = .ok (.getfield 7, 3) := by decide +kernel
theorem dR_swap_156 : decode mR_swap.2.1 156 = .ok (.iload_n 1, 1) := by decide +kernel
theorem dR_swap_157 : decode mR_swap.2.1 157 = .ok (.iaload, 1) := by decide +kernel
theorem dR_swap_158 : decode mR_swap.2.1 158 = .ok (.dup2, 1) := by decide +kernel
theorem dR_swap_159 : decode mR_swap.2.1 159 = .ok (.laload, 1) := by decide +kernel
theorem dR_swap_160 : decode mR_swap.2.1 160 = .ok (.lload 7, 2) := by decide +kernel
theorem dR_swap_162 : decode mR_swap.2.1 162 = .ok (.lsub, 1) := by decide +kernel
theorem dR_swap_163 : decode mR_swap.2.1 163 = .ok (.lastore, 1) := by decide +kernel
theorem dR_swap_164 : decode mR_swap.2.1 164 = .ok (.aload_n 0, 1) := by decide +kernel
theorem dR_swap_165 : decode mR_swap.2.1 165 = .ok (.getfield 41, 3) := by decide +kernel
theorem dR_swap_168 : decode mR_swap.2.1 168 = .ok (.aload_n 0, 1) := by decide +kernel
theorem dR_swap_169 : decode mR_swap.2.1 169 = .ok (.getfield 7, 3) := by decide +kernel
theorem dR_swap_172 : decode mR_swap.2.1 172 = .ok (.iload_n 2, 1) := by decide +kernel
theorem dR_swap_173 : decode mR_swap.2.1 173 = .ok (.iaload, 1) := by decide +kernel
theorem dR_swap_174 : decode mR_swap.2.1 174 = .ok (.dup2, 1) := by decide +kernel
theorem dR_swap_175 : decode mR_swap.2.1 175 = .ok (.laload, 1) := by decide +kernel
theorem dR_swap_176 : decode mR_swap.2.1 176 = .ok (.lload 7, 2) := by decide +kernel
theorem dR_swap_178 : decode mR_swap.2.1 178 = .ok (.ladd, 1) := by decide +kernel
theorem dR_swap_179 : decode mR_swap.2.1 179 = .ok (.lastore, 1) := by decide +kernel
theorem dR_swap_180 : decode mR_swap.2.1 180 = .ok (.return_, 1) := by decide +kernel
theorem dR_queue_0 : decode mR_queue.2.1 0 = .ok (.aload_n 0, 1) := by decide +kernel
theorem dR_queue_1 : decode mR_queue.2.1 1 = .ok (.getfield 31, 3) := by decide +kernel
theorem dR_queue_4 : decode mR_queue.2.1 4 = .ok (.iload_n 1, 1) := by decide +kernel
theorem dR_queue_5 : decode mR_queue.2.1 5 = .ok (.iconst 0, 1) := by decide +kernel
theorem dR_queue_6 : decode mR_queue.2.1 6 = .ok (.iastore, 1) := by decide +kernel
theorem dR_queue_7 : decode mR_queue.2.1 7 = .ok (.aload_n 0, 1) := by decide +kernel
theorem dR_queue_8 : decode mR_queue.2.1 8 = .ok (.getfield 34, 3) := by decide +kernel
theorem dR_queue_11 : decode mR_queue.2.1 11 = .ok (.iload_n 1, 1) := by decide +kernel
theorem dR_queue_12 : decode mR_queue.2.1 12 = .ok (.aload_n 0, 1) := by decide +kernel
theorem dR_queue_13 : decode mR_queue.2.1 13 = .ok (.getfield 68, 3) := by decide +kernel
theorem dR_queue_16 : decode mR_queue.2.1 16 = .ok (.iastore, 1) := by decide +kernel
theorem dR_queue_17 : decode mR_queue.2.1 17 = .ok (.aload_n 0, 1) := by decide +kernel
theorem dR_queue_18 : decode mR_queue.2.1 18 = .ok (.dup, 1) := by decide +kernel
theorem dR_queue_19 : decode mR_queue.2.1 19 = .ok (.getfield 68, 3) := by decide +kernel
theorem dR_queue_22 : decode mR_queue.2.1 22 = .ok (.iconst 1, 1) := by decide +kernel
theorem dR_queue_23 : decode mR_queue.2.1 23 = .ok (.iadd, 1) := by decide +kernel
theorem dR_queue_24 : decode mR_queue.2.1 24 = .ok (.putfield 68, 3) := by decide +kernel
theorem dR_queue_27 : decode mR_queue.2.1 27 = .ok (.aload_n 0, 1) := by decide +kernel
theorem dR_queue_28 : decode mR_queue.2.1 28 = .ok (.getfield 28, 3) := by decide +kernel
theorem dR_queue_31 : decode mR_queue.2.1 31 = .ok (.iload_n 1, 1) := by decide +kernel
theorem dR_queue_32 : decode mR_queue.2.1 32 = .ok (.aload_n 0, 1) := by decide +kernel
theorem dR_queue_33 : decode mR_queue.2.1 33 = .ok (.getfield 25, 3) := by decide +kernel
theorem dR_queue_36 : decode mR_queue.2.1 36 = .ok (.iload_n 1, 1) := by decide +kernel
theorem dR_queue_37 : decode mR_queue.2.1 37 = .ok (.iaload, 1) := by decide +kernel
theorem dR_queue_38 : decode mR_queue.2.1 38 = .ok (.iconst 5, 1) := by decide +kernel
theorem dR_queue_39 : decode mR_queue.2.1 39 = .ok (.if_icmp .ge (12), 3) := by decide +kernel
theorem dR_queue_42 : decode mR_queue.2.1 42 = .ok (.aload_n 0, 1) := by decide +kernel
theorem dR_queue_43 : decode mR_queue.2.1 43 = .ok (.getfield 25, 3) := by decide +kernel
theorem dR_queue_46 : decode mR_queue.2.1 46 = .ok (.iload_n 1, 1) := by decide +kernel
theorem dR_queue_47 : decode mR_queue.2.1 47 = .ok (.iaload, 1) := by decide +kernel
theorem dR_queue_48 : decode mR_queue.2.1 48 = .ok (.goto (4), 3) := by decide +kernel
theorem dR_queue_51 : decode mR_queue.2.1 51 = .ok (.iconst 5, 1) := by decide +kernel
theorem dR_queue_52 : decode mR_queue.2.1 52 = .ok (.iastore, 1) := by decide +kernel
theorem dR_queue_53 : decode mR_queue.2.1 53 = .ok (.return_, 1) := by decide +kernel
theorem dR_cancel_0 : decode mR_cancel.2.1 0 = .ok (.aload_n 0, 1) := by decide +kernel
theorem dR_cancel_1 : decode mR_cancel.2.1 1 = .ok (.iload_n 2, 1) := by decide +kernel
theorem dR_cancel_2 : decode mR_cancel.2.1 2 = .ok (.invokevirtual 118, 3) := by decide +kernel
theorem dR_cancel_5 : decode mR_cancel.2.1 5 = .ok (.ifCond .eq (13), 3) := by decide +kernel
theorem dR_cancel_8 : decode mR_cancel.2.1 8 = .ok (.aload_n 0, 1) := by decide +kernel
theorem dR_cancel_9 : decode mR_cancel.2.1 9 = .ok (.getfield 7, 3) := by decide +kernel
theorem dR_cancel_12 : decode mR_cancel.2.1 12 = .ok (.iload_n 2, 1) := by decide +kernel
theorem dR_cancel_13 : decode mR_cancel.2.1 13 = .ok (.iaload, 1) := by decide +kernel
theorem dR_cancel_14 : decode mR_cancel.2.1 14 = .ok (.iload_n 1, 1) := by decide +kernel
theorem dR_cancel_15 : decode mR_cancel.2.1 15 = .ok (.if_icmp .eq (5), 3) := by decide +kernel
theorem dR_cancel_18 : decode mR_cancel.2.1 18 = .ok (.iconst 0, 1) := by decide +kernel
theorem dR_cancel_19 : decode mR_cancel.2.1 19 = .ok (.ireturn, 1) := by decide +kernel
theorem dR_cancel_20 : decode mR_cancel.2.1 20 = .ok (.aload_n 0, 1) := by decide +kernel
theorem dR_cancel_21 : decode mR_cancel.2.1 21 = .ok (.getfield 31, 3) := by decide +kernel
theorem dR_cancel_24 : decode mR_cancel.2.1 24 = .ok (.iload_n 2, 1) := by decide +kernel
theorem dR_cancel_25 : decode mR_cancel.2.1 25 = .ok (.iconst 2, 1) := by decide +kernel
theorem dR_cancel_26 : decode mR_cancel.2.1 26 = .ok (.iastore, 1) := by decide +kernel
theorem dR_cancel_27 : decode mR_cancel.2.1 27 = .ok (.iconst 1, 1) := by decide +kernel
theorem dR_cancel_28 : decode mR_cancel.2.1 28 = .ok (.ireturn, 1) := by decide +kernel
theorem dR_isResting_0 : decode mR_isResting.2.1 0 = .ok (.iload_n 1, 1) := by decide +kernel
theorem dR_isResting_1 : decode mR_isResting.2.1 1 = .ok (.iconst 0, 1) := by decide +kernel
theorem dR_isResting_2 : decode mR_isResting.2.1 2 = .ok (.aload_n 0, 1) := by decide +kernel
theorem dR_isResting_3 : decode mR_isResting.2.1 3 = .ok (.getfield 57, 3) := by decide +kernel
theorem dR_isResting_6 : decode mR_isResting.2.1 6 = .ok (.iconst 1, 1) := by decide +kernel
theorem dR_isResting_7 : decode mR_isResting.2.1 7 = .ok (.isub, 1) := by decide +kernel
theorem dR_isResting_8 : decode mR_isResting.2.1 8 = .ok (.invokestatic 98, 3) := by decide +kernel
theorem dR_isResting_11 : decode mR_isResting.2.1 11 = .ok (.ifCond .ne (16), 3) := by decide +kernel
theorem dR_isResting_14 : decode mR_isResting.2.1 14 = .ok (.aload_n 0, 1) := by decide +kernel
theorem dR_isResting_15 : decode mR_isResting.2.1 15 = .ok (.getfield 31, 3) := by decide +kernel
theorem dR_isResting_18 : decode mR_isResting.2.1 18 = .ok (.iload_n 1, 1) := by decide +kernel
theorem dR_isResting_19 : decode mR_isResting.2.1 19 = .ok (.iaload, 1) := by decide +kernel
theorem dR_isResting_20 : decode mR_isResting.2.1 20 = .ok (.ifCond .ne (7), 3) := by decide +kernel
theorem dR_isResting_23 : decode mR_isResting.2.1 23 = .ok (.iconst 1, 1) := by decide +kernel
theorem dR_isResting_24 : decode mR_isResting.2.1 24 = .ok (.goto (4), 3) := by decide +kernel
theorem dR_isResting_27 : decode mR_isResting.2.1 27 = .ok (.iconst 0, 1) := by decide +kernel
theorem dR_isResting_28 : decode mR_isResting.2.1 28 = .ok (.ireturn, 1) := by decide +kernel
theorem dR_amend_0 : decode mR_amend.2.1 0 = .ok (.aload_n 0, 1) := by decide +kernel
theorem dR_amend_1 : decode mR_amend.2.1 1 = .ok (.iload_n 2, 1) := by decide +kernel
theorem dR_amend_2 : decode mR_amend.2.1 2 = .ok (.invokevirtual 118, 3) := by decide +kernel
theorem dR_amend_5 : decode mR_amend.2.1 5 = .ok (.ifCond .eq (13), 3) := by decide +kernel
theorem dR_amend_8 : decode mR_amend.2.1 8 = .ok (.aload_n 0, 1) := by decide +kernel
theorem dR_amend_9 : decode mR_amend.2.1 9 = .ok (.getfield 7, 3) := by decide +kernel
theorem dR_amend_12 : decode mR_amend.2.1 12 = .ok (.iload_n 2, 1) := by decide +kernel
theorem dR_amend_13 : decode mR_amend.2.1 13 = .ok (.iaload, 1) := by decide +kernel
theorem dR_amend_14 : decode mR_amend.2.1 14 = .ok (.iload_n 1, 1) := by decide +kernel
theorem dR_amend_15 : decode mR_amend.2.1 15 = .ok (.if_icmp .eq (6), 3) := by decide +kernel
theorem dR_amend_18 : decode mR_amend.2.1 18 = .ok (.bipush (-6), 2) := by decide +kernel
theorem dR_amend_20 : decode mR_amend.2.1 20 = .ok (.ireturn, 1) := by decide +kernel
theorem dR_amend_21 : decode mR_amend.2.1 21 = .ok (.iload_n 3, 1) := by decide +kernel
theorem dR_amend_22 : decode mR_amend.2.1 22 = .ok (.iconst 1, 1) := by decide +kernel
theorem dR_amend_23 : decode mR_amend.2.1 23 = .ok (.aload_n 0, 1) := by decide +kernel
theorem dR_amend_24 : decode mR_amend.2.1 24 = .ok (.getfield 25, 3) := by decide +kernel
theorem dR_amend_27 : decode mR_amend.2.1 27 = .ok (.iload_n 2, 1) := by decide +kernel
theorem dR_amend_28 : decode mR_amend.2.1 28 = .ok (.iaload, 1) := by decide +kernel
theorem dR_amend_29 : decode mR_amend.2.1 29 = .ok (.iconst 1, 1) := by decide +kernel
theorem dR_amend_30 : decode mR_amend.2.1 30 = .ok (.isub, 1) := by decide +kernel
theorem dR_amend_31 : decode mR_amend.2.1 31 = .ok (.invokestatic 98, 3) := by decide +kernel
theorem dR_amend_34 : decode mR_amend.2.1 34 = .ok (.ifCond .eq (5), 3) := by decide +kernel
theorem dR_amend_37 : decode mR_amend.2.1 37 = .ok (.iconst (-1), 1) := by decide +kernel
theorem dR_amend_38 : decode mR_amend.2.1 38 = .ok (.ireturn, 1) := by decide +kernel
theorem dR_amend_39 : decode mR_amend.2.1 39 = .ok (.aload_n 0, 1) := by decide +kernel
theorem dR_amend_40 : decode mR_amend.2.1 40 = .ok (.getfield 25, 3) := by decide +kernel
theorem dR_amend_43 : decode mR_amend.2.1 43 = .ok (.iload_n 2, 1) := by decide +kernel
theorem dR_amend_44 : decode mR_amend.2.1 44 = .ok (.iload_n 3, 1) := by decide +kernel
theorem dR_amend_45 : decode mR_amend.2.1 45 = .ok (.iastore, 1) := by decide +kernel
theorem dR_amend_46 : decode mR_amend.2.1 46 = .ok (.aload_n 0, 1) := by decide +kernel
theorem dR_amend_47 : decode mR_amend.2.1 47 = .ok (.getfield 28, 3) := by decide +kernel
theorem dR_amend_50 : decode mR_amend.2.1 50 = .ok (.iload_n 2, 1) := by decide +kernel
theorem dR_amend_51 : decode mR_amend.2.1 51 = .ok (.aload_n 0, 1) := by decide +kernel
theorem dR_amend_52 : decode mR_amend.2.1 52 = .ok (.getfield 28, 3) := by decide +kernel
theorem dR_amend_55 : decode mR_amend.2.1 55 = .ok (.iload_n 2, 1) := by decide +kernel
theorem dR_amend_56 : decode mR_amend.2.1 56 = .ok (.iaload, 1) := by decide +kernel
theorem dR_amend_57 : decode mR_amend.2.1 57 = .ok (.iload_n 3, 1) := by decide +kernel
theorem dR_amend_58 : decode mR_amend.2.1 58 = .ok (.if_icmp .ge (12), 3) := by decide +kernel
theorem dR_amend_61 : decode mR_amend.2.1 61 = .ok (.aload_n 0, 1) := by decide +kernel
theorem dR_amend_62 : decode mR_amend.2.1 62 = .ok (.getfield 28, 3) := by decide +kernel
theorem dR_amend_65 : decode mR_amend.2.1 65 = .ok (.iload_n 2, 1) := by decide +kernel
theorem dR_amend_66 : decode mR_amend.2.1 66 = .ok (.iaload, 1) := by decide +kernel
theorem dR_amend_67 : decode mR_amend.2.1 67 = .ok (.goto (4), 3) := by decide +kernel
theorem dR_amend_70 : decode mR_amend.2.1 70 = .ok (.iload_n 3, 1) := by decide +kernel
theorem dR_amend_71 : decode mR_amend.2.1 71 = .ok (.iastore, 1) := by decide +kernel
theorem dR_amend_72 : decode mR_amend.2.1 72 = .ok (.iconst 0, 1) := by decide +kernel
theorem dR_amend_73 : decode mR_amend.2.1 73 = .ok (.ireturn, 1) := by decide +kernel
theorem dR_open_0 : decode mR_open.2.1 0 = .ok (.iload_n 1, 1) := by decide +kernel
theorem dR_open_1 : decode mR_open.2.1 1 = .ok (.iconst 0, 1) := by decide +kernel
theorem dR_open_2 : decode mR_open.2.1 2 = .ok (.iconst 1, 1) := by decide +kernel
theorem dR_open_3 : decode mR_open.2.1 3 = .ok (.invokestatic 98, 3) := by decide +kernel
theorem dR_open_6 : decode mR_open.2.1 6 = .ok (.ifCond .eq (5), 3) := by decide +kernel
theorem dR_open_9 : decode mR_open.2.1 9 = .ok (.iconst (-1), 1) := by decide +kernel
theorem dR_open_10 : decode mR_open.2.1 10 = .ok (.ireturn, 1) := by decide +kernel
theorem dR_open_11 : decode mR_open.2.1 11 = .ok (.aload_n 0, 1) := by decide +kernel
theorem dR_open_12 : decode mR_open.2.1 12 = .ok (.getfield 47, 3) := by decide +kernel
theorem dR_open_15 : decode mR_open.2.1 15 = .ok (.iload_n 1, 1) := by decide +kernel
theorem dR_open_16 : decode mR_open.2.1 16 = .ok (.baload, 1) := by decide +kernel
theorem dR_open_17 : decode mR_open.2.1 17 = .ok (.ifCond .eq (6), 3) := by decide +kernel
theorem dR_open_20 : decode mR_open.2.1 20 = .ok (.bipush (-3), 2) := by decide +kernel
theorem dR_open_22 : decode mR_open.2.1 22 = .ok (.ireturn, 1) := by decide +kernel
theorem dR_open_23 : decode mR_open.2.1 23 = .ok (.aload_n 0, 1) := by decide +kernel
theorem dR_open_24 : decode mR_open.2.1 24 = .ok (.iload_n 1, 1) := by decide +kernel
theorem dR_open_25 : decode mR_open.2.1 25 = .ok (.invokevirtual 137, 3) := by decide +kernel
theorem dR_open_28 : decode mR_open.2.1 28 = .ok (.aload_n 0, 1) := by decide +kernel
theorem dR_open_29 : decode mR_open.2.1 29 = .ok (.getfield 47, 3) := by decide +kernel
theorem dR_open_32 : decode mR_open.2.1 32 = .ok (.iload_n 1, 1) := by decide +kernel
theorem dR_open_33 : decode mR_open.2.1 33 = .ok (.iconst 1, 1) := by decide +kernel
theorem dR_open_34 : decode mR_open.2.1 34 = .ok (.bastore, 1) := by decide +kernel
theorem dR_open_35 : decode mR_open.2.1 35 = .ok (.aload_n 0, 1) := by decide +kernel
theorem dR_open_36 : decode mR_open.2.1 36 = .ok (.getfield 131, 3) := by decide +kernel
theorem dR_open_39 : decode mR_open.2.1 39 = .ok (.istore_n 2, 1) := by decide +kernel
theorem dR_open_40 : decode mR_open.2.1 40 = .ok (.iload_n 2, 1) := by decide +kernel
theorem dR_open_41 : decode mR_open.2.1 41 = .ok (.ifCond .le (84), 3) := by decide +kernel
theorem dR_open_44 : decode mR_open.2.1 44 = .ok (.aload_n 0, 1) := by decide +kernel
theorem dR_open_45 : decode mR_open.2.1 45 = .ok (.iload_n 1, 1) := by decide +kernel
theorem dR_open_46 : decode mR_open.2.1 46 = .ok (.iconst 0, 1) := by decide +kernel
theorem dR_open_47 : decode mR_open.2.1 47 = .ok (.invokevirtual 74, 3) := by decide +kernel
theorem dR_open_50 : decode mR_open.2.1 50 = .ok (.istore_n 3, 1) := by decide +kernel
theorem dR_open_51 : decode mR_open.2.1 51 = .ok (.aload_n 0, 1) := by decide +kernel
theorem dR_open_52 : decode mR_open.2.1 52 = .ok (.iload_n 1, 1) := by decide +kernel
theorem dR_open_53 : decode mR_open.2.1 53 = .ok (.iconst 1, 1) := by decide +kernel
theorem dR_open_54 : decode mR_open.2.1 54 = .ok (.invokevirtual 74, 3) := by decide +kernel
theorem dR_open_57 : decode mR_open.2.1 57 = .ok (.istore 4, 2) := by decide +kernel
theorem dR_open_59 : decode mR_open.2.1 59 = .ok (.aload_n 0, 1) := by decide +kernel
theorem dR_open_60 : decode mR_open.2.1 60 = .ok (.getfield 25, 3) := by decide +kernel
theorem dR_open_63 : decode mR_open.2.1 63 = .ok (.iload_n 3, 1) := by decide +kernel
theorem dR_open_64 : decode mR_open.2.1 64 = .ok (.iaload, 1) := by decide +kernel
theorem dR_open_65 : decode mR_open.2.1 65 = .ok (.aload_n 0, 1) := by decide +kernel
theorem dR_open_66 : decode mR_open.2.1 66 = .ok (.getfield 25, 3) := by decide +kernel
theorem dR_open_69 : decode mR_open.2.1 69 = .ok (.iload 4, 2) := by decide +kernel
theorem dR_open_71 : decode mR_open.2.1 71 = .ok (.iaload, 1) := by decide +kernel
theorem dR_open_72 : decode mR_open.2.1 72 = .ok (.if_icmp .ge (12), 3) := by decide +kernel
theorem dR_open_75 : decode mR_open.2.1 75 = .ok (.aload_n 0, 1) := by decide +kernel
theorem dR_open_76 : decode mR_open.2.1 76 = .ok (.getfield 25, 3) := by decide +kernel
theorem dR_open_79 : decode mR_open.2.1 79 = .ok (.iload_n 3, 1) := by decide +kernel
theorem dR_open_80 : decode mR_open.2.1 80 = .ok (.iaload, 1) := by decide +kernel
theorem dR_open_81 : decode mR_open.2.1 81 = .ok (.goto (10), 3) := by decide +kernel
theorem dR_open_84 : decode mR_open.2.1 84 = .ok (.aload_n 0, 1) := by decide +kernel
theorem dR_open_85 : decode mR_open.2.1 85 = .ok (.getfield 25, 3) := by decide +kernel
theorem dR_open_88 : decode mR_open.2.1 88 = .ok (.iload 4, 2) := by decide +kernel
theorem dR_open_90 : decode mR_open.2.1 90 = .ok (.iaload, 1) := by decide +kernel
theorem dR_open_91 : decode mR_open.2.1 91 = .ok (.istore 5, 2) := by decide +kernel
theorem dR_open_93 : decode mR_open.2.1 93 = .ok (.aload_n 0, 1) := by decide +kernel
theorem dR_open_94 : decode mR_open.2.1 94 = .ok (.iload_n 3, 1) := by decide +kernel
theorem dR_open_95 : decode mR_open.2.1 95 = .ok (.iload 4, 2) := by decide +kernel
theorem dR_open_97 : decode mR_open.2.1 97 = .ok (.aload_n 0, 1) := by decide +kernel
theorem dR_open_98 : decode mR_open.2.1 98 = .ok (.getfield 128, 3) := by decide +kernel
theorem dR_open_101 : decode mR_open.2.1 101 = .ok (.iload 5, 2) := by decide +kernel
theorem dR_open_103 : decode mR_open.2.1 103 = .ok (.invokevirtual 86, 3) := by decide +kernel
theorem dR_open_106 : decode mR_open.2.1 106 = .ok (.aload_n 0, 1) := by decide +kernel
theorem dR_open_107 : decode mR_open.2.1 107 = .ok (.iload_n 3, 1) := by decide +kernel
theorem dR_open_108 : decode mR_open.2.1 108 = .ok (.invokevirtual 140, 3) := by decide +kernel
theorem dR_open_111 : decode mR_open.2.1 111 = .ok (.aload_n 0, 1) := by decide +kernel
theorem dR_open_112 : decode mR_open.2.1 112 = .ok (.iload 4, 2) := by decide +kernel
theorem dR_open_114 : decode mR_open.2.1 114 = .ok (.invokevirtual 140, 3) := by decide +kernel
theorem dR_open_117 : decode mR_open.2.1 117 = .ok (.iload_n 2, 1) := by decide +kernel
theorem dR_open_118 : decode mR_open.2.1 118 = .ok (.iload 5, 2) := by decide +kernel
theorem dR_open_120 : decode mR_open.2.1 120 = .ok (.isub, 1) := by decide +kernel
theorem dR_open_121 : decode mR_open.2.1 121 = .ok (.istore_n 2, 1) := by decide +kernel
theorem dR_open_122 : decode mR_open.2.1 122 = .ok (.goto (-82), 3) := by decide +kernel
theorem dR_open_125 : decode mR_open.2.1 125 = .ok (.aload_n 0, 1) := by decide +kernel
theorem dR_open_126 : decode mR_open.2.1 126 = .ok (.getfield 131, 3) := by decide +kernel
theorem dR_open_129 : decode mR_open.2.1 129 = .ok (.ireturn, 1) := by decide +kernel
theorem dR_look_0 : decode mR_look.2.1 0 = .ok (.iconst 0, 1) := by decide +kernel
theorem dR_look_1 : decode mR_look.2.1 1 = .ok (.istore_n 2, 1) := by decide +kernel
theorem dR_look_2 : decode mR_look.2.1 2 = .ok (.iconst 0, 1) := by decide +kernel
theorem dR_look_3 : decode mR_look.2.1 3 = .ok (.istore_n 3, 1) := by decide +kernel
theorem dR_look_4 : decode mR_look.2.1 4 = .ok (.iconst 1, 1) := by decide +kernel
theorem dR_look_5 : decode mR_look.2.1 5 = .ok (.istore 4, 2) := by decide +kernel
theorem dR_look_7 : decode mR_look.2.1 7 = .ok (.iload 4, 2) := by decide +kernel
theorem dR_look_9 : decode mR_look.2.1 9 = .ok (.bipush (64), 2) := by decide +kernel
theorem dR_look_11 : decode mR_look.2.1 11 = .ok (.if_icmp .ge (78), 3) := by decide +kernel
theorem dR_look_14 : decode mR_look.2.1 14 = .ok (.aload_n 0, 1) := by decide +kernel
theorem dR_look_15 : decode mR_look.2.1 15 = .ok (.iload_n 1, 1) := by decide +kernel
theorem dR_look_16 : decode mR_look.2.1 16 = .ok (.iconst 0, 1) := by decide +kernel
theorem dR_look_17 : decode mR_look.2.1 17 = .ok (.iload 4, 2) := by decide +kernel
theorem dR_look_19 : decode mR_look.2.1 19 = .ok (.invokevirtual 121, 3) := by decide +kernel
theorem dR_look_22 : decode mR_look.2.1 22 = .ok (.istore 5, 2) := by decide +kernel
theorem dR_look_24 : decode mR_look.2.1 24 = .ok (.aload_n 0, 1) := by decide +kernel
theorem dR_look_25 : decode mR_look.2.1 25 = .ok (.iload_n 1, 1) := by decide +kernel
theorem dR_look_26 : decode mR_look.2.1 26 = .ok (.iconst 1, 1) := by decide +kernel
theorem dR_look_27 : decode mR_look.2.1 27 = .ok (.iload 4, 2) := by decide +kernel
theorem dR_look_29 : decode mR_look.2.1 29 = .ok (.invokevirtual 121, 3) := by decide +kernel
theorem dR_look_32 : decode mR_look.2.1 32 = .ok (.istore 6, 2) := by decide +kernel
theorem dR_look_34 : decode mR_look.2.1 34 = .ok (.iload 5, 2) := by decide +kernel
theorem dR_look_36 : decode mR_look.2.1 36 = .ok (.iload 6, 2) := by decide +kernel
theorem dR_look_38 : decode mR_look.2.1 38 = .ok (.if_icmp .ge (8), 3) := by decide +kernel
theorem dR_look_41 : decode mR_look.2.1 41 = .ok (.iload 5, 2) := by decide +kernel
theorem dR_look_43 : decode mR_look.2.1 43 = .ok (.goto (5), 3) := by decide +kernel
theorem dR_look_46 : decode mR_look.2.1 46 = .ok (.iload 6, 2) := by decide +kernel
theorem dR_look_48 : decode mR_look.2.1 48 = .ok (.istore 7, 2) := by decide +kernel
theorem dR_look_50 : decode mR_look.2.1 50 = .ok (.iload 6, 2) := by decide +kernel
theorem dR_look_52 : decode mR_look.2.1 52 = .ok (.iload 5, 2) := by decide +kernel
theorem dR_look_54 : decode mR_look.2.1 54 = .ok (.invokestatic 125, 3) := by decide +kernel
theorem dR_look_57 : decode mR_look.2.1 57 = .ok (.istore 8, 2) := by decide +kernel
theorem dR_look_59 : decode mR_look.2.1 59 = .ok (.iload 7, 2) := by decide +kernel
theorem dR_look_61 : decode mR_look.2.1 61 = .ok (.iload_n 2, 1) := by decide +kernel
theorem dR_look_62 : decode mR_look.2.1 62 = .ok (.if_icmp .gt (15), 3) := by decide +kernel
theorem dR_look_65 : decode mR_look.2.1 65 = .ok (.iload 7, 2) := by decide +kernel
theorem dR_look_67 : decode mR_look.2.1 67 = .ok (.iload_n 2, 1) := by decide +kernel
theorem dR_look_68 : decode mR_look.2.1 68 = .ok (.if_icmp .ne (15), 3) := by decide +kernel
theorem dR_look_71 : decode mR_look.2.1 71 = .ok (.iload 8, 2) := by decide +kernel
theorem dR_look_73 : decode mR_look.2.1 73 = .ok (.iload_n 3, 1) := by decide +kernel
theorem dR_look_74 : decode mR_look.2.1 74 = .ok (.if_icmp .ge (9), 3) := by decide +kernel
theorem dR_look_77 : decode mR_look.2.1 77 = .ok (.iload 7, 2) := by decide +kernel
theorem dR_look_79 : decode mR_look.2.1 79 = .ok (.istore_n 2, 1) := by decide +kernel
theorem dR_look_80 : decode mR_look.2.1 80 = .ok (.iload 8, 2) := by decide +kernel
theorem dR_look_82 : decode mR_look.2.1 82 = .ok (.istore_n 3, 1) := by decide +kernel
theorem dR_look_83 : decode mR_look.2.1 83 = .ok (.iinc 4 (1), 3) := by decide +kernel
theorem dR_look_86 : decode mR_look.2.1 86 = .ok (.goto (-79), 3) := by decide +kernel
theorem dR_look_89 : decode mR_look.2.1 89 = .ok (.aload_n 0, 1) := by decide +kernel
theorem dR_look_90 : decode mR_look.2.1 90 = .ok (.iconst 0, 1) := by decide +kernel
theorem dR_look_91 : decode mR_look.2.1 91 = .ok (.putfield 128, 3) := by decide +kernel
theorem dR_look_94 : decode mR_look.2.1 94 = .ok (.aload_n 0, 1) := by decide +kernel
theorem dR_look_95 : decode mR_look.2.1 95 = .ok (.iload_n 2, 1) := by decide +kernel
theorem dR_look_96 : decode mR_look.2.1 96 = .ok (.putfield 131, 3) := by decide +kernel
theorem dR_look_99 : decode mR_look.2.1 99 = .ok (.iconst 1, 1) := by decide +kernel
theorem dR_look_100 : decode mR_look.2.1 100 = .ok (.istore 4, 2) := by decide +kernel
theorem dR_look_102 : decode mR_look.2.1 102 = .ok (.iconst 1, 1) := by decide +kernel
theorem dR_look_103 : decode mR_look.2.1 103 = .ok (.istore 5, 2) := by decide +kernel
theorem dR_look_105 : decode mR_look.2.1 105 = .ok (.iconst 0, 1) := by decide +kernel
theorem dR_look_106 : decode mR_look.2.1 106 = .ok (.istore 6, 2) := by decide +kernel
theorem dR_look_108 : decode mR_look.2.1 108 = .ok (.iconst 0, 1) := by decide +kernel
theorem dR_look_109 : decode mR_look.2.1 109 = .ok (.istore 7, 2) := by decide +kernel
theorem dR_look_111 : decode mR_look.2.1 111 = .ok (.iconst 0, 1) := by decide +kernel
theorem dR_look_112 : decode mR_look.2.1 112 = .ok (.istore 8, 2) := by decide +kernel
theorem dR_look_114 : decode mR_look.2.1 114 = .ok (.iconst 1, 1) := by decide +kernel
theorem dR_look_115 : decode mR_look.2.1 115 = .ok (.istore 9, 2) := by decide +kernel
theorem dR_look_117 : decode mR_look.2.1 117 = .ok (.iload 9, 2) := by decide +kernel
theorem dR_look_119 : decode mR_look.2.1 119 = .ok (.bipush (64), 2) := by decide +kernel
theorem dR_look_121 : decode mR_look.2.1 121 = .ok (.if_icmp .ge (153), 3) := by decide +kernel
theorem dR_look_124 : decode mR_look.2.1 124 = .ok (.aload_n 0, 1) := by decide +kernel
theorem dR_look_125 : decode mR_look.2.1 125 = .ok (.iload_n 1, 1) := by decide +kernel
theorem dR_look_126 : decode mR_look.2.1 126 = .ok (.iconst 0, 1) := by decide +kernel
theorem dR_look_127 : decode mR_look.2.1 127 = .ok (.iload 9, 2) := by decide +kernel
theorem dR_look_129 : decode mR_look.2.1 129 = .ok (.invokevirtual 121, 3) := by decide +kernel
theorem dR_look_132 : decode mR_look.2.1 132 = .ok (.istore 10, 2) := by decide +kernel
theorem dR_look_134 : decode mR_look.2.1 134 = .ok (.aload_n 0, 1) := by decide +kernel
theorem dR_look_135 : decode mR_look.2.1 135 = .ok (.iload_n 1, 1) := by decide +kernel
theorem dR_look_136 : decode mR_look.2.1 136 = .ok (.iconst 1, 1) := by decide +kernel
theorem dR_look_137 : decode mR_look.2.1 137 = .ok (.iload 9, 2) := by decide +kernel
theorem dR_look_139 : decode mR_look.2.1 139 = .ok (.invokevirtual 121, 3) := by decide +kernel
theorem dR_look_142 : decode mR_look.2.1 142 = .ok (.istore 11, 2) := by decide +kernel
theorem dR_look_144 : decode mR_look.2.1 144 = .ok (.iload 10, 2) := by decide +kernel
theorem dR_look_146 : decode mR_look.2.1 146 = .ok (.iload 11, 2) := by decide +kernel
theorem dR_look_148 : decode mR_look.2.1 148 = .ok (.if_icmp .ge (8), 3) := by decide +kernel
theorem dR_look_151 : decode mR_look.2.1 151 = .ok (.iload 10, 2) := by decide +kernel
theorem dR_look_153 : decode mR_look.2.1 153 = .ok (.goto (5), 3) := by decide +kernel
theorem dR_look_156 : decode mR_look.2.1 156 = .ok (.iload 11, 2) := by decide +kernel
theorem dR_look_158 : decode mR_look.2.1 158 = .ok (.iload_n 2, 1) := by decide +kernel
theorem dR_look_159 : decode mR_look.2.1 159 = .ok (.if_icmp .ne (109), 3) := by decide +kernel
theorem dR_look_162 : decode mR_look.2.1 162 = .ok (.iload 11, 2) := by decide +kernel
theorem dR_look_164 : decode mR_look.2.1 164 = .ok (.iload 10, 2) := by decide +kernel
theorem dR_look_166 : decode mR_look.2.1 166 = .ok (.invokestatic 125, 3) := by decide +kernel
theorem dR_look_169 : decode mR_look.2.1 169 = .ok (.iload_n 3, 1) := by decide +kernel
theorem dR_look_170 : decode mR_look.2.1 170 = .ok (.if_icmp .ne (98), 3) := by decide +kernel
theorem dR_look_173 : decode mR_look.2.1 173 = .ok (.iload 4, 2) := by decide +kernel
theorem dR_look_175 : decode mR_look.2.1 175 = .ok (.ifCond .eq (14), 3) := by decide +kernel
theorem dR_look_178 : decode mR_look.2.1 178 = .ok (.iload 10, 2) := by decide +kernel
theorem dR_look_180 : decode mR_look.2.1 180 = .ok (.iload 11, 2) := by decide +kernel
theorem dR_look_182 : decode mR_look.2.1 182 = .ok (.if_icmp .le (7), 3) := by decide +kernel
theorem dR_look_185 : decode mR_look.2.1 185 = .ok (.iconst 1, 1) := by decide +kernel
theorem dR_look_186 : decode mR_look.2.1 186 = .ok (.goto (4), 3) := by decide +kernel
theorem dR_look_189 : decode mR_look.2.1 189 = .ok (.iconst 0, 1) := by decide +kernel
theorem dR_look_190 : decode mR_look.2.1 190 = .ok (.istore 4, 2) := by decide +kernel
theorem dR_look_192 : decode mR_look.2.1 192 = .ok (.iload 5, 2) := by decide +kernel
theorem dR_look_194 : decode mR_look.2.1 194 = .ok (.ifCond .eq (14), 3) := by decide +kernel
theorem dR_look_197 : decode mR_look.2.1 197 = .ok (.iload 11, 2) := by decide +kernel
theorem dR_look_199 : decode mR_look.2.1 199 = .ok (.iload 10, 2) := by decide +kernel
theorem dR_look_201 : decode mR_look.2.1 201 = .ok (.if_icmp .le (7), 3) := by decide +kernel
theorem dR_look_204 : decode mR_look.2.1 204 = .ok (.iconst 1, 1) := by decide +kernel
theorem dR_look_205 : decode mR_look.2.1 205 = .ok (.goto (4), 3) := by decide +kernel
theorem dR_look_208 : decode mR_look.2.1 208 = .ok (.iconst 0, 1) := by decide +kernel
theorem dR_look_209 : decode mR_look.2.1 209 = .ok (.istore 5, 2) := by decide +kernel
theorem dR_look_211 : decode mR_look.2.1 211 = .ok (.iload 6, 2) := by decide +kernel
theorem dR_look_213 : decode mR_look.2.1 213 = .ok (.ifCond .ne (8), 3) := by decide +kernel
theorem dR_look_216 : decode mR_look.2.1 216 = .ok (.iload 9, 2) := by decide +kernel
theorem dR_look_218 : decode mR_look.2.1 218 = .ok (.goto (5), 3) := by decide +kernel
theorem dR_look_221 : decode mR_look.2.1 221 = .ok (.iload 6, 2) := by decide +kernel
theorem dR_look_223 : decode mR_look.2.1 223 = .ok (.istore 6, 2) := by decide +kernel
theorem dR_look_225 : decode mR_look.2.1 225 = .ok (.iload 9, 2) := by decide +kernel
theorem dR_look_227 : decode mR_look.2.1 227 = .ok (.istore 7, 2) := by decide +kernel
theorem dR_look_229 : decode mR_look.2.1 229 = .ok (.iload 8, 2) := by decide +kernel
theorem dR_look_231 : decode mR_look.2.1 231 = .ok (.ifCond .eq (28), 3) := by decide +kernel
theorem dR_look_234 : decode mR_look.2.1 234 = .ok (.iload 9, 2) := by decide +kernel
theorem dR_look_236 : decode mR_look.2.1 236 = .ok (.aload_n 0, 1) := by decide +kernel
theorem dR_look_237 : decode mR_look.2.1 237 = .ok (.getfield 51, 3) := by decide +kernel
theorem dR_look_240 : decode mR_look.2.1 240 = .ok (.iload_n 1, 1) := by decide +kernel
theorem dR_look_241 : decode mR_look.2.1 241 = .ok (.iaload, 1) := by decide +kernel
theorem dR_look_242 : decode mR_look.2.1 242 = .ok (.invokestatic 125, 3) := by decide +kernel
theorem dR_look_245 : decode mR_look.2.1 245 = .ok (.iload 8, 2) := by decide +kernel
theorem dR_look_247 : decode mR_look.2.1 247 = .ok (.aload_n 0, 1) := by decide +kernel
theorem dR_look_248 : decode mR_look.2.1 248 = .ok (.getfield 51, 3) := by decide +kernel
theorem dR_look_251 : decode mR_look.2.1 251 = .ok (.iload_n 1, 1) := by decide +kernel
theorem dR_look_252 : decode mR_look.2.1 252 = .ok (.iaload, 1) := by decide +kernel
theorem dR_look_253 : decode mR_look.2.1 253 = .ok (.invokestatic 125, 3) := by decide +kernel
theorem dR_look_256 : decode mR_look.2.1 256 = .ok (.if_icmp .ge (8), 3) := by decide +kernel
theorem dR_look_259 : decode mR_look.2.1 259 = .ok (.iload 9, 2) := by decide +kernel
end
section
theorem dR_look_261 : decode mR_look.2.1 261 = .ok (.goto (5), 3) := by decide +kernel
theorem dR_look_264 : decode mR_look.2.1 264 = .ok (.iload 8, 2) := by decide +kernel
theorem dR_look_266 : decode mR_look.2.1 266 = .ok (.istore 8, 2) := by decide +kernel
theorem dR_look_268 : decode mR_look.2.1 268 = .ok (.iinc 9 (1), 3) := by decide +kernel
theorem dR_look_271 : decode mR_look.2.1 271 = .ok (.goto (-154), 3) := by decide +kernel
theorem dR_look_274 : decode mR_look.2.1 274 = .ok (.iload_n 2, 1) := by decide +kernel
theorem dR_look_275 : decode mR_look.2.1 275 = .ok (.ifCond .le (54), 3) := by decide +kernel
theorem dR_look_278 : decode mR_look.2.1 278 = .ok (.aload_n 0, 1) := by decide +kernel
theorem dR_look_279 : decode mR_look.2.1 279 = .ok (.iload 4, 2) := by decide +kernel
theorem dR_look_281 : decode mR_look.2.1 281 = .ok (.ifCond .eq (8), 3) := by decide +kernel
theorem dR_look_284 : decode mR_look.2.1 284 = .ok (.iload 7, 2) := by decide +kernel
theorem dR_look_286 : decode mR_look.2.1 286 = .ok (.goto (15), 3) := by decide +kernel
theorem dR_look_289 : decode mR_look.2.1 289 = .ok (.iload 5, 2) := by decide +kernel
theorem dR_look_291 : decode mR_look.2.1 291 = .ok (.ifCond .eq (8), 3) := by decide +kernel
theorem dR_look_294 : decode mR_look.2.1 294 = .ok (.iload 6, 2) := by decide +kernel
theorem dR_look_296 : decode mR_look.2.1 296 = .ok (.goto (5), 3) := by decide +kernel
theorem dR_look_299 : decode mR_look.2.1 299 = .ok (.iload 8, 2) := by decide +kernel
theorem dR_look_301 : decode mR_look.2.1 301 = .ok (.putfield 128, 3) := by decide +kernel
theorem dR_look_304 : decode mR_look.2.1 304 = .ok (.aload_n 0, 1) := by decide +kernel
theorem dR_look_305 : decode mR_look.2.1 305 = .ok (.aload_n 0, 1) := by decide +kernel
theorem dR_look_306 : decode mR_look.2.1 306 = .ok (.iload_n 1, 1) := by decide +kernel
theorem dR_look_307 : decode mR_look.2.1 307 = .ok (.iconst 0, 1) := by decide +kernel
theorem dR_look_308 : decode mR_look.2.1 308 = .ok (.aload_n 0, 1) := by decide +kernel
theorem dR_look_309 : decode mR_look.2.1 309 = .ok (.getfield 128, 3) := by decide +kernel
theorem dR_look_312 : decode mR_look.2.1 312 = .ok (.invokevirtual 121, 3) := by decide +kernel
theorem dR_look_315 : decode mR_look.2.1 315 = .ok (.aload_n 0, 1) := by decide +kernel
theorem dR_look_316 : decode mR_look.2.1 316 = .ok (.iload_n 1, 1) := by decide +kernel
theorem dR_look_317 : decode mR_look.2.1 317 = .ok (.iconst 1, 1) := by decide +kernel
theorem dR_look_318 : decode mR_look.2.1 318 = .ok (.aload_n 0, 1) := by decide +kernel
theorem dR_look_319 : decode mR_look.2.1 319 = .ok (.getfield 128, 3) := by decide +kernel
theorem dR_look_322 : decode mR_look.2.1 322 = .ok (.invokevirtual 121, 3) := by decide +kernel
theorem dR_look_325 : decode mR_look.2.1 325 = .ok (.isub, 1) := by decide +kernel
theorem dR_look_326 : decode mR_look.2.1 326 = .ok (.putfield 134, 3) := by decide +kernel
theorem dR_look_329 : decode mR_look.2.1 329 = .ok (.return_, 1) := by decide +kernel
theorem dR_willing_0 : decode mR_willing.2.1 0 = .ok (.iconst 0, 1) := by decide +kernel
theorem dR_willing_1 : decode mR_willing.2.1 1 = .ok (.istore 4, 2) := by decide +kernel
theorem dR_willing_3 : decode mR_willing.2.1 3 = .ok (.iconst 0, 1) := by decide +kernel
theorem dR_willing_4 : decode mR_willing.2.1 4 = .ok (.istore 5, 2) := by decide +kernel
theorem dR_willing_6 : decode mR_willing.2.1 6 = .ok (.iload 5, 2) := by decide +kernel
theorem dR_willing_8 : decode mR_willing.2.1 8 = .ok (.aload_n 0, 1) := by decide +kernel
theorem dR_willing_9 : decode mR_willing.2.1 9 = .ok (.getfield 57, 3) := by decide +kernel
theorem dR_willing_12 : decode mR_willing.2.1 12 = .ok (.if_icmp .ge (51), 3) := by decide +kernel
theorem dR_willing_15 : decode mR_willing.2.1 15 = .ok (.iload 4, 2) := by decide +kernel
theorem dR_willing_17 : decode mR_willing.2.1 17 = .ok (.aload_n 0, 1) := by decide +kernel
theorem dR_willing_18 : decode mR_willing.2.1 18 = .ok (.iload 5, 2) := by decide +kernel
theorem dR_willing_20 : decode mR_willing.2.1 20 = .ok (.iload_n 1, 1) := by decide +kernel
theorem dR_willing_21 : decode mR_willing.2.1 21 = .ok (.iload_n 2, 1) := by decide +kernel
theorem dR_willing_22 : decode mR_willing.2.1 22 = .ok (.invokevirtual 61, 3) := by decide +kernel
theorem dR_willing_25 : decode mR_willing.2.1 25 = .ok (.ifCond .eq (28), 3) := by decide +kernel
theorem dR_willing_28 : decode mR_willing.2.1 28 = .ok (.iload_n 2, 1) := by decide +kernel
theorem dR_willing_29 : decode mR_willing.2.1 29 = .ok (.iload_n 3, 1) := by decide +kernel
theorem dR_willing_30 : decode mR_willing.2.1 30 = .ok (.aload_n 0, 1) := by decide +kernel
theorem dR_willing_31 : decode mR_willing.2.1 31 = .ok (.getfield 22, 3) := by decide +kernel
theorem dR_willing_34 : decode mR_willing.2.1 34 = .ok (.iload 5, 2) := by decide +kernel
theorem dR_willing_36 : decode mR_willing.2.1 36 = .ok (.iaload, 1) := by decide +kernel
theorem dR_willing_37 : decode mR_willing.2.1 37 = .ok (.invokestatic 65, 3) := by decide +kernel
theorem dR_willing_40 : decode mR_willing.2.1 40 = .ok (.ifCond .ne (13), 3) := by decide +kernel
theorem dR_willing_43 : decode mR_willing.2.1 43 = .ok (.aload_n 0, 1) := by decide +kernel
theorem dR_willing_44 : decode mR_willing.2.1 44 = .ok (.getfield 25, 3) := by decide +kernel
theorem dR_willing_47 : decode mR_willing.2.1 47 = .ok (.iload 5, 2) := by decide +kernel
theorem dR_willing_49 : decode mR_willing.2.1 49 = .ok (.iaload, 1) := by decide +kernel
theorem dR_willing_50 : decode mR_willing.2.1 50 = .ok (.goto (4), 3) := by decide +kernel
theorem dR_willing_53 : decode mR_willing.2.1 53 = .ok (.iconst 0, 1) := by decide +kernel
theorem dR_willing_54 : decode mR_willing.2.1 54 = .ok (.iadd, 1) := by decide +kernel
theorem dR_willing_55 : decode mR_willing.2.1 55 = .ok (.istore 4, 2) := by decide +kernel
theorem dR_willing_57 : decode mR_willing.2.1 57 = .ok (.iinc 5 (1), 3) := by decide +kernel
theorem dR_willing_60 : decode mR_willing.2.1 60 = .ok (.goto (-54), 3) := by decide +kernel
theorem dR_willing_63 : decode mR_willing.2.1 63 = .ok (.iload 4, 2) := by decide +kernel
theorem dR_willing_65 : decode mR_willing.2.1 65 = .ok (.ireturn, 1) := by decide +kernel
theorem dR_distance_0 : decode mR_distance.2.1 0 = .ok (.iload_n 0, 1) := by decide +kernel
theorem dR_distance_1 : decode mR_distance.2.1 1 = .ok (.iload_n 1, 1) := by decide +kernel
theorem dR_distance_2 : decode mR_distance.2.1 2 = .ok (.if_icmp .ge (9), 3) := by decide +kernel
theorem dR_distance_5 : decode mR_distance.2.1 5 = .ok (.iload_n 1, 1) := by decide +kernel
theorem dR_distance_6 : decode mR_distance.2.1 6 = .ok (.iload_n 0, 1) := by decide +kernel
theorem dR_distance_7 : decode mR_distance.2.1 7 = .ok (.isub, 1) := by decide +kernel
theorem dR_distance_8 : decode mR_distance.2.1 8 = .ok (.goto (6), 3) := by decide +kernel
theorem dR_distance_11 : decode mR_distance.2.1 11 = .ok (.iload_n 0, 1) := by decide +kernel
theorem dR_distance_12 : decode mR_distance.2.1 12 = .ok (.iload_n 1, 1) := by decide +kernel
theorem dR_distance_13 : decode mR_distance.2.1 13 = .ok (.isub, 1) := by decide +kernel
theorem dR_distance_14 : decode mR_distance.2.1 14 = .ok (.ireturn, 1) := by decide +kernel
theorem dR_after_0 : decode mR_after.2.1 0 = .ok (.aload_n 0, 1) := by decide +kernel
theorem dR_after_1 : decode mR_after.2.1 1 = .ok (.getfield 31, 3) := by decide +kernel
theorem dR_after_4 : decode mR_after.2.1 4 = .ok (.iload_n 1, 1) := by decide +kernel
theorem dR_after_5 : decode mR_after.2.1 5 = .ok (.aload_n 0, 1) := by decide +kernel
theorem dR_after_6 : decode mR_after.2.1 6 = .ok (.getfield 25, 3) := by decide +kernel
theorem dR_after_9 : decode mR_after.2.1 9 = .ok (.iload_n 1, 1) := by decide +kernel
theorem dR_after_10 : decode mR_after.2.1 10 = .ok (.iaload, 1) := by decide +kernel
theorem dR_after_11 : decode mR_after.2.1 11 = .ok (.ifCond .ne (7), 3) := by decide +kernel
theorem dR_after_14 : decode mR_after.2.1 14 = .ok (.iconst 1, 1) := by decide +kernel
theorem dR_after_15 : decode mR_after.2.1 15 = .ok (.goto (4), 3) := by decide +kernel
theorem dR_after_18 : decode mR_after.2.1 18 = .ok (.iconst 0, 1) := by decide +kernel
theorem dR_after_19 : decode mR_after.2.1 19 = .ok (.iastore, 1) := by decide +kernel
theorem dR_after_20 : decode mR_after.2.1 20 = .ok (.aload_n 0, 1) := by decide +kernel
theorem dR_after_21 : decode mR_after.2.1 21 = .ok (.getfield 28, 3) := by decide +kernel
theorem dR_after_24 : decode mR_after.2.1 24 = .ok (.iload_n 1, 1) := by decide +kernel
theorem dR_after_25 : decode mR_after.2.1 25 = .ok (.aload_n 0, 1) := by decide +kernel
theorem dR_after_26 : decode mR_after.2.1 26 = .ok (.getfield 25, 3) := by decide +kernel
theorem dR_after_29 : decode mR_after.2.1 29 = .ok (.iload_n 1, 1) := by decide +kernel
theorem dR_after_30 : decode mR_after.2.1 30 = .ok (.iaload, 1) := by decide +kernel
theorem dR_after_31 : decode mR_after.2.1 31 = .ok (.iconst 5, 1) := by decide +kernel
theorem dR_after_32 : decode mR_after.2.1 32 = .ok (.if_icmp .ge (12), 3) := by decide +kernel
theorem dR_after_35 : decode mR_after.2.1 35 = .ok (.aload_n 0, 1) := by decide +kernel
theorem dR_after_36 : decode mR_after.2.1 36 = .ok (.getfield 25, 3) := by decide +kernel
theorem dR_after_39 : decode mR_after.2.1 39 = .ok (.iload_n 1, 1) := by decide +kernel
theorem dR_after_40 : decode mR_after.2.1 40 = .ok (.iaload, 1) := by decide +kernel
theorem dR_after_41 : decode mR_after.2.1 41 = .ok (.goto (4), 3) := by decide +kernel
theorem dR_after_44 : decode mR_after.2.1 44 = .ok (.iconst 5, 1) := by decide +kernel
theorem dR_after_45 : decode mR_after.2.1 45 = .ok (.iastore, 1) := by decide +kernel
theorem dR_after_46 : decode mR_after.2.1 46 = .ok (.return_, 1) := by decide +kernel
theorem dR_close_0 : decode mR_close.2.1 0 = .ok (.iload_n 1, 1) := by decide +kernel
theorem dR_close_1 : decode mR_close.2.1 1 = .ok (.iconst 0, 1) := by decide +kernel
theorem dR_close_2 : decode mR_close.2.1 2 = .ok (.iconst 1, 1) := by decide +kernel
theorem dR_close_3 : decode mR_close.2.1 3 = .ok (.invokestatic 98, 3) := by decide +kernel
theorem dR_close_6 : decode mR_close.2.1 6 = .ok (.ifCond .eq (5), 3) := by decide +kernel
theorem dR_close_9 : decode mR_close.2.1 9 = .ok (.iconst (-1), 1) := by decide +kernel
theorem dR_close_10 : decode mR_close.2.1 10 = .ok (.ireturn, 1) := by decide +kernel
theorem dR_close_11 : decode mR_close.2.1 11 = .ok (.aload_n 0, 1) := by decide +kernel
theorem dR_close_12 : decode mR_close.2.1 12 = .ok (.getfield 47, 3) := by decide +kernel
theorem dR_close_15 : decode mR_close.2.1 15 = .ok (.iload_n 1, 1) := by decide +kernel
theorem dR_close_16 : decode mR_close.2.1 16 = .ok (.baload, 1) := by decide +kernel
theorem dR_close_17 : decode mR_close.2.1 17 = .ok (.ifCond .ne (6), 3) := by decide +kernel
theorem dR_close_20 : decode mR_close.2.1 20 = .ok (.bipush (-3), 2) := by decide +kernel
theorem dR_close_22 : decode mR_close.2.1 22 = .ok (.ireturn, 1) := by decide +kernel
theorem dR_close_23 : decode mR_close.2.1 23 = .ok (.aload_n 0, 1) := by decide +kernel
theorem dR_close_24 : decode mR_close.2.1 24 = .ok (.getfield 47, 3) := by decide +kernel
theorem dR_close_27 : decode mR_close.2.1 27 = .ok (.iload_n 1, 1) := by decide +kernel
theorem dR_close_28 : decode mR_close.2.1 28 = .ok (.iconst 0, 1) := by decide +kernel
theorem dR_close_29 : decode mR_close.2.1 29 = .ok (.bastore, 1) := by decide +kernel
theorem dR_close_30 : decode mR_close.2.1 30 = .ok (.iconst 0, 1) := by decide +kernel
theorem dR_close_31 : decode mR_close.2.1 31 = .ok (.ireturn, 1) := by decide +kernel
theorem dR_indication_0 : decode mR_indication.2.1 0 = .ok (.iload_n 1, 1) := by decide +kernel
theorem dR_indication_1 : decode mR_indication.2.1 1 = .ok (.iconst 0, 1) := by decide +kernel
theorem dR_indication_2 : decode mR_indication.2.1 2 = .ok (.iconst 1, 1) := by decide +kernel
theorem dR_indication_3 : decode mR_indication.2.1 3 = .ok (.invokestatic 98, 3) := by decide +kernel
theorem dR_indication_6 : decode mR_indication.2.1 6 = .ok (.ifCond .ne (12), 3) := by decide +kernel
theorem dR_indication_9 : decode mR_indication.2.1 9 = .ok (.iload_n 2, 1) := by decide +kernel
theorem dR_indication_10 : decode mR_indication.2.1 10 = .ok (.iconst 0, 1) := by decide +kernel
theorem dR_indication_11 : decode mR_indication.2.1 11 = .ok (.iconst 2, 1) := by decide +kernel
theorem dR_indication_12 : decode mR_indication.2.1 12 = .ok (.invokestatic 98, 3) := by decide +kernel
theorem dR_indication_15 : decode mR_indication.2.1 15 = .ok (.ifCond .eq (5), 3) := by decide +kernel
theorem dR_indication_18 : decode mR_indication.2.1 18 = .ok (.iconst (-1), 1) := by decide +kernel
theorem dR_indication_19 : decode mR_indication.2.1 19 = .ok (.ireturn, 1) := by decide +kernel
theorem dR_indication_20 : decode mR_indication.2.1 20 = .ok (.aload_n 0, 1) := by decide +kernel
theorem dR_indication_21 : decode mR_indication.2.1 21 = .ok (.iload_n 1, 1) := by decide +kernel
theorem dR_indication_22 : decode mR_indication.2.1 22 = .ok (.invokevirtual 137, 3) := by decide +kernel
theorem dR_indication_25 : decode mR_indication.2.1 25 = .ok (.aload_n 0, 1) := by decide +kernel
theorem dR_indication_26 : decode mR_indication.2.1 26 = .ok (.getfield 128, 3) := by decide +kernel
theorem dR_indication_29 : decode mR_indication.2.1 29 = .ok (.ifCond .ne (8), 3) := by decide +kernel
theorem dR_indication_32 : decode mR_indication.2.1 32 = .ok (.bipush (-6), 2) := by decide +kernel
theorem dR_indication_34 : decode mR_indication.2.1 34 = .ok (.goto (30), 3) := by decide +kernel
theorem dR_indication_37 : decode mR_indication.2.1 37 = .ok (.iload_n 2, 1) := by decide +kernel
theorem dR_indication_38 : decode mR_indication.2.1 38 = .ok (.ifCond .ne (10), 3) := by decide +kernel
theorem dR_indication_41 : decode mR_indication.2.1 41 = .ok (.aload_n 0, 1) := by decide +kernel
theorem dR_indication_42 : decode mR_indication.2.1 42 = .ok (.getfield 128, 3) := by decide +kernel
theorem dR_indication_45 : decode mR_indication.2.1 45 = .ok (.goto (19), 3) := by decide +kernel
theorem dR_indication_48 : decode mR_indication.2.1 48 = .ok (.iload_n 2, 1) := by decide +kernel
theorem dR_indication_49 : decode mR_indication.2.1 49 = .ok (.iconst 1, 1) := by decide +kernel
theorem dR_indication_50 : decode mR_indication.2.1 50 = .ok (.if_icmp .ne (10), 3) := by decide +kernel
theorem dR_indication_53 : decode mR_indication.2.1 53 = .ok (.aload_n 0, 1) := by decide +kernel
theorem dR_indication_54 : decode mR_indication.2.1 54 = .ok (.getfield 131, 3) := by decide +kernel
theorem dR_indication_57 : decode mR_indication.2.1 57 = .ok (.goto (7), 3) := by decide +kernel
theorem dR_indication_60 : decode mR_indication.2.1 60 = .ok (.aload_n 0, 1) := by decide +kernel
theorem dR_indication_61 : decode mR_indication.2.1 61 = .ok (.getfield 134, 3) := by decide +kernel
theorem dR_indication_64 : decode mR_indication.2.1 64 = .ok (.ireturn, 1) := by decide +kernel
theorem dR_best_0 : decode mR_best.2.1 0 = .ok (.iload_n 1, 1) := by decide +kernel
theorem dR_best_1 : decode mR_best.2.1 1 = .ok (.iconst 0, 1) := by decide +kernel
theorem dR_best_2 : decode mR_best.2.1 2 = .ok (.iconst 1, 1) := by decide +kernel
theorem dR_best_3 : decode mR_best.2.1 3 = .ok (.invokestatic 98, 3) := by decide +kernel
theorem dR_best_6 : decode mR_best.2.1 6 = .ok (.ifCond .ne (12), 3) := by decide +kernel
theorem dR_best_9 : decode mR_best.2.1 9 = .ok (.iload_n 2, 1) := by decide +kernel
theorem dR_best_10 : decode mR_best.2.1 10 = .ok (.iconst 0, 1) := by decide +kernel
theorem dR_best_11 : decode mR_best.2.1 11 = .ok (.iconst 1, 1) := by decide +kernel
theorem dR_best_12 : decode mR_best.2.1 12 = .ok (.invokestatic 98, 3) := by decide +kernel
theorem dR_best_15 : decode mR_best.2.1 15 = .ok (.ifCond .eq (5), 3) := by decide +kernel
theorem dR_best_18 : decode mR_best.2.1 18 = .ok (.iconst (-1), 1) := by decide +kernel
theorem dR_best_19 : decode mR_best.2.1 19 = .ok (.ireturn, 1) := by decide +kernel
theorem dR_best_20 : decode mR_best.2.1 20 = .ok (.aload_n 0, 1) := by decide +kernel
theorem dR_best_21 : decode mR_best.2.1 21 = .ok (.iload_n 1, 1) := by decide +kernel
theorem dR_best_22 : decode mR_best.2.1 22 = .ok (.iload_n 2, 1) := by decide +kernel
theorem dR_best_23 : decode mR_best.2.1 23 = .ok (.invokevirtual 74, 3) := by decide +kernel
theorem dR_best_26 : decode mR_best.2.1 26 = .ok (.istore_n 3, 1) := by decide +kernel
theorem dR_best_27 : decode mR_best.2.1 27 = .ok (.iload_n 3, 1) := by decide +kernel
theorem dR_best_28 : decode mR_best.2.1 28 = .ok (.ifCond .ge (8), 3) := by decide +kernel
theorem dR_best_31 : decode mR_best.2.1 31 = .ok (.bipush (-6), 2) := by decide +kernel
theorem dR_best_33 : decode mR_best.2.1 33 = .ok (.goto (9), 3) := by decide +kernel
theorem dR_best_36 : decode mR_best.2.1 36 = .ok (.aload_n 0, 1) := by decide +kernel
theorem dR_best_37 : decode mR_best.2.1 37 = .ok (.getfield 22, 3) := by decide +kernel
theorem dR_best_40 : decode mR_best.2.1 40 = .ok (.iload_n 3, 1) := by decide +kernel
theorem dR_best_41 : decode mR_best.2.1 41 = .ok (.iaload, 1) := by decide +kernel
theorem dR_best_42 : decode mR_best.2.1 42 = .ok (.ireturn, 1) := by decide +kernel
theorem dR_depth_0 : decode mR_depth.2.1 0 = .ok (.iload_n 1, 1) := by decide +kernel
theorem dR_depth_1 : decode mR_depth.2.1 1 = .ok (.iconst 0, 1) := by decide +kernel
theorem dR_depth_2 : decode mR_depth.2.1 2 = .ok (.iconst 1, 1) := by decide +kernel
theorem dR_depth_3 : decode mR_depth.2.1 3 = .ok (.invokestatic 98, 3) := by decide +kernel
theorem dR_depth_6 : decode mR_depth.2.1 6 = .ok (.ifCond .ne (22), 3) := by decide +kernel
theorem dR_depth_9 : decode mR_depth.2.1 9 = .ok (.iload_n 2, 1) := by decide +kernel
theorem dR_depth_10 : decode mR_depth.2.1 10 = .ok (.iconst 0, 1) := by decide +kernel
theorem dR_depth_11 : decode mR_depth.2.1 11 = .ok (.iconst 1, 1) := by decide +kernel
theorem dR_depth_12 : decode mR_depth.2.1 12 = .ok (.invokestatic 98, 3) := by decide +kernel
theorem dR_depth_15 : decode mR_depth.2.1 15 = .ok (.ifCond .ne (13), 3) := by decide +kernel
theorem dR_depth_18 : decode mR_depth.2.1 18 = .ok (.iload_n 3, 1) := by decide +kernel
theorem dR_depth_19 : decode mR_depth.2.1 19 = .ok (.iconst 1, 1) := by decide +kernel
theorem dR_depth_20 : decode mR_depth.2.1 20 = .ok (.bipush (63), 2) := by decide +kernel
theorem dR_depth_22 : decode mR_depth.2.1 22 = .ok (.invokestatic 98, 3) := by decide +kernel
theorem dR_depth_25 : decode mR_depth.2.1 25 = .ok (.ifCond .eq (5), 3) := by decide +kernel
theorem dR_depth_28 : decode mR_depth.2.1 28 = .ok (.iconst (-1), 1) := by decide +kernel
theorem dR_depth_29 : decode mR_depth.2.1 29 = .ok (.ireturn, 1) := by decide +kernel
theorem dR_depth_30 : decode mR_depth.2.1 30 = .ok (.iconst 0, 1) := by decide +kernel
theorem dR_depth_31 : decode mR_depth.2.1 31 = .ok (.istore 4, 2) := by decide +kernel
theorem dR_depth_33 : decode mR_depth.2.1 33 = .ok (.iconst 0, 1) := by decide +kernel
theorem dR_depth_34 : decode mR_depth.2.1 34 = .ok (.istore 5, 2) := by decide +kernel
theorem dR_depth_36 : decode mR_depth.2.1 36 = .ok (.iload 5, 2) := by decide +kernel
theorem dR_depth_38 : decode mR_depth.2.1 38 = .ok (.aload_n 0, 1) := by decide +kernel
theorem dR_depth_39 : decode mR_depth.2.1 39 = .ok (.getfield 57, 3) := by decide +kernel
theorem dR_depth_42 : decode mR_depth.2.1 42 = .ok (.if_icmp .ge (46), 3) := by decide +kernel
theorem dR_depth_45 : decode mR_depth.2.1 45 = .ok (.iload 4, 2) := by decide +kernel
theorem dR_depth_47 : decode mR_depth.2.1 47 = .ok (.aload_n 0, 1) := by decide +kernel
theorem dR_depth_48 : decode mR_depth.2.1 48 = .ok (.iload 5, 2) := by decide +kernel
theorem dR_depth_50 : decode mR_depth.2.1 50 = .ok (.iload_n 1, 1) := by decide +kernel
theorem dR_depth_51 : decode mR_depth.2.1 51 = .ok (.iload_n 2, 1) := by decide +kernel
theorem dR_depth_52 : decode mR_depth.2.1 52 = .ok (.invokevirtual 61, 3) := by decide +kernel
theorem dR_depth_55 : decode mR_depth.2.1 55 = .ok (.ifCond .eq (23), 3) := by decide +kernel
theorem dR_depth_58 : decode mR_depth.2.1 58 = .ok (.aload_n 0, 1) := by decide +kernel
theorem dR_depth_59 : decode mR_depth.2.1 59 = .ok (.getfield 22, 3) := by decide +kernel
theorem dR_depth_62 : decode mR_depth.2.1 62 = .ok (.iload 5, 2) := by decide +kernel
theorem dR_depth_64 : decode mR_depth.2.1 64 = .ok (.iaload, 1) := by decide +kernel
theorem dR_depth_65 : decode mR_depth.2.1 65 = .ok (.iload_n 3, 1) := by decide +kernel
theorem dR_depth_66 : decode mR_depth.2.1 66 = .ok (.if_icmp .ne (12), 3) := by decide +kernel
theorem dR_depth_69 : decode mR_depth.2.1 69 = .ok (.aload_n 0, 1) := by decide +kernel
theorem dR_depth_70 : decode mR_depth.2.1 70 = .ok (.iload 5, 2) := by decide +kernel
theorem dR_depth_72 : decode mR_depth.2.1 72 = .ok (.invokevirtual 82, 3) := by decide +kernel
theorem dR_depth_75 : decode mR_depth.2.1 75 = .ok (.goto (4), 3) := by decide +kernel
theorem dR_depth_78 : decode mR_depth.2.1 78 = .ok (.iconst 0, 1) := by decide +kernel
theorem dR_depth_79 : decode mR_depth.2.1 79 = .ok (.iadd, 1) := by decide +kernel
theorem dR_depth_80 : decode mR_depth.2.1 80 = .ok (.istore 4, 2) := by decide +kernel
theorem dR_depth_82 : decode mR_depth.2.1 82 = .ok (.iinc 5 (1), 3) := by decide +kernel
theorem dR_depth_85 : decode mR_depth.2.1 85 = .ok (.goto (-49), 3) := by decide +kernel
theorem dR_depth_88 : decode mR_depth.2.1 88 = .ok (.iload 4, 2) := by decide +kernel
theorem dR_depth_90 : decode mR_depth.2.1 90 = .ok (.ireturn, 1) := by decide +kernel
theorem dR_ahead_0 : decode mR_ahead.2.1 0 = .ok (.aload_n 0, 1) := by decide +kernel
theorem dR_ahead_1 : decode mR_ahead.2.1 1 = .ok (.iload_n 1, 1) := by decide +kernel
theorem dR_ahead_2 : decode mR_ahead.2.1 2 = .ok (.invokevirtual 118, 3) := by decide +kernel
theorem dR_ahead_5 : decode mR_ahead.2.1 5 = .ok (.ifCond .ne (6), 3) := by decide +kernel
theorem dR_ahead_8 : decode mR_ahead.2.1 8 = .ok (.bipush (-6), 2) := by decide +kernel
theorem dR_ahead_10 : decode mR_ahead.2.1 10 = .ok (.ireturn, 1) := by decide +kernel
theorem dR_ahead_11 : decode mR_ahead.2.1 11 = .ok (.iconst 0, 1) := by decide +kernel
theorem dR_ahead_12 : decode mR_ahead.2.1 12 = .ok (.istore_n 2, 1) := by decide +kernel
theorem dR_ahead_13 : decode mR_ahead.2.1 13 = .ok (.iconst 0, 1) := by decide +kernel
theorem dR_ahead_14 : decode mR_ahead.2.1 14 = .ok (.istore_n 3, 1) := by decide +kernel
theorem dR_ahead_15 : decode mR_ahead.2.1 15 = .ok (.iload_n 3, 1) := by decide +kernel
theorem dR_ahead_16 : decode mR_ahead.2.1 16 = .ok (.aload_n 0, 1) := by decide +kernel
theorem dR_ahead_17 : decode mR_ahead.2.1 17 = .ok (.getfield 57, 3) := by decide +kernel
theorem dR_ahead_20 : decode mR_ahead.2.1 20 = .ok (.if_icmp .ge (71), 3) := by decide +kernel
theorem dR_ahead_23 : decode mR_ahead.2.1 23 = .ok (.iload_n 2, 1) := by decide +kernel
theorem dR_ahead_24 : decode mR_ahead.2.1 24 = .ok (.aload_n 0, 1) := by decide +kernel
theorem dR_ahead_25 : decode mR_ahead.2.1 25 = .ok (.iload_n 3, 1) := by decide +kernel
theorem dR_ahead_26 : decode mR_ahead.2.1 26 = .ok (.aload_n 0, 1) := by decide +kernel
theorem dR_ahead_27 : decode mR_ahead.2.1 27 = .ok (.getfield 13, 3) := by decide +kernel
theorem dR_ahead_30 : decode mR_ahead.2.1 30 = .ok (.iload_n 1, 1) := by decide +kernel
theorem dR_ahead_31 : decode mR_ahead.2.1 31 = .ok (.iaload, 1) := by decide +kernel
theorem dR_ahead_32 : decode mR_ahead.2.1 32 = .ok (.aload_n 0, 1) := by decide +kernel
theorem dR_ahead_33 : decode mR_ahead.2.1 33 = .ok (.getfield 16, 3) := by decide +kernel
theorem dR_ahead_36 : decode mR_ahead.2.1 36 = .ok (.iload_n 1, 1) := by decide +kernel
theorem dR_ahead_37 : decode mR_ahead.2.1 37 = .ok (.iaload, 1) := by decide +kernel
theorem dR_ahead_38 : decode mR_ahead.2.1 38 = .ok (.invokevirtual 61, 3) := by decide +kernel
theorem dR_ahead_41 : decode mR_ahead.2.1 41 = .ok (.ifCond .eq (41), 3) := by decide +kernel
theorem dR_ahead_44 : decode mR_ahead.2.1 44 = .ok (.aload_n 0, 1) := by decide +kernel
theorem dR_ahead_45 : decode mR_ahead.2.1 45 = .ok (.getfield 22, 3) := by decide +kernel
theorem dR_ahead_48 : decode mR_ahead.2.1 48 = .ok (.iload_n 3, 1) := by decide +kernel
theorem dR_ahead_49 : decode mR_ahead.2.1 49 = .ok (.iaload, 1) := by decide +kernel
theorem dR_ahead_50 : decode mR_ahead.2.1 50 = .ok (.aload_n 0, 1) := by decide +kernel
theorem dR_ahead_51 : decode mR_ahead.2.1 51 = .ok (.getfield 22, 3) := by decide +kernel
theorem dR_ahead_54 : decode mR_ahead.2.1 54 = .ok (.iload_n 1, 1) := by decide +kernel
theorem dR_ahead_55 : decode mR_ahead.2.1 55 = .ok (.iaload, 1) := by decide +kernel
theorem dR_ahead_56 : decode mR_ahead.2.1 56 = .ok (.if_icmp .ne (26), 3) := by decide +kernel
theorem dR_ahead_59 : decode mR_ahead.2.1 59 = .ok (.aload_n 0, 1) := by decide +kernel
theorem dR_ahead_60 : decode mR_ahead.2.1 60 = .ok (.getfield 34, 3) := by decide +kernel
theorem dR_ahead_63 : decode mR_ahead.2.1 63 = .ok (.iload_n 3, 1) := by decide +kernel
theorem dR_ahead_64 : decode mR_ahead.2.1 64 = .ok (.iaload, 1) := by decide +kernel
theorem dR_ahead_65 : decode mR_ahead.2.1 65 = .ok (.aload_n 0, 1) := by decide +kernel
theorem dR_ahead_66 : decode mR_ahead.2.1 66 = .ok (.getfield 34, 3) := by decide +kernel
theorem dR_ahead_69 : decode mR_ahead.2.1 69 = .ok (.iload_n 1, 1) := by decide +kernel
theorem dR_ahead_70 : decode mR_ahead.2.1 70 = .ok (.iaload, 1) := by decide +kernel
theorem dR_ahead_71 : decode mR_ahead.2.1 71 = .ok (.if_icmp .ge (11), 3) := by decide +kernel
theorem dR_ahead_74 : decode mR_ahead.2.1 74 = .ok (.aload_n 0, 1) := by decide +kernel
theorem dR_ahead_75 : decode mR_ahead.2.1 75 = .ok (.iload_n 3, 1) := by decide +kernel
theorem dR_ahead_76 : decode mR_ahead.2.1 76 = .ok (.invokevirtual 82, 3) := by decide +kernel
theorem dR_ahead_79 : decode mR_ahead.2.1 79 = .ok (.goto (4), 3) := by decide +kernel
theorem dR_ahead_82 : decode mR_ahead.2.1 82 = .ok (.iconst 0, 1) := by decide +kernel
theorem dR_ahead_83 : decode mR_ahead.2.1 83 = .ok (.iadd, 1) := by decide +kernel
theorem dR_ahead_84 : decode mR_ahead.2.1 84 = .ok (.istore_n 2, 1) := by decide +kernel
theorem dR_ahead_85 : decode mR_ahead.2.1 85 = .ok (.iinc 3 (1), 3) := by decide +kernel
theorem dR_ahead_88 : decode mR_ahead.2.1 88 = .ok (.goto (-73), 3) := by decide +kernel
theorem dR_ahead_91 : decode mR_ahead.2.1 91 = .ok (.iload_n 2, 1) := by decide +kernel
theorem dR_ahead_92 : decode mR_ahead.2.1 92 = .ok (.ireturn, 1) := by decide +kernel
theorem dR_left_0 : decode mR_left.2.1 0 = .ok (.iload_n 1, 1) := by decide +kernel
theorem dR_left_1 : decode mR_left.2.1 1 = .ok (.iconst 0, 1) := by decide +kernel
theorem dR_left_2 : decode mR_left.2.1 2 = .ok (.aload_n 0, 1) := by decide +kernel
theorem dR_left_3 : decode mR_left.2.1 3 = .ok (.getfield 57, 3) := by decide +kernel
theorem dR_left_6 : decode mR_left.2.1 6 = .ok (.iconst 1, 1) := by decide +kernel
theorem dR_left_7 : decode mR_left.2.1 7 = .ok (.isub, 1) := by decide +kernel
theorem dR_left_8 : decode mR_left.2.1 8 = .ok (.invokestatic 98, 3) := by decide +kernel
theorem dR_left_11 : decode mR_left.2.1 11 = .ok (.ifCond .eq (7), 3) := by decide +kernel
theorem dR_left_14 : decode mR_left.2.1 14 = .ok (.iconst (-1), 1) := by decide +kernel
theorem dR_left_15 : decode mR_left.2.1 15 = .ok (.goto (9), 3) := by decide +kernel
theorem dR_left_18 : decode mR_left.2.1 18 = .ok (.aload_n 0, 1) := by decide +kernel
theorem dR_left_19 : decode mR_left.2.1 19 = .ok (.getfield 25, 3) := by decide +kernel
theorem dR_left_22 : decode mR_left.2.1 22 = .ok (.iload_n 1, 1) := by decide +kernel
theorem dR_left_23 : decode mR_left.2.1 23 = .ok (.iaload, 1) := by decide +kernel
theorem dR_left_24 : decode mR_left.2.1 24 = .ok (.ireturn, 1) := by decide +kernel
theorem dR_state_0 : decode mR_state.2.1 0 = .ok (.iload_n 1, 1) := by decide +kernel
theorem dR_state_1 : decode mR_state.2.1 1 = .ok (.iconst 0, 1) := by decide +kernel
theorem dR_state_2 : decode mR_state.2.1 2 = .ok (.aload_n 0, 1) := by decide +kernel
theorem dR_state_3 : decode mR_state.2.1 3 = .ok (.getfield 57, 3) := by decide +kernel
theorem dR_state_6 : decode mR_state.2.1 6 = .ok (.iconst 1, 1) := by decide +kernel
theorem dR_state_7 : decode mR_state.2.1 7 = .ok (.isub, 1) := by decide +kernel
theorem dR_state_8 : decode mR_state.2.1 8 = .ok (.invokestatic 98, 3) := by decide +kernel
theorem dR_state_11 : decode mR_state.2.1 11 = .ok (.ifCond .eq (7), 3) := by decide +kernel
theorem dR_state_14 : decode mR_state.2.1 14 = .ok (.iconst (-1), 1) := by decide +kernel
theorem dR_state_15 : decode mR_state.2.1 15 = .ok (.goto (9), 3) := by decide +kernel
theorem dR_state_18 : decode mR_state.2.1 18 = .ok (.aload_n 0, 1) := by decide +kernel
theorem dR_state_19 : decode mR_state.2.1 19 = .ok (.getfield 31, 3) := by decide +kernel
theorem dR_state_22 : decode mR_state.2.1 22 = .ok (.iload_n 1, 1) := by decide +kernel
theorem dR_state_23 : decode mR_state.2.1 23 = .ok (.iaload, 1) := by decide +kernel
theorem dR_state_24 : decode mR_state.2.1 24 = .ok (.ireturn, 1) := by decide +kernel
theorem dR_trades_0 : decode mR_trades.2.1 0 = .ok (.aload_n 0, 1) := by decide +kernel
theorem dR_trades_1 : decode mR_trades.2.1 1 = .ok (.getfield 71, 3) := by decide +kernel
theorem dR_trades_4 : decode mR_trades.2.1 4 = .ok (.ireturn, 1) := by decide +kernel
theorem dR_trade_0 : decode mR_trade.2.1 0 = .ok (.iload_n 2, 1) := by decide +kernel
theorem dR_trade_1 : decode mR_trade.2.1 1 = .ok (.iconst 0, 1) := by decide +kernel
theorem dR_trade_2 : decode mR_trade.2.1 2 = .ok (.iconst 3, 1) := by decide +kernel
theorem dR_trade_3 : decode mR_trade.2.1 3 = .ok (.invokestatic 98, 3) := by decide +kernel
theorem dR_trade_6 : decode mR_trade.2.1 6 = .ok (.ifCond .eq (5), 3) := by decide +kernel
theorem dR_trade_9 : decode mR_trade.2.1 9 = .ok (.iconst (-1), 1) := by decide +kernel
theorem dR_trade_10 : decode mR_trade.2.1 10 = .ok (.ireturn, 1) := by decide +kernel
theorem dR_trade_11 : decode mR_trade.2.1 11 = .ok (.iload_n 1, 1) := by decide +kernel
theorem dR_trade_12 : decode mR_trade.2.1 12 = .ok (.ifCond .lt (22), 3) := by decide +kernel
theorem dR_trade_15 : decode mR_trade.2.1 15 = .ok (.iload_n 1, 1) := by decide +kernel
theorem dR_trade_16 : decode mR_trade.2.1 16 = .ok (.aload_n 0, 1) := by decide +kernel
theorem dR_trade_17 : decode mR_trade.2.1 17 = .ok (.getfield 71, 3) := by decide +kernel
theorem dR_trade_20 : decode mR_trade.2.1 20 = .ok (.if_icmp .ge (14), 3) := by decide +kernel
theorem dR_trade_23 : decode mR_trade.2.1 23 = .ok (.iload_n 1, 1) := by decide +kernel
theorem dR_trade_24 : decode mR_trade.2.1 24 = .ok (.aload_n 0, 1) := by decide +kernel
theorem dR_trade_25 : decode mR_trade.2.1 25 = .ok (.getfield 71, 3) := by decide +kernel
theorem dR_trade_28 : decode mR_trade.2.1 28 = .ok (.bipush (100), 2) := by decide +kernel
theorem dR_trade_30 : decode mR_trade.2.1 30 = .ok (.isub, 1) := by decide +kernel
theorem dR_trade_31 : decode mR_trade.2.1 31 = .ok (.if_icmp .ge (8), 3) := by decide +kernel
theorem dR_trade_34 : decode mR_trade.2.1 34 = .ok (.bipush (-6), 2) := by decide +kernel
theorem dR_trade_36 : decode mR_trade.2.1 36 = .ok (.goto (16), 3) := by decide +kernel
theorem dR_trade_39 : decode mR_trade.2.1 39 = .ok (.aload_n 0, 1) := by decide +kernel
theorem dR_trade_40 : decode mR_trade.2.1 40 = .ok (.getfield 54, 3) := by decide +kernel
theorem dR_trade_43 : decode mR_trade.2.1 43 = .ok (.iload_n 1, 1) := by decide +kernel
theorem dR_trade_44 : decode mR_trade.2.1 44 = .ok (.bipush (100), 2) := by decide +kernel
theorem dR_trade_46 : decode mR_trade.2.1 46 = .ok (.irem, 1) := by decide +kernel
theorem dR_trade_47 : decode mR_trade.2.1 47 = .ok (.iconst 4, 1) := by decide +kernel
theorem dR_trade_48 : decode mR_trade.2.1 48 = .ok (.imul, 1) := by decide +kernel
theorem dR_trade_49 : decode mR_trade.2.1 49 = .ok (.iload_n 2, 1) := by decide +kernel
theorem dR_trade_50 : decode mR_trade.2.1 50 = .ok (.iadd, 1) := by decide +kernel
theorem dR_trade_51 : decode mR_trade.2.1 51 = .ok (.iaload, 1) := by decide +kernel
theorem dR_trade_52 : decode mR_trade.2.1 52 = .ok (.ireturn, 1) := by decide +kernel
theorem dR_position_0 : decode mR_position.2.1 0 = .ok (.iload_n 1, 1) := by decide +kernel
theorem dR_position_1 : decode mR_position.2.1 1 = .ok (.invokestatic 101, 3) := by decide +kernel
theorem dR_position_4 : decode mR_position.2.1 4 = .ok (.ifCond .ne (12), 3) := by decide +kernel
theorem dR_position_7 : decode mR_position.2.1 7 = .ok (.iload_n 2, 1) := by decide +kernel
theorem dR_position_8 : decode mR_position.2.1 8 = .ok (.iconst 0, 1) := by decide +kernel
theorem dR_position_9 : decode mR_position.2.1 9 = .ok (.iconst 1, 1) := by decide +kernel
theorem dR_position_10 : decode mR_position.2.1 10 = .ok (.invokestatic 98, 3) := by decide +kernel
theorem dR_position_13 : decode mR_position.2.1 13 = .ok (.ifCond .eq (7), 3) := by decide +kernel
theorem dR_position_16 : decode mR_position.2.1 16 = .ok (.iconst 0, 1) := by decide +kernel
theorem dR_position_17 : decode mR_position.2.1 17 = .ok (.goto (13), 3) := by decide +kernel
theorem dR_position_20 : decode mR_position.2.1 20 = .ok (.aload_n 0, 1) := by decide +kernel
theorem dR_position_21 : decode mR_position.2.1 21 = .ok (.getfield 44, 3) := by decide +kernel
theorem dR_position_24 : decode mR_position.2.1 24 = .ok (.iconst 2, 1) := by decide +kernel
theorem dR_position_25 : decode mR_position.2.1 25 = .ok (.iload_n 1, 1) := by decide +kernel
theorem dR_position_26 : decode mR_position.2.1 26 = .ok (.imul, 1) := by decide +kernel
theorem dR_position_27 : decode mR_position.2.1 27 = .ok (.iload_n 2, 1) := by decide +kernel
theorem dR_position_28 : decode mR_position.2.1 28 = .ok (.iadd, 1) := by decide +kernel
theorem dR_position_29 : decode mR_position.2.1 29 = .ok (.iaload, 1) := by decide +kernel
theorem dR_position_30 : decode mR_position.2.1 30 = .ok (.ireturn, 1) := by decide +kernel
theorem dR_money_0 : decode mR_money.2.1 0 = .ok (.iload_n 1, 1) := by decide +kernel
theorem dR_money_1 : decode mR_money.2.1 1 = .ok (.invokestatic 101, 3) := by decide +kernel
theorem dR_money_4 : decode mR_money.2.1 4 = .ok (.ifCond .eq (7), 3) := by decide +kernel
theorem dR_money_7 : decode mR_money.2.1 7 = .ok (.lconst 0, 1) := by decide +kernel
theorem dR_money_8 : decode mR_money.2.1 8 = .ok (.goto (9), 3) := by decide +kernel
theorem dR_money_11 : decode mR_money.2.1 11 = .ok (.aload_n 0, 1) := by decide +kernel
theorem dR_money_12 : decode mR_money.2.1 12 = .ok (.getfield 37, 3) := by decide +kernel
theorem dR_money_15 : decode mR_money.2.1 15 = .ok (.iload_n 1, 1) := by decide +kernel
theorem dR_money_16 : decode mR_money.2.1 16 = .ok (.laload, 1) := by decide +kernel
theorem dR_money_17 : decode mR_money.2.1 17 = .ok (.lreturn, 1) := by decide +kernel
theorem dR_owed_0 : decode mR_owed.2.1 0 = .ok (.iload_n 1, 1) := by decide +kernel
theorem dR_owed_1 : decode mR_owed.2.1 1 = .ok (.invokestatic 101, 3) := by decide +kernel
theorem dR_owed_4 : decode mR_owed.2.1 4 = .ok (.ifCond .eq (7), 3) := by decide +kernel
theorem dR_owed_7 : decode mR_owed.2.1 7 = .ok (.lconst 0, 1) := by decide +kernel
theorem dR_owed_8 : decode mR_owed.2.1 8 = .ok (.goto (9), 3) := by decide +kernel
theorem dR_owed_11 : decode mR_owed.2.1 11 = .ok (.aload_n 0, 1) := by decide +kernel
theorem dR_owed_12 : decode mR_owed.2.1 12 = .ok (.getfield 41, 3) := by decide +kernel
theorem dR_owed_15 : decode mR_owed.2.1 15 = .ok (.iload_n 1, 1) := by decide +kernel
theorem dR_owed_16 : decode mR_owed.2.1 16 = .ok (.laload, 1) := by decide +kernel
theorem dR_owed_17 : decode mR_owed.2.1 17 = .ok (.lreturn, 1) := by decide +kernel
theorem dR_risk_0 : decode mR_risk.2.1 0 = .ok (.iload_n 1, 1) := by decide +kernel
theorem dR_risk_1 : decode mR_risk.2.1 1 = .ok (.invokestatic 101, 3) := by decide +kernel
theorem dR_risk_4 : decode mR_risk.2.1 4 = .ok (.ifCond .eq (7), 3) := by decide +kernel
theorem dR_risk_7 : decode mR_risk.2.1 7 = .ok (.lconst 0, 1) := by decide +kernel
theorem dR_risk_8 : decode mR_risk.2.1 8 = .ok (.goto (11), 3) := by decide +kernel
theorem dR_risk_11 : decode mR_risk.2.1 11 = .ok (.aload_n 0, 1) := by decide +kernel
theorem dR_risk_12 : decode mR_risk.2.1 12 = .ok (.iload_n 1, 1) := by decide +kernel
theorem dR_risk_13 : decode mR_risk.2.1 13 = .ok (.iconst 0, 1) := by decide +kernel
theorem dR_risk_14 : decode mR_risk.2.1 14 = .ok (.iconst 0, 1) := by decide +kernel
theorem dR_risk_15 : decode mR_risk.2.1 15 = .ok (.iconst 0, 1) := by decide +kernel
theorem dR_risk_16 : decode mR_risk.2.1 16 = .ok (.invokevirtual 107, 3) := by decide +kernel
theorem dR_risk_19 : decode mR_risk.2.1 19 = .ok (.lreturn, 1) := by decide +kernel
theorem dR_settle_0 : decode mR_settle.2.1 0 = .ok (.iconst 0, 1) := by decide +kernel
theorem dR_settle_1 : decode mR_settle.2.1 1 = .ok (.istore_n 1, 1) := by decide +kernel
theorem dR_settle_2 : decode mR_settle.2.1 2 = .ok (.iconst 0, 1) := by decide +kernel
theorem dR_settle_3 : decode mR_settle.2.1 3 = .ok (.istore_n 2, 1) := by decide +kernel
theorem dR_settle_4 : decode mR_settle.2.1 4 = .ok (.iload_n 2, 1) := by decide +kernel
theorem dR_settle_5 : decode mR_settle.2.1 5 = .ok (.aload_n 0, 1) := by decide +kernel
theorem dR_settle_6 : decode mR_settle.2.1 6 = .ok (.getfield 57, 3) := by decide +kernel
theorem dR_settle_9 : decode mR_settle.2.1 9 = .ok (.if_icmp .ge (34), 3) := by decide +kernel
theorem dR_settle_12 : decode mR_settle.2.1 12 = .ok (.aload_n 0, 1) := by decide +kernel
theorem dR_settle_13 : decode mR_settle.2.1 13 = .ok (.getfield 31, 3) := by decide +kernel
theorem dR_settle_16 : decode mR_settle.2.1 16 = .ok (.iload_n 2, 1) := by decide +kernel
theorem dR_settle_17 : decode mR_settle.2.1 17 = .ok (.aload_n 0, 1) := by decide +kernel
theorem dR_settle_18 : decode mR_settle.2.1 18 = .ok (.getfield 31, 3) := by decide +kernel
theorem dR_settle_21 : decode mR_settle.2.1 21 = .ok (.iload_n 2, 1) := by decide +kernel
theorem dR_settle_22 : decode mR_settle.2.1 22 = .ok (.iaload, 1) := by decide +kernel
theorem dR_settle_23 : decode mR_settle.2.1 23 = .ok (.ifCond .ne (7), 3) := by decide +kernel
theorem dR_settle_26 : decode mR_settle.2.1 26 = .ok (.iconst 2, 1) := by decide +kernel
theorem dR_settle_27 : decode mR_settle.2.1 27 = .ok (.goto (9), 3) := by decide +kernel
theorem dR_settle_30 : decode mR_settle.2.1 30 = .ok (.aload_n 0, 1) := by decide +kernel
theorem dR_settle_31 : decode mR_settle.2.1 31 = .ok (.getfield 31, 3) := by decide +kernel
theorem dR_settle_34 : decode mR_settle.2.1 34 = .ok (.iload_n 2, 1) := by decide +kernel
theorem dR_settle_35 : decode mR_settle.2.1 35 = .ok (.iaload, 1) := by decide +kernel
theorem dR_settle_36 : decode mR_settle.2.1 36 = .ok (.iastore, 1) := by decide +kernel
theorem dR_settle_37 : decode mR_settle.2.1 37 = .ok (.iinc 2 (1), 3) := by decide +kernel
theorem dR_settle_40 : decode mR_settle.2.1 40 = .ok (.goto (-36), 3) := by decide +kernel
theorem dR_settle_43 : decode mR_settle.2.1 43 = .ok (.aload_n 0, 1) := by decide +kernel
theorem dR_settle_44 : decode mR_settle.2.1 44 = .ok (.getfield 47, 3) := by decide +kernel
theorem dR_settle_47 : decode mR_settle.2.1 47 = .ok (.iconst 0, 1) := by decide +kernel
theorem dR_settle_48 : decode mR_settle.2.1 48 = .ok (.iconst 0, 1) := by decide +kernel
theorem dR_settle_49 : decode mR_settle.2.1 49 = .ok (.bastore, 1) := by decide +kernel
theorem dR_settle_50 : decode mR_settle.2.1 50 = .ok (.aload_n 0, 1) := by decide +kernel
theorem dR_settle_51 : decode mR_settle.2.1 51 = .ok (.getfield 47, 3) := by decide +kernel
theorem dR_settle_54 : decode mR_settle.2.1 54 = .ok (.iconst 1, 1) := by decide +kernel
theorem dR_settle_55 : decode mR_settle.2.1 55 = .ok (.iconst 0, 1) := by decide +kernel
theorem dR_settle_56 : decode mR_settle.2.1 56 = .ok (.bastore, 1) := by decide +kernel
theorem dR_settle_57 : decode mR_settle.2.1 57 = .ok (.iconst 0, 1) := by decide +kernel
theorem dR_settle_58 : decode mR_settle.2.1 58 = .ok (.istore_n 2, 1) := by decide +kernel
theorem dR_settle_59 : decode mR_settle.2.1 59 = .ok (.iload_n 2, 1) := by decide +kernel
theorem dR_settle_60 : decode mR_settle.2.1 60 = .ok (.iconst 5, 1) := by decide +kernel
theorem dR_settle_61 : decode mR_settle.2.1 61 = .ok (.if_icmp .ge (50), 3) := by decide +kernel
theorem dR_settle_64 : decode mR_settle.2.1 64 = .ok (.aload_n 0, 1) := by decide +kernel
theorem dR_settle_65 : decode mR_settle.2.1 65 = .ok (.getfield 41, 3) := by decide +kernel
theorem dR_settle_68 : decode mR_settle.2.1 68 = .ok (.iload_n 2, 1) := by decide +kernel
theorem dR_settle_69 : decode mR_settle.2.1 69 = .ok (.laload, 1) := by decide +kernel
theorem dR_settle_70 : decode mR_settle.2.1 70 = .ok (.lconst 0, 1) := by decide +kernel
theorem dR_settle_71 : decode mR_settle.2.1 71 = .ok (.lcmp, 1) := by decide +kernel
theorem dR_settle_72 : decode mR_settle.2.1 72 = .ok (.ifCond .ne (7), 3) := by decide +kernel
theorem dR_settle_75 : decode mR_settle.2.1 75 = .ok (.iload_n 1, 1) := by decide +kernel
theorem dR_settle_76 : decode mR_settle.2.1 76 = .ok (.goto (6), 3) := by decide +kernel
theorem dR_settle_79 : decode mR_settle.2.1 79 = .ok (.iload_n 1, 1) := by decide +kernel
theorem dR_settle_80 : decode mR_settle.2.1 80 = .ok (.iconst 1, 1) := by decide +kernel
theorem dR_settle_81 : decode mR_settle.2.1 81 = .ok (.iadd, 1) := by decide +kernel
theorem dR_settle_82 : decode mR_settle.2.1 82 = .ok (.istore_n 1, 1) := by decide +kernel
theorem dR_settle_83 : decode mR_settle.2.1 83 = .ok (.aload_n 0, 1) := by decide +kernel
theorem dR_settle_84 : decode mR_settle.2.1 84 = .ok (.getfield 37, 3) := by decide +kernel
theorem dR_settle_87 : decode mR_settle.2.1 87 = .ok (.iload_n 2, 1) := by decide +kernel
theorem dR_settle_88 : decode mR_settle.2.1 88 = .ok (.dup2, 1) := by decide +kernel
theorem dR_settle_89 : decode mR_settle.2.1 89 = .ok (.laload, 1) := by decide +kernel
theorem dR_settle_90 : decode mR_settle.2.1 90 = .ok (.aload_n 0, 1) := by decide +kernel
theorem dR_settle_91 : decode mR_settle.2.1 91 = .ok (.getfield 41, 3) := by decide +kernel
theorem dR_settle_94 : decode mR_settle.2.1 94 = .ok (.iload_n 2, 1) := by decide +kernel
theorem dR_settle_95 : decode mR_settle.2.1 95 = .ok (.laload, 1) := by decide +kernel
theorem dR_settle_96 : decode mR_settle.2.1 96 = .ok (.ladd, 1) := by decide +kernel
theorem dR_settle_97 : decode mR_settle.2.1 97 = .ok (.lastore, 1) := by decide +kernel
theorem dR_settle_98 : decode mR_settle.2.1 98 = .ok (.aload_n 0, 1) := by decide +kernel
theorem dR_settle_99 : decode mR_settle.2.1 99 = .ok (.getfield 41, 3) := by decide +kernel
theorem dR_settle_102 : decode mR_settle.2.1 102 = .ok (.iload_n 2, 1) := by decide +kernel
theorem dR_settle_103 : decode mR_settle.2.1 103 = .ok (.lconst 0, 1) := by decide +kernel
theorem dR_settle_104 : decode mR_settle.2.1 104 = .ok (.lastore, 1) := by decide +kernel
theorem dR_settle_105 : decode mR_settle.2.1 105 = .ok (.iinc 2 (1), 3) := by decide +kernel
theorem dR_settle_108 : decode mR_settle.2.1 108 = .ok (.goto (-49), 3) := by decide +kernel
theorem dR_settle_111 : decode mR_settle.2.1 111 = .ok (.iload_n 1, 1) := by decide +kernel
theorem dR_settle_112 : decode mR_settle.2.1 112 = .ok (.ireturn, 1) := by decide +kernel
theorem dL_law_0 : decode mL_law.2.1 0 = .ok (.new 7, 3) := by decide +kernel
theorem dL_law_3 : decode mL_law.2.1 3 = .ok (.dup, 1) := by decide +kernel
theorem dL_law_4 : decode mL_law.2.1 4 = .ok (.invokespecial 9, 3) := by decide +kernel
theorem dL_law_7 : decode mL_law.2.1 7 = .ok (.astore_n 1, 1) := by decide +kernel
theorem dL_law_8 : decode mL_law.2.1 8 = .ok (.new 10, 3) := by decide +kernel
theorem dL_law_11 : decode mL_law.2.1 11 = .ok (.dup, 1) := by decide +kernel
theorem dL_law_12 : decode mL_law.2.1 12 = .ok (.invokespecial 12, 3) := by decide +kernel
theorem dL_law_15 : decode mL_law.2.1 15 = .ok (.astore_n 2, 1) := by decide +kernel
theorem dL_law_16 : decode mL_law.2.1 16 = .ok (.iconst 0, 1) := by decide +kernel
theorem dL_law_17 : decode mL_law.2.1 17 = .ok (.istore_n 3, 1) := by decide +kernel
theorem dL_law_18 : decode mL_law.2.1 18 = .ok (.iload_n 3, 1) := by decide +kernel
theorem dL_law_19 : decode mL_law.2.1 19 = .ok (.aload_n 0, 1) := by decide +kernel
theorem dL_law_20 : decode mL_law.2.1 20 = .ok (.arraylength, 1) := by decide +kernel
theorem dL_law_21 : decode mL_law.2.1 21 = .ok (.bipush (6), 2) := by decide +kernel
theorem dL_law_23 : decode mL_law.2.1 23 = .ok (.isub, 1) := by decide +kernel
theorem dL_law_24 : decode mL_law.2.1 24 = .ok (.if_icmp .gt (663), 3) := by decide +kernel
theorem dL_law_27 : decode mL_law.2.1 27 = .ok (.aload_n 0, 1) := by decide +kernel
theorem dL_law_28 : decode mL_law.2.1 28 = .ok (.iload_n 3, 1) := by decide +kernel
theorem dL_law_29 : decode mL_law.2.1 29 = .ok (.iaload, 1) := by decide +kernel
theorem dL_law_30 : decode mL_law.2.1 30 = .ok (.bipush (31), 2) := by decide +kernel
theorem dL_law_32 : decode mL_law.2.1 32 = .ok (.iand, 1) := by decide +kernel
theorem dL_law_33 : decode mL_law.2.1 33 = .ok (.tableswitch (648) (0) (18) #[(91), (124), (187), (220), (263), (286), (309), (342), (375), (418), (441), (464), (487), (500), (533), (566), (589), (612), (635)], 91) := by decide +kernel
theorem dL_law_124 : decode mL_law.2.1 124 = .ok (.aload_n 1, 1) := by decide +kernel
theorem dL_law_125 : decode mL_law.2.1 125 = .ok (.aload_n 0, 1) := by decide +kernel
theorem dL_law_126 : decode mL_law.2.1 126 = .ok (.iload_n 3, 1) := by decide +kernel
theorem dL_law_127 : decode mL_law.2.1 127 = .ok (.iconst 1, 1) := by decide +kernel
theorem dL_law_128 : decode mL_law.2.1 128 = .ok (.iadd, 1) := by decide +kernel
theorem dL_law_129 : decode mL_law.2.1 129 = .ok (.iaload, 1) := by decide +kernel
theorem dL_law_130 : decode mL_law.2.1 130 = .ok (.aload_n 0, 1) := by decide +kernel
theorem dL_law_131 : decode mL_law.2.1 131 = .ok (.iload_n 3, 1) := by decide +kernel
theorem dL_law_132 : decode mL_law.2.1 132 = .ok (.iconst 2, 1) := by decide +kernel
theorem dL_law_133 : decode mL_law.2.1 133 = .ok (.iadd, 1) := by decide +kernel
theorem dL_law_134 : decode mL_law.2.1 134 = .ok (.iaload, 1) := by decide +kernel
theorem dL_law_135 : decode mL_law.2.1 135 = .ok (.invokevirtual 13, 3) := by decide +kernel
theorem dL_law_138 : decode mL_law.2.1 138 = .ok (.pop, 1) := by decide +kernel
theorem dL_law_139 : decode mL_law.2.1 139 = .ok (.aload_n 2, 1) := by decide +kernel
theorem dL_law_140 : decode mL_law.2.1 140 = .ok (.aload_n 0, 1) := by decide +kernel
theorem dL_law_141 : decode mL_law.2.1 141 = .ok (.iload_n 3, 1) := by decide +kernel
theorem dL_law_142 : decode mL_law.2.1 142 = .ok (.iconst 1, 1) := by decide +kernel
theorem dL_law_143 : decode mL_law.2.1 143 = .ok (.iadd, 1) := by decide +kernel
theorem dL_law_144 : decode mL_law.2.1 144 = .ok (.iaload, 1) := by decide +kernel
theorem dL_law_145 : decode mL_law.2.1 145 = .ok (.aload_n 0, 1) := by decide +kernel
theorem dL_law_146 : decode mL_law.2.1 146 = .ok (.iload_n 3, 1) := by decide +kernel
theorem dL_law_147 : decode mL_law.2.1 147 = .ok (.iconst 2, 1) := by decide +kernel
theorem dL_law_148 : decode mL_law.2.1 148 = .ok (.iadd, 1) := by decide +kernel
theorem dL_law_149 : decode mL_law.2.1 149 = .ok (.iaload, 1) := by decide +kernel
theorem dL_law_150 : decode mL_law.2.1 150 = .ok (.invokevirtual 17, 3) := by decide +kernel
theorem dL_law_153 : decode mL_law.2.1 153 = .ok (.pop, 1) := by decide +kernel
theorem dL_law_154 : decode mL_law.2.1 154 = .ok (.goto (527), 3) := by decide +kernel
theorem dL_law_157 : decode mL_law.2.1 157 = .ok (.aload_n 1, 1) := by decide +kernel
theorem dL_law_158 : decode mL_law.2.1 158 = .ok (.aload_n 0, 1) := by decide +kernel
theorem dL_law_159 : decode mL_law.2.1 159 = .ok (.iload_n 3, 1) := by decide +kernel
theorem dL_law_160 : decode mL_law.2.1 160 = .ok (.iconst 1, 1) := by decide +kernel
theorem dL_law_161 : decode mL_law.2.1 161 = .ok (.iadd, 1) := by decide +kernel
theorem dL_law_162 : decode mL_law.2.1 162 = .ok (.iaload, 1) := by decide +kernel
theorem dL_law_163 : decode mL_law.2.1 163 = .ok (.aload_n 0, 1) := by decide +kernel
theorem dL_law_164 : decode mL_law.2.1 164 = .ok (.iload_n 3, 1) := by decide +kernel
theorem dL_law_165 : decode mL_law.2.1 165 = .ok (.iconst 2, 1) := by decide +kernel
theorem dL_law_166 : decode mL_law.2.1 166 = .ok (.iadd, 1) := by decide +kernel
theorem dL_law_167 : decode mL_law.2.1 167 = .ok (.iaload, 1) := by decide +kernel
theorem dL_law_168 : decode mL_law.2.1 168 = .ok (.aload_n 0, 1) := by decide +kernel
theorem dL_law_169 : decode mL_law.2.1 169 = .ok (.iload_n 3, 1) := by decide +kernel
theorem dL_law_170 : decode mL_law.2.1 170 = .ok (.iconst 3, 1) := by decide +kernel
theorem dL_law_171 : decode mL_law.2.1 171 = .ok (.iadd, 1) := by decide +kernel
theorem dL_law_172 : decode mL_law.2.1 172 = .ok (.iaload, 1) := by decide +kernel
theorem dL_law_173 : decode mL_law.2.1 173 = .ok (.aload_n 0, 1) := by decide +kernel
theorem dL_law_174 : decode mL_law.2.1 174 = .ok (.iload_n 3, 1) := by decide +kernel
theorem dL_law_175 : decode mL_law.2.1 175 = .ok (.iconst 4, 1) := by decide +kernel
theorem dL_law_176 : decode mL_law.2.1 176 = .ok (.iadd, 1) := by decide +kernel
theorem dL_law_177 : decode mL_law.2.1 177 = .ok (.iaload, 1) := by decide +kernel
theorem dL_law_178 : decode mL_law.2.1 178 = .ok (.aload_n 0, 1) := by decide +kernel
theorem dL_law_179 : decode mL_law.2.1 179 = .ok (.iload_n 3, 1) := by decide +kernel
theorem dL_law_180 : decode mL_law.2.1 180 = .ok (.iconst 5, 1) := by decide +kernel
theorem dL_law_181 : decode mL_law.2.1 181 = .ok (.iadd, 1) := by decide +kernel
theorem dL_law_182 : decode mL_law.2.1 182 = .ok (.iaload, 1) := by decide +kernel
theorem dL_law_183 : decode mL_law.2.1 183 = .ok (.invokevirtual 18, 3) := by decide +kernel
theorem dL_law_186 : decode mL_law.2.1 186 = .ok (.pop, 1) := by decide +kernel
theorem dL_law_187 : decode mL_law.2.1 187 = .ok (.aload_n 2, 1) := by decide +kernel
theorem dL_law_188 : decode mL_law.2.1 188 = .ok (.aload_n 0, 1) := by decide +kernel
theorem dL_law_189 : decode mL_law.2.1 189 = .ok (.iload_n 3, 1) := by decide +kernel
theorem dL_law_190 : decode mL_law.2.1 190 = .ok (.iconst 1, 1) := by decide +kernel
theorem dL_law_191 : decode mL_law.2.1 191 = .ok (.iadd, 1) := by decide +kernel
theorem dL_law_192 : decode mL_law.2.1 192 = .ok (.iaload, 1) := by decide +kernel
theorem dL_law_193 : decode mL_law.2.1 193 = .ok (.aload_n 0, 1) := by decide +kernel
theorem dL_law_194 : decode mL_law.2.1 194 = .ok (.iload_n 3, 1) := by decide +kernel
theorem dL_law_195 : decode mL_law.2.1 195 = .ok (.iconst 2, 1) := by decide +kernel
theorem dL_law_196 : decode mL_law.2.1 196 = .ok (.iadd, 1) := by decide +kernel
theorem dL_law_197 : decode mL_law.2.1 197 = .ok (.iaload, 1) := by decide +kernel
theorem dL_law_198 : decode mL_law.2.1 198 = .ok (.aload_n 0, 1) := by decide +kernel
theorem dL_law_199 : decode mL_law.2.1 199 = .ok (.iload_n 3, 1) := by decide +kernel
theorem dL_law_200 : decode mL_law.2.1 200 = .ok (.iconst 3, 1) := by decide +kernel
theorem dL_law_201 : decode mL_law.2.1 201 = .ok (.iadd, 1) := by decide +kernel
theorem dL_law_202 : decode mL_law.2.1 202 = .ok (.iaload, 1) := by decide +kernel
theorem dL_law_203 : decode mL_law.2.1 203 = .ok (.aload_n 0, 1) := by decide +kernel
theorem dL_law_204 : decode mL_law.2.1 204 = .ok (.iload_n 3, 1) := by decide +kernel
theorem dL_law_205 : decode mL_law.2.1 205 = .ok (.iconst 4, 1) := by decide +kernel
theorem dL_law_206 : decode mL_law.2.1 206 = .ok (.iadd, 1) := by decide +kernel
theorem dL_law_207 : decode mL_law.2.1 207 = .ok (.iaload, 1) := by decide +kernel
theorem dL_law_208 : decode mL_law.2.1 208 = .ok (.aload_n 0, 1) := by decide +kernel
theorem dL_law_209 : decode mL_law.2.1 209 = .ok (.iload_n 3, 1) := by decide +kernel
theorem dL_law_210 : decode mL_law.2.1 210 = .ok (.iconst 5, 1) := by decide +kernel
theorem dL_law_211 : decode mL_law.2.1 211 = .ok (.iadd, 1) := by decide +kernel
theorem dL_law_212 : decode mL_law.2.1 212 = .ok (.iaload, 1) := by decide +kernel
theorem dL_law_213 : decode mL_law.2.1 213 = .ok (.invokevirtual 22, 3) := by decide +kernel
theorem dL_law_216 : decode mL_law.2.1 216 = .ok (.pop, 1) := by decide +kernel
theorem dL_law_217 : decode mL_law.2.1 217 = .ok (.goto (464), 3) := by decide +kernel
theorem dL_law_220 : decode mL_law.2.1 220 = .ok (.aload_n 1, 1) := by decide +kernel
theorem dL_law_221 : decode mL_law.2.1 221 = .ok (.aload_n 0, 1) := by decide +kernel
theorem dL_law_222 : decode mL_law.2.1 222 = .ok (.iload_n 3, 1) := by decide +kernel
theorem dL_law_223 : decode mL_law.2.1 223 = .ok (.iconst 1, 1) := by decide +kernel
theorem dL_law_224 : decode mL_law.2.1 224 = .ok (.iadd, 1) := by decide +kernel
theorem dL_law_225 : decode mL_law.2.1 225 = .ok (.iaload, 1) := by decide +kernel
theorem dL_law_226 : decode mL_law.2.1 226 = .ok (.aload_n 0, 1) := by decide +kernel
theorem dL_law_227 : decode mL_law.2.1 227 = .ok (.iload_n 3, 1) := by decide +kernel
theorem dL_law_228 : decode mL_law.2.1 228 = .ok (.iconst 2, 1) := by decide +kernel
theorem dL_law_229 : decode mL_law.2.1 229 = .ok (.iadd, 1) := by decide +kernel
theorem dL_law_230 : decode mL_law.2.1 230 = .ok (.iaload, 1) := by decide +kernel
theorem dL_law_231 : decode mL_law.2.1 231 = .ok (.invokevirtual 23, 3) := by decide +kernel
theorem dL_law_234 : decode mL_law.2.1 234 = .ok (.pop, 1) := by decide +kernel
theorem dL_law_235 : decode mL_law.2.1 235 = .ok (.aload_n 2, 1) := by decide +kernel
theorem dL_law_236 : decode mL_law.2.1 236 = .ok (.aload_n 0, 1) := by decide +kernel
theorem dL_law_237 : decode mL_law.2.1 237 = .ok (.iload_n 3, 1) := by decide +kernel
theorem dL_law_238 : decode mL_law.2.1 238 = .ok (.iconst 1, 1) := by decide +kernel
theorem dL_law_239 : decode mL_law.2.1 239 = .ok (.iadd, 1) := by decide +kernel
theorem dL_law_240 : decode mL_law.2.1 240 = .ok (.iaload, 1) := by decide +kernel
theorem dL_law_241 : decode mL_law.2.1 241 = .ok (.aload_n 0, 1) := by decide +kernel
theorem dL_law_242 : decode mL_law.2.1 242 = .ok (.iload_n 3, 1) := by decide +kernel
theorem dL_law_243 : decode mL_law.2.1 243 = .ok (.iconst 2, 1) := by decide +kernel
theorem dL_law_244 : decode mL_law.2.1 244 = .ok (.iadd, 1) := by decide +kernel
theorem dL_law_245 : decode mL_law.2.1 245 = .ok (.iaload, 1) := by decide +kernel
theorem dL_law_246 : decode mL_law.2.1 246 = .ok (.invokevirtual 26, 3) := by decide +kernel
theorem dL_law_249 : decode mL_law.2.1 249 = .ok (.pop, 1) := by decide +kernel
theorem dL_law_250 : decode mL_law.2.1 250 = .ok (.goto (431), 3) := by decide +kernel
theorem dL_law_253 : decode mL_law.2.1 253 = .ok (.aload_n 1, 1) := by decide +kernel
theorem dL_law_254 : decode mL_law.2.1 254 = .ok (.aload_n 0, 1) := by decide +kernel
theorem dL_law_255 : decode mL_law.2.1 255 = .ok (.iload_n 3, 1) := by decide +kernel
theorem dL_law_256 : decode mL_law.2.1 256 = .ok (.iconst 1, 1) := by decide +kernel
theorem dL_law_257 : decode mL_law.2.1 257 = .ok (.iadd, 1) := by decide +kernel
theorem dL_law_258 : decode mL_law.2.1 258 = .ok (.iaload, 1) := by decide +kernel
theorem dL_law_259 : decode mL_law.2.1 259 = .ok (.aload_n 0, 1) := by decide +kernel
theorem dL_law_260 : decode mL_law.2.1 260 = .ok (.iload_n 3, 1) := by decide +kernel
theorem dL_law_261 : decode mL_law.2.1 261 = .ok (.iconst 2, 1) := by decide +kernel
theorem dL_law_262 : decode mL_law.2.1 262 = .ok (.iadd, 1) := by decide +kernel
theorem dL_law_263 : decode mL_law.2.1 263 = .ok (.iaload, 1) := by decide +kernel
theorem dL_law_264 : decode mL_law.2.1 264 = .ok (.aload_n 0, 1) := by decide +kernel
theorem dL_law_265 : decode mL_law.2.1 265 = .ok (.iload_n 3, 1) := by decide +kernel
theorem dL_law_266 : decode mL_law.2.1 266 = .ok (.iconst 3, 1) := by decide +kernel
theorem dL_law_267 : decode mL_law.2.1 267 = .ok (.iadd, 1) := by decide +kernel
theorem dL_law_268 : decode mL_law.2.1 268 = .ok (.iaload, 1) := by decide +kernel
theorem dL_law_269 : decode mL_law.2.1 269 = .ok (.invokevirtual 27, 3) := by decide +kernel
theorem dL_law_272 : decode mL_law.2.1 272 = .ok (.pop, 1) := by decide +kernel
theorem dL_law_273 : decode mL_law.2.1 273 = .ok (.aload_n 2, 1) := by decide +kernel
theorem dL_law_274 : decode mL_law.2.1 274 = .ok (.aload_n 0, 1) := by decide +kernel
theorem dL_law_275 : decode mL_law.2.1 275 = .ok (.iload_n 3, 1) := by decide +kernel
theorem dL_law_276 : decode mL_law.2.1 276 = .ok (.iconst 1, 1) := by decide +kernel
theorem dL_law_277 : decode mL_law.2.1 277 = .ok (.iadd, 1) := by decide +kernel
theorem dL_law_278 : decode mL_law.2.1 278 = .ok (.iaload, 1) := by decide +kernel
theorem dL_law_279 : decode mL_law.2.1 279 = .ok (.aload_n 0, 1) := by decide +kernel
theorem dL_law_280 : decode mL_law.2.1 280 = .ok (.iload_n 3, 1) := by decide +kernel
theorem dL_law_281 : decode mL_law.2.1 281 = .ok (.iconst 2, 1) := by decide +kernel
theorem dL_law_282 : decode mL_law.2.1 282 = .ok (.iadd, 1) := by decide +kernel
theorem dL_law_283 : decode mL_law.2.1 283 = .ok (.iaload, 1) := by decide +kernel
theorem dL_law_284 : decode mL_law.2.1 284 = .ok (.aload_n 0, 1) := by decide +kernel
theorem dL_law_285 : decode mL_law.2.1 285 = .ok (.iload_n 3, 1) := by decide +kernel
theorem dL_law_286 : decode mL_law.2.1 286 = .ok (.iconst 3, 1) := by decide +kernel
theorem dL_law_287 : decode mL_law.2.1 287 = .ok (.iadd, 1) := by decide +kernel
theorem dL_law_288 : decode mL_law.2.1 288 = .ok (.iaload, 1) := by decide +kernel
theorem dL_law_289 : decode mL_law.2.1 289 = .ok (.invokevirtual 31, 3) := by decide +kernel
theorem dL_law_292 : decode mL_law.2.1 292 = .ok (.pop, 1) := by decide +kernel
theorem dL_law_293 : decode mL_law.2.1 293 = .ok (.goto (388), 3) := by decide +kernel
theorem dL_law_296 : decode mL_law.2.1 296 = .ok (.aload_n 1, 1) := by decide +kernel
theorem dL_law_297 : decode mL_law.2.1 297 = .ok (.aload_n 0, 1) := by decide +kernel
theorem dL_law_298 : decode mL_law.2.1 298 = .ok (.iload_n 3, 1) := by decide +kernel
theorem dL_law_299 : decode mL_law.2.1 299 = .ok (.iconst 1, 1) := by decide +kernel
theorem dL_law_300 : decode mL_law.2.1 300 = .ok (.iadd, 1) := by decide +kernel
theorem dL_law_301 : decode mL_law.2.1 301 = .ok (.iaload, 1) := by decide +kernel
theorem dL_law_302 : decode mL_law.2.1 302 = .ok (.invokevirtual 32, 3) := by decide +kernel
theorem dL_law_305 : decode mL_law.2.1 305 = .ok (.pop, 1) := by decide +kernel
theorem dL_law_306 : decode mL_law.2.1 306 = .ok (.aload_n 2, 1) := by decide +kernel
theorem dL_law_307 : decode mL_law.2.1 307 = .ok (.aload_n 0, 1) := by decide +kernel
theorem dL_law_308 : decode mL_law.2.1 308 = .ok (.iload_n 3, 1) := by decide +kernel
theorem dL_law_309 : decode mL_law.2.1 309 = .ok (.iconst 1, 1) := by decide +kernel
theorem dL_law_310 : decode mL_law.2.1 310 = .ok (.iadd, 1) := by decide +kernel
theorem dL_law_311 : decode mL_law.2.1 311 = .ok (.iaload, 1) := by decide +kernel
theorem dL_law_312 : decode mL_law.2.1 312 = .ok (.invokevirtual 36, 3) := by decide +kernel
theorem dL_law_315 : decode mL_law.2.1 315 = .ok (.pop, 1) := by decide +kernel
theorem dL_law_316 : decode mL_law.2.1 316 = .ok (.goto (365), 3) := by decide +kernel
theorem dL_law_319 : decode mL_law.2.1 319 = .ok (.aload_n 1, 1) := by decide +kernel
theorem dL_law_320 : decode mL_law.2.1 320 = .ok (.aload_n 0, 1) := by decide +kernel
theorem dL_law_321 : decode mL_law.2.1 321 = .ok (.iload_n 3, 1) := by decide +kernel
theorem dL_law_322 : decode mL_law.2.1 322 = .ok (.iconst 1, 1) := by decide +kernel
theorem dL_law_323 : decode mL_law.2.1 323 = .ok (.iadd, 1) := by decide +kernel
theorem dL_law_324 : decode mL_law.2.1 324 = .ok (.iaload, 1) := by decide +kernel
theorem dL_law_325 : decode mL_law.2.1 325 = .ok (.invokevirtual 37, 3) := by decide +kernel
theorem dL_law_328 : decode mL_law.2.1 328 = .ok (.aload_n 2, 1) := by decide +kernel
theorem dL_law_329 : decode mL_law.2.1 329 = .ok (.aload_n 0, 1) := by decide +kernel
theorem dL_law_330 : decode mL_law.2.1 330 = .ok (.iload_n 3, 1) := by decide +kernel
theorem dL_law_331 : decode mL_law.2.1 331 = .ok (.iconst 1, 1) := by decide +kernel
theorem dL_law_332 : decode mL_law.2.1 332 = .ok (.iadd, 1) := by decide +kernel
theorem dL_law_333 : decode mL_law.2.1 333 = .ok (.iaload, 1) := by decide +kernel
theorem dL_law_334 : decode mL_law.2.1 334 = .ok (.invokevirtual 40, 3) := by decide +kernel
theorem dL_law_337 : decode mL_law.2.1 337 = .ok (.if_icmp .eq (344), 3) := by decide +kernel
theorem dL_law_340 : decode mL_law.2.1 340 = .ok (.iconst 0, 1) := by decide +kernel
theorem dL_law_341 : decode mL_law.2.1 341 = .ok (.ireturn, 1) := by decide +kernel
theorem dL_law_342 : decode mL_law.2.1 342 = .ok (.aload_n 1, 1) := by decide +kernel
theorem dL_law_343 : decode mL_law.2.1 343 = .ok (.aload_n 0, 1) := by decide +kernel
theorem dL_law_344 : decode mL_law.2.1 344 = .ok (.iload_n 3, 1) := by decide +kernel
theorem dL_law_345 : decode mL_law.2.1 345 = .ok (.iconst 1, 1) := by decide +kernel
theorem dL_law_346 : decode mL_law.2.1 346 = .ok (.iadd, 1) := by decide +kernel
theorem dL_law_347 : decode mL_law.2.1 347 = .ok (.iaload, 1) := by decide +kernel
theorem dL_law_348 : decode mL_law.2.1 348 = .ok (.aload_n 0, 1) := by decide +kernel
theorem dL_law_349 : decode mL_law.2.1 349 = .ok (.iload_n 3, 1) := by decide +kernel
theorem dL_law_350 : decode mL_law.2.1 350 = .ok (.iconst 2, 1) := by decide +kernel
theorem dL_law_351 : decode mL_law.2.1 351 = .ok (.iadd, 1) := by decide +kernel
theorem dL_law_352 : decode mL_law.2.1 352 = .ok (.iaload, 1) := by decide +kernel
theorem dL_law_353 : decode mL_law.2.1 353 = .ok (.invokevirtual 41, 3) := by decide +kernel
theorem dL_law_356 : decode mL_law.2.1 356 = .ok (.pop, 1) := by decide +kernel
theorem dL_law_357 : decode mL_law.2.1 357 = .ok (.aload_n 2, 1) := by decide +kernel
theorem dL_law_358 : decode mL_law.2.1 358 = .ok (.aload_n 0, 1) := by decide +kernel
theorem dL_law_359 : decode mL_law.2.1 359 = .ok (.iload_n 3, 1) := by decide +kernel
theorem dL_law_360 : decode mL_law.2.1 360 = .ok (.iconst 1, 1) := by decide +kernel
theorem dL_law_361 : decode mL_law.2.1 361 = .ok (.iadd, 1) := by decide +kernel
theorem dL_law_362 : decode mL_law.2.1 362 = .ok (.iaload, 1) := by decide +kernel
theorem dL_law_363 : decode mL_law.2.1 363 = .ok (.aload_n 0, 1) := by decide +kernel
theorem dL_law_364 : decode mL_law.2.1 364 = .ok (.iload_n 3, 1) := by decide +kernel
theorem dL_law_365 : decode mL_law.2.1 365 = .ok (.iconst 2, 1) := by decide +kernel
theorem dL_law_366 : decode mL_law.2.1 366 = .ok (.iadd, 1) := by decide +kernel
theorem dL_law_367 : decode mL_law.2.1 367 = .ok (.iaload, 1) := by decide +kernel
theorem dL_law_368 : decode mL_law.2.1 368 = .ok (.invokevirtual 45, 3) := by decide +kernel
theorem dL_law_371 : decode mL_law.2.1 371 = .ok (.pop, 1) := by decide +kernel
theorem dL_law_372 : decode mL_law.2.1 372 = .ok (.goto (309), 3) := by decide +kernel
theorem dL_law_375 : decode mL_law.2.1 375 = .ok (.aload_n 1, 1) := by decide +kernel
theorem dL_law_376 : decode mL_law.2.1 376 = .ok (.aload_n 0, 1) := by decide +kernel
theorem dL_law_377 : decode mL_law.2.1 377 = .ok (.iload_n 3, 1) := by decide +kernel
theorem dL_law_378 : decode mL_law.2.1 378 = .ok (.iconst 1, 1) := by decide +kernel
theorem dL_law_379 : decode mL_law.2.1 379 = .ok (.iadd, 1) := by decide +kernel
theorem dL_law_380 : decode mL_law.2.1 380 = .ok (.iaload, 1) := by decide +kernel
theorem dL_law_381 : decode mL_law.2.1 381 = .ok (.aload_n 0, 1) := by decide +kernel
theorem dL_law_382 : decode mL_law.2.1 382 = .ok (.iload_n 3, 1) := by decide +kernel
theorem dL_law_383 : decode mL_law.2.1 383 = .ok (.iconst 2, 1) := by decide +kernel
theorem dL_law_384 : decode mL_law.2.1 384 = .ok (.iadd, 1) := by decide +kernel
theorem dL_law_385 : decode mL_law.2.1 385 = .ok (.iaload, 1) := by decide +kernel
theorem dL_law_386 : decode mL_law.2.1 386 = .ok (.invokevirtual 46, 3) := by decide +kernel
theorem dL_law_389 : decode mL_law.2.1 389 = .ok (.pop, 1) := by decide +kernel
theorem dL_law_390 : decode mL_law.2.1 390 = .ok (.aload_n 2, 1) := by decide +kernel
theorem dL_law_391 : decode mL_law.2.1 391 = .ok (.aload_n 0, 1) := by decide +kernel
theorem dL_law_392 : decode mL_law.2.1 392 = .ok (.iload_n 3, 1) := by decide +kernel
theorem dL_law_393 : decode mL_law.2.1 393 = .ok (.iconst 1, 1) := by decide +kernel
theorem dL_law_394 : decode mL_law.2.1 394 = .ok (.iadd, 1) := by decide +kernel
theorem dL_law_395 : decode mL_law.2.1 395 = .ok (.iaload, 1) := by decide +kernel
theorem dL_law_396 : decode mL_law.2.1 396 = .ok (.aload_n 0, 1) := by decide +kernel
theorem dL_law_397 : decode mL_law.2.1 397 = .ok (.iload_n 3, 1) := by decide +kernel
theorem dL_law_398 : decode mL_law.2.1 398 = .ok (.iconst 2, 1) := by decide +kernel
theorem dL_law_399 : decode mL_law.2.1 399 = .ok (.iadd, 1) := by decide +kernel
theorem dL_law_400 : decode mL_law.2.1 400 = .ok (.iaload, 1) := by decide +kernel
theorem dL_law_401 : decode mL_law.2.1 401 = .ok (.invokevirtual 49, 3) := by decide +kernel
theorem dL_law_404 : decode mL_law.2.1 404 = .ok (.pop, 1) := by decide +kernel
theorem dL_law_405 : decode mL_law.2.1 405 = .ok (.goto (276), 3) := by decide +kernel
theorem dL_law_408 : decode mL_law.2.1 408 = .ok (.aload_n 1, 1) := by decide +kernel
theorem dL_law_409 : decode mL_law.2.1 409 = .ok (.aload_n 0, 1) := by decide +kernel
theorem dL_law_410 : decode mL_law.2.1 410 = .ok (.iload_n 3, 1) := by decide +kernel
theorem dL_law_411 : decode mL_law.2.1 411 = .ok (.iconst 1, 1) := by decide +kernel
theorem dL_law_412 : decode mL_law.2.1 412 = .ok (.iadd, 1) := by decide +kernel
theorem dL_law_413 : decode mL_law.2.1 413 = .ok (.iaload, 1) := by decide +kernel
theorem dL_law_414 : decode mL_law.2.1 414 = .ok (.aload_n 0, 1) := by decide +kernel
theorem dL_law_415 : decode mL_law.2.1 415 = .ok (.iload_n 3, 1) := by decide +kernel
theorem dL_law_416 : decode mL_law.2.1 416 = .ok (.iconst 2, 1) := by decide +kernel
theorem dL_law_417 : decode mL_law.2.1 417 = .ok (.iadd, 1) := by decide +kernel
theorem dL_law_418 : decode mL_law.2.1 418 = .ok (.iaload, 1) := by decide +kernel
theorem dL_law_419 : decode mL_law.2.1 419 = .ok (.aload_n 0, 1) := by decide +kernel
theorem dL_law_420 : decode mL_law.2.1 420 = .ok (.iload_n 3, 1) := by decide +kernel
theorem dL_law_421 : decode mL_law.2.1 421 = .ok (.iconst 3, 1) := by decide +kernel
theorem dL_law_422 : decode mL_law.2.1 422 = .ok (.iadd, 1) := by decide +kernel
theorem dL_law_423 : decode mL_law.2.1 423 = .ok (.iaload, 1) := by decide +kernel
theorem dL_law_424 : decode mL_law.2.1 424 = .ok (.invokevirtual 50, 3) := by decide +kernel
theorem dL_law_427 : decode mL_law.2.1 427 = .ok (.pop, 1) := by decide +kernel
theorem dL_law_428 : decode mL_law.2.1 428 = .ok (.aload_n 2, 1) := by decide +kernel
theorem dL_law_429 : decode mL_law.2.1 429 = .ok (.aload_n 0, 1) := by decide +kernel
theorem dL_law_430 : decode mL_law.2.1 430 = .ok (.iload_n 3, 1) := by decide +kernel
theorem dL_law_431 : decode mL_law.2.1 431 = .ok (.iconst 1, 1) := by decide +kernel
theorem dL_law_432 : decode mL_law.2.1 432 = .ok (.iadd, 1) := by decide +kernel
theorem dL_law_433 : decode mL_law.2.1 433 = .ok (.iaload, 1) := by decide +kernel
theorem dL_law_434 : decode mL_law.2.1 434 = .ok (.aload_n 0, 1) := by decide +kernel
theorem dL_law_435 : decode mL_law.2.1 435 = .ok (.iload_n 3, 1) := by decide +kernel
theorem dL_law_436 : decode mL_law.2.1 436 = .ok (.iconst 2, 1) := by decide +kernel
theorem dL_law_437 : decode mL_law.2.1 437 = .ok (.iadd, 1) := by decide +kernel
theorem dL_law_438 : decode mL_law.2.1 438 = .ok (.iaload, 1) := by decide +kernel
theorem dL_law_439 : decode mL_law.2.1 439 = .ok (.aload_n 0, 1) := by decide +kernel
theorem dL_law_440 : decode mL_law.2.1 440 = .ok (.iload_n 3, 1) := by decide +kernel
theorem dL_law_441 : decode mL_law.2.1 441 = .ok (.iconst 3, 1) := by decide +kernel
theorem dL_law_442 : decode mL_law.2.1 442 = .ok (.iadd, 1) := by decide +kernel
theorem dL_law_443 : decode mL_law.2.1 443 = .ok (.iaload, 1) := by decide +kernel
theorem dL_law_444 : decode mL_law.2.1 444 = .ok (.invokevirtual 53, 3) := by decide +kernel
theorem dL_law_447 : decode mL_law.2.1 447 = .ok (.pop, 1) := by decide +kernel
theorem dL_law_448 : decode mL_law.2.1 448 = .ok (.goto (233), 3) := by decide +kernel
theorem dL_law_451 : decode mL_law.2.1 451 = .ok (.aload_n 1, 1) := by decide +kernel
theorem dL_law_452 : decode mL_law.2.1 452 = .ok (.aload_n 0, 1) := by decide +kernel
theorem dL_law_453 : decode mL_law.2.1 453 = .ok (.iload_n 3, 1) := by decide +kernel
theorem dL_law_454 : decode mL_law.2.1 454 = .ok (.iconst 1, 1) := by decide +kernel
theorem dL_law_455 : decode mL_law.2.1 455 = .ok (.iadd, 1) := by decide +kernel
theorem dL_law_456 : decode mL_law.2.1 456 = .ok (.iaload, 1) := by decide +kernel
theorem dL_law_457 : decode mL_law.2.1 457 = .ok (.invokevirtual 54, 3) := by decide +kernel
theorem dL_law_460 : decode mL_law.2.1 460 = .ok (.pop, 1) := by decide +kernel
theorem dL_law_461 : decode mL_law.2.1 461 = .ok (.aload_n 2, 1) := by decide +kernel
theorem dL_law_462 : decode mL_law.2.1 462 = .ok (.aload_n 0, 1) := by decide +kernel
theorem dL_law_463 : decode mL_law.2.1 463 = .ok (.iload_n 3, 1) := by decide +kernel
theorem dL_law_464 : decode mL_law.2.1 464 = .ok (.iconst 1, 1) := by decide +kernel
theorem dL_law_465 : decode mL_law.2.1 465 = .ok (.iadd, 1) := by decide +kernel
theorem dL_law_466 : decode mL_law.2.1 466 = .ok (.iaload, 1) := by decide +kernel
theorem dL_law_467 : decode mL_law.2.1 467 = .ok (.invokevirtual 57, 3) := by decide +kernel
theorem dL_law_470 : decode mL_law.2.1 470 = .ok (.pop, 1) := by decide +kernel
theorem dL_law_471 : decode mL_law.2.1 471 = .ok (.goto (210), 3) := by decide +kernel
theorem dL_law_474 : decode mL_law.2.1 474 = .ok (.aload_n 1, 1) := by decide +kernel
theorem dL_law_475 : decode mL_law.2.1 475 = .ok (.aload_n 0, 1) := by decide +kernel
theorem dL_law_476 : decode mL_law.2.1 476 = .ok (.iload_n 3, 1) := by decide +kernel
theorem dL_law_477 : decode mL_law.2.1 477 = .ok (.iconst 1, 1) := by decide +kernel
theorem dL_law_478 : decode mL_law.2.1 478 = .ok (.iadd, 1) := by decide +kernel
theorem dL_law_479 : decode mL_law.2.1 479 = .ok (.iaload, 1) := by decide +kernel
theorem dL_law_480 : decode mL_law.2.1 480 = .ok (.invokevirtual 58, 3) := by decide +kernel
theorem dL_law_483 : decode mL_law.2.1 483 = .ok (.pop, 1) := by decide +kernel
theorem dL_law_484 : decode mL_law.2.1 484 = .ok (.aload_n 2, 1) := by decide +kernel
theorem dL_law_485 : decode mL_law.2.1 485 = .ok (.aload_n 0, 1) := by decide +kernel
theorem dL_law_486 : decode mL_law.2.1 486 = .ok (.iload_n 3, 1) := by decide +kernel
theorem dL_law_487 : decode mL_law.2.1 487 = .ok (.iconst 1, 1) := by decide +kernel
theorem dL_law_488 : decode mL_law.2.1 488 = .ok (.iadd, 1) := by decide +kernel
theorem dL_law_489 : decode mL_law.2.1 489 = .ok (.iaload, 1) := by decide +kernel
theorem dL_law_490 : decode mL_law.2.1 490 = .ok (.invokevirtual 61, 3) := by decide +kernel
theorem dL_law_493 : decode mL_law.2.1 493 = .ok (.pop, 1) := by decide +kernel
theorem dL_law_494 : decode mL_law.2.1 494 = .ok (.goto (187), 3) := by decide +kernel
theorem dL_law_497 : decode mL_law.2.1 497 = .ok (.aload_n 1, 1) := by decide +kernel
theorem dL_law_498 : decode mL_law.2.1 498 = .ok (.aload_n 0, 1) := by decide +kernel
theorem dL_law_499 : decode mL_law.2.1 499 = .ok (.iload_n 3, 1) := by decide +kernel
theorem dL_law_500 : decode mL_law.2.1 500 = .ok (.iconst 1, 1) := by decide +kernel
theorem dL_law_501 : decode mL_law.2.1 501 = .ok (.iadd, 1) := by decide +kernel
theorem dL_law_502 : decode mL_law.2.1 502 = .ok (.iaload, 1) := by decide +kernel
theorem dL_law_503 : decode mL_law.2.1 503 = .ok (.invokevirtual 62, 3) := by decide +kernel
theorem dL_law_506 : decode mL_law.2.1 506 = .ok (.pop, 1) := by decide +kernel
theorem dL_law_507 : decode mL_law.2.1 507 = .ok (.aload_n 2, 1) := by decide +kernel
theorem dL_law_508 : decode mL_law.2.1 508 = .ok (.aload_n 0, 1) := by decide +kernel
theorem dL_law_509 : decode mL_law.2.1 509 = .ok (.iload_n 3, 1) := by decide +kernel
theorem dL_law_510 : decode mL_law.2.1 510 = .ok (.iconst 1, 1) := by decide +kernel
theorem dL_law_511 : decode mL_law.2.1 511 = .ok (.iadd, 1) := by decide +kernel
theorem dL_law_512 : decode mL_law.2.1 512 = .ok (.iaload, 1) := by decide +kernel
theorem dL_law_513 : decode mL_law.2.1 513 = .ok (.invokevirtual 65, 3) := by decide +kernel
theorem dL_law_516 : decode mL_law.2.1 516 = .ok (.pop, 1) := by decide +kernel
theorem dL_law_517 : decode mL_law.2.1 517 = .ok (.goto (164), 3) := by decide +kernel
theorem dL_law_520 : decode mL_law.2.1 520 = .ok (.aload_n 1, 1) := by decide +kernel
theorem dL_law_521 : decode mL_law.2.1 521 = .ok (.invokevirtual 66, 3) := by decide +kernel
theorem dL_law_524 : decode mL_law.2.1 524 = .ok (.pop, 1) := by decide +kernel
theorem dL_law_525 : decode mL_law.2.1 525 = .ok (.aload_n 2, 1) := by decide +kernel
theorem dL_law_526 : decode mL_law.2.1 526 = .ok (.invokevirtual 70, 3) := by decide +kernel
theorem dL_law_529 : decode mL_law.2.1 529 = .ok (.pop, 1) := by decide +kernel
theorem dL_law_530 : decode mL_law.2.1 530 = .ok (.goto (151), 3) := by decide +kernel
theorem dL_law_533 : decode mL_law.2.1 533 = .ok (.aload_n 1, 1) := by decide +kernel
theorem dL_law_534 : decode mL_law.2.1 534 = .ok (.aload_n 0, 1) := by decide +kernel
theorem dL_law_535 : decode mL_law.2.1 535 = .ok (.iload_n 3, 1) := by decide +kernel
theorem dL_law_536 : decode mL_law.2.1 536 = .ok (.iconst 1, 1) := by decide +kernel
theorem dL_law_537 : decode mL_law.2.1 537 = .ok (.iadd, 1) := by decide +kernel
theorem dL_law_538 : decode mL_law.2.1 538 = .ok (.iaload, 1) := by decide +kernel
theorem dL_law_539 : decode mL_law.2.1 539 = .ok (.aload_n 0, 1) := by decide +kernel
theorem dL_law_540 : decode mL_law.2.1 540 = .ok (.iload_n 3, 1) := by decide +kernel
theorem dL_law_541 : decode mL_law.2.1 541 = .ok (.iconst 2, 1) := by decide +kernel
theorem dL_law_542 : decode mL_law.2.1 542 = .ok (.iadd, 1) := by decide +kernel
theorem dL_law_543 : decode mL_law.2.1 543 = .ok (.iaload, 1) := by decide +kernel
theorem dL_law_544 : decode mL_law.2.1 544 = .ok (.invokevirtual 71, 3) := by decide +kernel
theorem dL_law_547 : decode mL_law.2.1 547 = .ok (.pop, 1) := by decide +kernel
theorem dL_law_548 : decode mL_law.2.1 548 = .ok (.aload_n 2, 1) := by decide +kernel
theorem dL_law_549 : decode mL_law.2.1 549 = .ok (.aload_n 0, 1) := by decide +kernel
theorem dL_law_550 : decode mL_law.2.1 550 = .ok (.iload_n 3, 1) := by decide +kernel
theorem dL_law_551 : decode mL_law.2.1 551 = .ok (.iconst 1, 1) := by decide +kernel
theorem dL_law_552 : decode mL_law.2.1 552 = .ok (.iadd, 1) := by decide +kernel
theorem dL_law_553 : decode mL_law.2.1 553 = .ok (.iaload, 1) := by decide +kernel
theorem dL_law_554 : decode mL_law.2.1 554 = .ok (.aload_n 0, 1) := by decide +kernel
theorem dL_law_555 : decode mL_law.2.1 555 = .ok (.iload_n 3, 1) := by decide +kernel
theorem dL_law_556 : decode mL_law.2.1 556 = .ok (.iconst 2, 1) := by decide +kernel
theorem dL_law_557 : decode mL_law.2.1 557 = .ok (.iadd, 1) := by decide +kernel
theorem dL_law_558 : decode mL_law.2.1 558 = .ok (.iaload, 1) := by decide +kernel
theorem dL_law_559 : decode mL_law.2.1 559 = .ok (.invokevirtual 74, 3) := by decide +kernel
theorem dL_law_562 : decode mL_law.2.1 562 = .ok (.pop, 1) := by decide +kernel
theorem dL_law_563 : decode mL_law.2.1 563 = .ok (.goto (118), 3) := by decide +kernel
theorem dL_law_566 : decode mL_law.2.1 566 = .ok (.aload_n 1, 1) := by decide +kernel
theorem dL_law_567 : decode mL_law.2.1 567 = .ok (.aload_n 0, 1) := by decide +kernel
theorem dL_law_568 : decode mL_law.2.1 568 = .ok (.iload_n 3, 1) := by decide +kernel
theorem dL_law_569 : decode mL_law.2.1 569 = .ok (.iconst 1, 1) := by decide +kernel
theorem dL_law_570 : decode mL_law.2.1 570 = .ok (.iadd, 1) := by decide +kernel
theorem dL_law_571 : decode mL_law.2.1 571 = .ok (.iaload, 1) := by decide +kernel
theorem dL_law_572 : decode mL_law.2.1 572 = .ok (.aload_n 0, 1) := by decide +kernel
theorem dL_law_573 : decode mL_law.2.1 573 = .ok (.iload_n 3, 1) := by decide +kernel
theorem dL_law_574 : decode mL_law.2.1 574 = .ok (.iconst 2, 1) := by decide +kernel
theorem dL_law_575 : decode mL_law.2.1 575 = .ok (.iadd, 1) := by decide +kernel
theorem dL_law_576 : decode mL_law.2.1 576 = .ok (.iaload, 1) := by decide +kernel
theorem dL_law_577 : decode mL_law.2.1 577 = .ok (.invokevirtual 75, 3) := by decide +kernel
theorem dL_law_580 : decode mL_law.2.1 580 = .ok (.pop, 1) := by decide +kernel
theorem dL_law_581 : decode mL_law.2.1 581 = .ok (.aload_n 2, 1) := by decide +kernel
theorem dL_law_582 : decode mL_law.2.1 582 = .ok (.aload_n 0, 1) := by decide +kernel
theorem dL_law_583 : decode mL_law.2.1 583 = .ok (.iload_n 3, 1) := by decide +kernel
theorem dL_law_584 : decode mL_law.2.1 584 = .ok (.iconst 1, 1) := by decide +kernel
theorem dL_law_585 : decode mL_law.2.1 585 = .ok (.iadd, 1) := by decide +kernel
theorem dL_law_586 : decode mL_law.2.1 586 = .ok (.iaload, 1) := by decide +kernel
theorem dL_law_587 : decode mL_law.2.1 587 = .ok (.aload_n 0, 1) := by decide +kernel
theorem dL_law_588 : decode mL_law.2.1 588 = .ok (.iload_n 3, 1) := by decide +kernel
theorem dL_law_589 : decode mL_law.2.1 589 = .ok (.iconst 2, 1) := by decide +kernel
theorem dL_law_590 : decode mL_law.2.1 590 = .ok (.iadd, 1) := by decide +kernel
theorem dL_law_591 : decode mL_law.2.1 591 = .ok (.iaload, 1) := by decide +kernel
theorem dL_law_592 : decode mL_law.2.1 592 = .ok (.invokevirtual 78, 3) := by decide +kernel
theorem dL_law_595 : decode mL_law.2.1 595 = .ok (.pop, 1) := by decide +kernel
theorem dL_law_596 : decode mL_law.2.1 596 = .ok (.goto (85), 3) := by decide +kernel
theorem dL_law_599 : decode mL_law.2.1 599 = .ok (.aload_n 1, 1) := by decide +kernel
theorem dL_law_600 : decode mL_law.2.1 600 = .ok (.aload_n 0, 1) := by decide +kernel
theorem dL_law_601 : decode mL_law.2.1 601 = .ok (.iload_n 3, 1) := by decide +kernel
theorem dL_law_602 : decode mL_law.2.1 602 = .ok (.iconst 1, 1) := by decide +kernel
theorem dL_law_603 : decode mL_law.2.1 603 = .ok (.iadd, 1) := by decide +kernel
theorem dL_law_604 : decode mL_law.2.1 604 = .ok (.iaload, 1) := by decide +kernel
theorem dL_law_605 : decode mL_law.2.1 605 = .ok (.invokevirtual 79, 3) := by decide +kernel
theorem dL_law_608 : decode mL_law.2.1 608 = .ok (.pop2, 1) := by decide +kernel
theorem dL_law_609 : decode mL_law.2.1 609 = .ok (.aload_n 2, 1) := by decide +kernel
theorem dL_law_610 : decode mL_law.2.1 610 = .ok (.aload_n 0, 1) := by decide +kernel
theorem dL_law_611 : decode mL_law.2.1 611 = .ok (.iload_n 3, 1) := by decide +kernel
theorem dL_law_612 : decode mL_law.2.1 612 = .ok (.iconst 1, 1) := by decide +kernel
theorem dL_law_613 : decode mL_law.2.1 613 = .ok (.iadd, 1) := by decide +kernel
theorem dL_law_614 : decode mL_law.2.1 614 = .ok (.iaload, 1) := by decide +kernel
theorem dL_law_615 : decode mL_law.2.1 615 = .ok (.invokevirtual 83, 3) := by decide +kernel
theorem dL_law_618 : decode mL_law.2.1 618 = .ok (.pop2, 1) := by decide +kernel
theorem dL_law_619 : decode mL_law.2.1 619 = .ok (.goto (62), 3) := by decide +kernel
theorem dL_law_622 : decode mL_law.2.1 622 = .ok (.aload_n 1, 1) := by decide +kernel
theorem dL_law_623 : decode mL_law.2.1 623 = .ok (.aload_n 0, 1) := by decide +kernel
theorem dL_law_624 : decode mL_law.2.1 624 = .ok (.iload_n 3, 1) := by decide +kernel
theorem dL_law_625 : decode mL_law.2.1 625 = .ok (.iconst 1, 1) := by decide +kernel
theorem dL_law_626 : decode mL_law.2.1 626 = .ok (.iadd, 1) := by decide +kernel
theorem dL_law_627 : decode mL_law.2.1 627 = .ok (.iaload, 1) := by decide +kernel
theorem dL_law_628 : decode mL_law.2.1 628 = .ok (.invokevirtual 84, 3) := by decide +kernel
theorem dL_law_631 : decode mL_law.2.1 631 = .ok (.pop2, 1) := by decide +kernel
theorem dL_law_632 : decode mL_law.2.1 632 = .ok (.aload_n 2, 1) := by decide +kernel
theorem dL_law_633 : decode mL_law.2.1 633 = .ok (.aload_n 0, 1) := by decide +kernel
theorem dL_law_634 : decode mL_law.2.1 634 = .ok (.iload_n 3, 1) := by decide +kernel
theorem dL_law_635 : decode mL_law.2.1 635 = .ok (.iconst 1, 1) := by decide +kernel
theorem dL_law_636 : decode mL_law.2.1 636 = .ok (.iadd, 1) := by decide +kernel
theorem dL_law_637 : decode mL_law.2.1 637 = .ok (.iaload, 1) := by decide +kernel
theorem dL_law_638 : decode mL_law.2.1 638 = .ok (.invokevirtual 87, 3) := by decide +kernel
theorem dL_law_641 : decode mL_law.2.1 641 = .ok (.pop2, 1) := by decide +kernel
theorem dL_law_642 : decode mL_law.2.1 642 = .ok (.goto (39), 3) := by decide +kernel
theorem dL_law_645 : decode mL_law.2.1 645 = .ok (.aload_n 1, 1) := by decide +kernel
theorem dL_law_646 : decode mL_law.2.1 646 = .ok (.aload_n 0, 1) := by decide +kernel
theorem dL_law_647 : decode mL_law.2.1 647 = .ok (.iload_n 3, 1) := by decide +kernel
theorem dL_law_648 : decode mL_law.2.1 648 = .ok (.iconst 1, 1) := by decide +kernel
theorem dL_law_649 : decode mL_law.2.1 649 = .ok (.iadd, 1) := by decide +kernel
theorem dL_law_650 : decode mL_law.2.1 650 = .ok (.iaload, 1) := by decide +kernel
theorem dL_law_651 : decode mL_law.2.1 651 = .ok (.invokevirtual 88, 3) := by decide +kernel
theorem dL_law_654 : decode mL_law.2.1 654 = .ok (.pop2, 1) := by decide +kernel
theorem dL_law_655 : decode mL_law.2.1 655 = .ok (.aload_n 2, 1) := by decide +kernel
theorem dL_law_656 : decode mL_law.2.1 656 = .ok (.aload_n 0, 1) := by decide +kernel
theorem dL_law_657 : decode mL_law.2.1 657 = .ok (.iload_n 3, 1) := by decide +kernel
theorem dL_law_658 : decode mL_law.2.1 658 = .ok (.iconst 1, 1) := by decide +kernel
theorem dL_law_659 : decode mL_law.2.1 659 = .ok (.iadd, 1) := by decide +kernel
theorem dL_law_660 : decode mL_law.2.1 660 = .ok (.iaload, 1) := by decide +kernel
theorem dL_law_661 : decode mL_law.2.1 661 = .ok (.invokevirtual 91, 3) := by decide +kernel
theorem dL_law_664 : decode mL_law.2.1 664 = .ok (.pop2, 1) := by decide +kernel
theorem dL_law_665 : decode mL_law.2.1 665 = .ok (.goto (16), 3) := by decide +kernel
theorem dL_law_668 : decode mL_law.2.1 668 = .ok (.aload_n 1, 1) := by decide +kernel
theorem dL_law_669 : decode mL_law.2.1 669 = .ok (.invokevirtual 92, 3) := by decide +kernel
theorem dL_law_672 : decode mL_law.2.1 672 = .ok (.pop, 1) := by decide +kernel
theorem dL_law_673 : decode mL_law.2.1 673 = .ok (.aload_n 2, 1) := by decide +kernel
theorem dL_law_674 : decode mL_law.2.1 674 = .ok (.invokevirtual 95, 3) := by decide +kernel
theorem dL_law_677 : decode mL_law.2.1 677 = .ok (.pop, 1) := by decide +kernel
theorem dL_law_678 : decode mL_law.2.1 678 = .ok (.goto (3), 3) := by decide +kernel
theorem dL_law_681 : decode mL_law.2.1 681 = .ok (.iinc 3 (6), 3) := by decide +kernel
theorem dL_law_684 : decode mL_law.2.1 684 = .ok (.goto (-666), 3) := by decide +kernel
theorem dL_law_687 : decode mL_law.2.1 687 = .ok (.iconst 1, 1) := by decide +kernel
theorem dL_law_688 : decode mL_law.2.1 688 = .ok (.ireturn, 1) := by decide +kernel
end
section
/-! THE X LAYER: a heap of ours is a function of keys (kind, index); where a key lies in the machine's heap is hidden in the judgement x_X, which bundles all that the machine's judgement carries along. -/
abbrev xQ : Type := Nat × Nat
abbrev xZ : Type := xQ → Nat
-- a value: an int, a long, a reference (a key) or null, a foreign reference (an address)
abbrev xV : Type := Int32 ⊕ Int64 ⊕ Option xQ ⊕ Nat
abbrev xI (x : Int32) : xV := Sum.inl x
abbrev xJ (x : Int64) : xV := Sum.inr (Sum.inl x)
abbrev xR (q : Option xQ) : xV := Sum.inr (Sum.inr (Sum.inl q))
abbrev xS (a : Nat) : xV := Sum.inr (Sum.inr (Sum.inr a))
def x_v (z : xZ) (v : xV) : Value := match v with
  | .inl x => .int x
  | .inr (.inl y) => .long y
  | .inr (.inr (.inl q)) => va_rf (q.map z)
  | .inr (.inr (.inr a)) => .ref a
def x_cat (v : xV) : Nat := match v with
  | .inl _ => 1
  | .inr (.inl _) => 2
  | .inr (.inr _) => 1
theorem x_cat_v (z : xZ) (v : xV) : (x_v z v).category = x_cat v := by
  rcases v with x | y | (_ | q) | a <;> rfl
abbrev x_s (z : xZ) (st : List xV) : List Value := st.map (x_v z)
-- a cell: an array (its type's place in xTy, its length, its contents), or an object (its class's place in vwCl, its fields)
abbrev xA : Type := (Nat → Int32) ⊕ (Nat → Int64) ⊕ (Nat → Option xQ)
abbrev xE : Type := (Nat × Nat × xA) ⊕ (Nat × List xV)
abbrev xH : Type := xQ → Option xE
-- classes' numbers and slots; array classes' numbers; the first address that is ours; addresses of the static table and of the script; the script
abbrev xG : Type := va_G × (Nat → ClassId) × Nat × (Nat × Nat) × (Nat × (Nat → Int32))
def x_a (z : xZ) (a : xA) : (Nat → Int32) ⊕ (Nat → Int64) ⊕ (Nat → UInt32) ⊕ (Nat → UInt64) ⊕ (Nat → Option Nat) := match a with
  | .inl f => .inl f
  | .inr (.inl f) => .inr (.inl f)
  | .inr (.inr f) => .inr (.inr (.inr (.inr (fun j => (f j).map z))))
def x_e (G : xG) (z : xZ) (e : xE) : va_E := match e with
  | .inl (t, n, a) => .inl (G.2.1 t, n, x_a z a)
  | .inr (c, fs) => .inr (c, fs.map (x_v z))
/-- the heap H holds the heap h of ours, at the places z -/
def x_W (G : xG) (z : xZ) (h : xH) (H : Heap) : Prop := (∀ (a : xQ) (e : xE), h a = some e → va_at G.1 vwCl (z a, x_e G z e) H ∧ G.2.2.1 ≤ z a) ∧ ∀ a b : xQ, h a ≠ none → h b ≠ none → z a = z b → a = b
/-- the address is one of ours -/
abbrev x_A (G : xG) : Nat → Prop := fun q => G.2.2.1 ≤ q
def x_up (h : xH) (a : xQ) (e : xE) : xH := fun b => if b = a then some e else h b
theorem x_up_self (h : xH) (a : xQ) (e : xE) : x_up h a e a = some e := by simp [x_up]
theorem x_up_ne (h : xH) {a b : xQ} (e : xE) (g : b ≠ a) : x_up h a e b = h b := by simp [x_up, g]
def x_uf {α : Type} (f : Nat → α) (i : Nat) (v : α) : Nat → α := fun j => if j = i then v else f j
/-- the tables: classes, array classes -/
def x_K (G : xG) (U : State) : Prop := (∀ (c : Nat) (q : vw_C), vwCl[c]? = some q → u_Kn U q.1 q.2.1 q.2.2 (G.1.1 c) (G.1.2 c)) ∧ ∀ (i : Nat) (ty : FieldType), xTy[i]? = some ty → ArrOfT U (G.2.1 i) ty ∧ va_RA U (G.2.1 i) ty
theorem x_K.moved {G : xG} {u U : State} (hvm : u.vm.Alike U.vm) (h : x_K G u) : x_K G U := ⟨fun c q hq => u_Kn_moved hvm (h.1 c q hq), fun i ty hi => ⟨arrOfT_moved hvm (h.2 i ty hi).1, (h.2 i ty hi).2.moved hvm⟩⟩
theorem x_K.one {G : xG} {U : State} (h : x_K G U) {i : Nat} {ty : FieldType} (hi : xTy[i]? = some ty) : va_K G.1 vwCl [(G.2.1 i, ty)] U := by
  refine ⟨h.1, fun k q hk => ?_⟩
  have hz : k < 1 := (List.getElem?_eq_some_iff.mp hk).1
  have hk0 : k = 0 := by omega
  subst hk0
  cases hk
  exact h.2 i ty hi
theorem x_K.no {G : xG} {U : State} (h : x_K G U) : va_K G.1 vwCl [] U := ⟨h.1, fun k q hk => by simp at hk⟩
theorem x_P1 {G : xG} {z : xZ} {h : xH} {H : Heap} (hW : x_W G z h H) {a : xQ} {e : xE} (he : h a = some e) : va_P G.1 vwCl [(z a, x_e G z e)] H := by
  intro k q hk
  have hz : k < 1 := (List.getElem?_eq_some_iff.mp hk).1
  have hk0 : k = 0 := by omega
  subst hk0
  cases hk
  exact (hW.1 a e he).1
theorem x_W.sub {G : xG} {z : xZ} {h h1 : xH} {H : Heap} (hW : x_W G z h H) (hs : ∀ (a : xQ) (e : xE), h1 a = some e → h a = some e) : x_W G z h1 H := by
  refine ⟨fun a e ha => hW.1 a e (hs a e ha), fun a b ha hb => hW.2 a b ?_ ?_⟩
  · cases hc : h1 a with
    | none => exact absurd hc ha
    | some e => rw [hs a e hc]; exact fun q => by cases q
  · cases hc : h1 b with
    | none => exact absurd hc hb
    | some e => rw [hs b e hc]; exact fun q => by cases q
-- a cell of ours changes, the others stay
theorem x_W.set {G : xG} {z : xZ} {h : xH} {H H1 : Heap} (hW : x_W G z h H) {a : xQ} {e0 e : xE} (h0 : h a = some e0) (he : va_at G.1 vwCl (z a, x_e G z e) H1) (oq : ∀ q : Nat, q ≠ z a → H1[q]? = H[q]?) : x_W G z (x_up h a e) H1 := by
  have hno : h a ≠ none := by rw [h0]; exact fun q => by cases q
  refine ⟨fun b e2 hb => ?_, fun b b2 hb hb2 => hW.2 b b2 ?_ ?_⟩
  · by_cases hba : b = a
    · subst hba
      rw [x_up_self] at hb
      cases hb
      exact ⟨he, (hW.1 b e0 h0).2⟩
    · rw [x_up_ne _ _ hba] at hb
      have hbn : h b ≠ none := by rw [hb]; exact fun q => by cases q
      exact ⟨(hW.1 b e2 hb).1.kept (oq _ (fun q => hba (hW.2 b a hbn hno q))), (hW.1 b e2 hb).2⟩
  · by_cases hba : b = a
    · rw [hba]; exact hno
    · rwa [x_up_ne _ _ hba] at hb
  · by_cases hba : b2 = a
    · rw [hba]; exact hno
    · rwa [x_up_ne _ _ hba] at hb2
-- no reference to the key
def x_nv (a : xQ) (v : xV) : Prop := v ≠ xR (some a)
def x_ne (a : xQ) (e : xE) : Prop := match e with
  | .inl (_, n, .inr (.inr f)) => ∀ j : Nat, j < n → f j ≠ some a
  | .inl _ => True
  | .inr (_, fs) => ∀ v ∈ fs, x_nv a v
def x_far (nk : List xQ) (vs : List xV) : Prop := ∀ v ∈ vs, ∀ a ∈ nk, x_nv a v
def x_farL (nk : List xQ) (L : List (Option xV)) : Prop := ∀ v : xV, some v ∈ L → ∀ a ∈ nk, x_nv a v
theorem x_v_same {z z1 : xZ} {v : xV} (h : ∀ a : xQ, v = xR (some a) → z1 a = z a) : x_v z1 v = x_v z v := by
  rcases v with x | y | (_ | q) | a
  · rfl
  · rfl
  · rfl
  · have := h q rfl
    show va_rf (some (z1 q)) = va_rf (some (z q))
    rw [this]
  · rfl
theorem x_s_same {z z1 : xZ} {vs : List xV} {nk : List xQ} (hz : ∀ a : xQ, a ∉ nk → z1 a = z a) (hf : x_far nk vs) : x_s z1 vs = x_s z vs := by
  refine List.map_congr_left (fun v hv => x_v_same (fun a ha => hz a (fun hn => hf v hv a hn ha)))
def x_up1 (z : xZ) (a : xQ) (q : Nat) : xZ := fun b => if b = a then q else z b
theorem x_up1_self (z : xZ) (a : xQ) (q : Nat) : x_up1 z a q a = q := by simp [x_up1]
theorem x_up1_ne (z : xZ) {a b : xQ} (q : Nat) (h : b ≠ a) : x_up1 z a q b = z b := by simp [x_up1, h]
-- cells that are read alike
theorem va_at_arr {D : va_G} {a : Nat} {cA : ClassId} {x y : vp_A} {H : Heap} (h : vp_cell cA x = vp_cell cA y) (hx : va_at D vwCl (a, .inl (cA, x)) H) : va_at D vwCl (a, .inl (cA, y)) H := by
  have h1 : H[a]? = some (vp_cell cA x) := hx
  show H[a]? = some (vp_cell cA y)
  rw [h1, h]
theorem x_e_same {G : xG} {z z1 : xZ} {a : xQ} {e : xE} {q : Nat} {H : Heap} (hz : ∀ b : xQ, b ≠ a → z1 b = z b) (hn : x_ne a e) (h : va_at G.1 vwCl (q, x_e G z e) H) : va_at G.1 vwCl (q, x_e G z1 e) H := by
  rcases e with ⟨t, n, f | f | f⟩ | ⟨c, fs⟩
  · exact h
  · exact h
  · refine va_at_arr ?_ h
    show arrV _ n (fun j => va_rf ((f j).map z)) = arrV _ n (fun j => va_rf ((f j).map z1))
    unfold arrV
    congr 2
    funext j
    have hj : f j.val ≠ some a := hn j.val j.isLt
    show va_rf ((f j.val).map z) = va_rf ((f j.val).map z1)
    cases hf : f j.val with
    | none => rfl
    | some b =>
      have hb : b ≠ a := fun q => hj (by rw [hf, q])
      show va_rf (some (z b)) = va_rf (some (z1 b))
      rw [hz b hb]
  · have he : x_e G z1 (.inr (c, fs)) = x_e G z (.inr (c, fs)) := by
      show (Sum.inr (c, fs.map (x_v z1)) : va_E) = Sum.inr (c, fs.map (x_v z))
      congr 2
      refine List.map_congr_left (fun v hv => x_v_same (fun b hb => hz b (fun q => ?_)))
      subst q
      exact hn v hv hb
    rw [he]
    exact h
-- a cell comes
theorem x_W.push {G : xG} {z : xZ} {h : xH} {H H1 : Heap} (hW : x_W G z h H) {a : xQ} {e : xE} (h0 : h a = none) (hn : ∀ (b : xQ) (e2 : xE), h b = some e2 → x_ne a e2) (ha : G.2.2.1 ≤ H.size) (he : va_at G.1 vwCl (H.size, x_e G (x_up1 z a H.size) e) H1) (oq : ∀ q : Nat, q < H.size → H1[q]? = H[q]?) : x_W G (x_up1 z a H.size) (x_up h a e) H1 := by
  have hlt : ∀ b : xQ, h b ≠ none → z b < H.size := fun b hb => by
    cases hc : h b with
    | none => exact absurd hc hb
    | some e2 => exact (hW.1 b e2 hc).1.lt
  refine ⟨fun b e2 hb => ?_, fun b b2 hb hb2 hz => ?_⟩
  · by_cases hba : b = a
    · subst hba
      rw [x_up_self] at hb
      cases hb
      rw [x_up1_self]
      exact ⟨he, ha⟩
    · rw [x_up_ne _ _ hba] at hb
      rw [x_up1_ne _ _ hba]
      refine ⟨x_e_same (fun b hb => x_up1_ne _ _ hb) (hn b e2 hb) ((hW.1 b e2 hb).1.kept (oq _ ?_)), (hW.1 b e2 hb).2⟩
      exact (hW.1 b e2 hb).1.lt
  · by_cases hba : b = a
    · by_cases hb2a : b2 = a
      · rw [hba, hb2a]
      · rw [x_up_ne _ _ hb2a] at hb2
        rw [hba, x_up1_self, x_up1_ne _ _ hb2a] at hz
        have := hlt b2 hb2
        omega
    · rw [x_up_ne _ _ hba] at hb
      by_cases hb2a : b2 = a
      · rw [hb2a, x_up1_self, x_up1_ne _ _ hba] at hz
        have := hlt b hb
        omega
      · rw [x_up_ne _ _ hb2a] at hb2
        rw [x_up1_ne _ _ hba, x_up1_ne _ _ hb2a] at hz
        exact hW.2 b b2 hb hb2 hz
-- locals by place
def x_L (ls : Array Slot) (nL : Nat) (z : xZ) (L : List (Option xV)) : Prop := ls.size = nL ∧ lv_wf ls ∧ ∀ (i : Nat) (v : xV), L[i]? = some (some v) → ls[i]? = some (.val (x_v z v))
def x_lp (z : xZ) (L : List (Option xV)) : List (Nat × Value) := (List.range L.length).filterMap (fun i => match L[i]? with
  | some (some v) => some (i, x_v z v)
  | _ => none)
theorem x_lp_mem {z : xZ} {L : List (Option xV)} {q : Nat × Value} : q ∈ x_lp z L ↔ ∃ v : xV, L[q.1]? = some (some v) ∧ q.2 = x_v z v := by
  unfold x_lp
  rw [List.mem_filterMap]
  constructor
  · rintro ⟨i, -, hi⟩
    split at hi
    · rename_i v hv
      cases hi
      exact ⟨v, hv, rfl⟩
    · cases hi
  · rintro ⟨v, hv, hq⟩
    refine ⟨q.1, List.mem_range.mpr (List.getElem?_eq_some_iff.mp hv).1, ?_⟩
    rw [hv]
    obtain ⟨q1, q2⟩ := q
    have hq' : q2 = x_v z v := hq
    subst hq'
    rfl
theorem x_L.has {ls : Array Slot} {nL : Nat} {z : xZ} {L : List (Option xV)} (h : x_L ls nL z L) : lv_has ls nL (x_lp z L) := by
  refine ⟨h.1, h.2.1, fun q hq => ?_⟩
  obtain ⟨v, hv, he⟩ := x_lp_mem.mp hq
  rw [he]
  exact h.2.2 q.1 v hv
theorem x_L.re {ls : Array Slot} {nL : Nat} {z z1 : xZ} {L : List (Option xV)} {nk : List xQ} (h : x_L ls nL z L) (hz : ∀ a : xQ, a ∉ nk → z1 a = z a) (hf : x_farL nk L) : x_L ls nL z1 L := by
  refine ⟨h.1, h.2.1, fun i v hi => ?_⟩
  rw [h.2.2 i v hi, x_v_same (fun a ha => hz a (fun hn => hf v (List.mem_of_getElem? hi) a hn ha))]
/-- no long ends just ahead of the place -/
def x_ok (L : List (Option xV)) (i : Nat) : Bool := match i with
  | 0 => true
  | j + 1 => match L[j]? with
    | some (some (.inr (.inl _))) => false
    | _ => true
theorem x_ok_of {L : List (Option xV)} {i j : Nat} {w : xV} (h : x_ok L i = true) (hj : j + 1 = i) (hw : L[j]? = some (some w)) : x_cat w = 1 := by
  subst hj
  rcases w with x | y | q
  · rfl
  · simp [x_ok, hw] at h
  · rfl
theorem x_L.set1 {ls : Array Slot} {nL : Nat} {z : xZ} {L : List (Option xV)} {i : Nat} {v : xV} (ho : x_ok L i = true) (h : lv_has ls nL ((i, x_v z v) :: (x_lp z L).filter (fun q => !(q.1 == i) && !(q.1 + 1 == i && q.2.category == 2)))) : x_L ls nL z (L.set i (some v)) := by
  refine ⟨h.1, h.2.1, fun j w hj => ?_⟩
  by_cases hji : i = j
  · subst hji
    rw [List.getElem?_set] at hj
    simp only [if_true] at hj
    split at hj
    · cases hj
      exact h.2.2 (i, x_v z v) List.mem_cons_self
    · cases hj
  · rw [List.getElem?_set_ne hji] at hj
    refine h.2.2 (j, x_v z w) (List.mem_cons_of_mem _ (List.mem_filter.mpr ⟨x_lp_mem.mpr ⟨w, hj, rfl⟩, ?_⟩))
    have h1 : ¬ j = i := fun q => hji q.symm
    by_cases h2 : j + 1 = i
    · simp [h1, x_cat_v, x_ok_of ho h2 hj]
    · simp [h1, h2]
theorem x_L.set2 {ls : Array Slot} {nL : Nat} {z : xZ} {L : List (Option xV)} {i : Nat} {v : xV} (ho : x_ok L i = true) (h : lv_has ls nL ((i, x_v z v) :: (x_lp z L).filter (fun q => !(q.1 == i) && (!(q.1 == i + 1) && !(q.1 + 1 == i && q.2.category == 2))))) : x_L ls nL z ((L.set i (some v)).set (i + 1) none) := by
  refine ⟨h.1, h.2.1, fun j w hj => ?_⟩
  by_cases hj1 : i + 1 = j
  · subst hj1
    rw [List.getElem?_set] at hj
    simp only [if_true] at hj
    split at hj <;> simp at hj
  · rw [List.getElem?_set_ne hj1] at hj
    by_cases hji : i = j
    · subst hji
      rw [List.getElem?_set] at hj
      simp only [if_true] at hj
      split at hj
      · cases hj
        exact h.2.2 (i, x_v z v) List.mem_cons_self
      · cases hj
    · rw [List.getElem?_set_ne hji] at hj
      refine h.2.2 (j, x_v z w) (List.mem_cons_of_mem _ (List.mem_filter.mpr ⟨x_lp_mem.mpr ⟨w, hj, rfl⟩, ?_⟩))
      have h1 : ¬ j = i := fun q => hji q.symm
      have h3 : ¬ j = i + 1 := fun q => hj1 q.symm
      by_cases h2 : j + 1 = i
      · simp [h1, h3, x_cat_v, x_ok_of ho h2 hj]
      · simp [h1, h2, h3]
/-- fewer locals are known -/
def x_le (L L' : List (Option xV)) : Prop := ∀ (i : Nat) (v : xV), L'[i]? = some (some v) → L[i]? = some (some v)
theorem x_L.less {ls : Array Slot} {nL : Nat} {z : xZ} {L L' : List (Option xV)} (h : x_L ls nL z L) (hl : x_le L L') : x_L ls nL z L' := ⟨h.1, h.2.1, fun i v hi => h.2.2 i v (hl i v hi)⟩
/-- words of nest mates, and of arrays of references -/
def x_N (U : State) : Prop := (∀ q ∈ xNs, va_Nw (.methodLinkNest q.1 q.2.1 q.2.2.1 q.2.2.2) U) ∧ va_AO "CallMarket$Account" U ∧ va_AO "CallMarket$Book" U ∧ va_AO "CallMarket$Order" U
theorem x_N_same {u U : State} (h : u.vm = U.vm) (q : x_N u) : x_N U := by
  have ha : u.vm.Alike U.vm := by rw [h]; exact Vm.Alike.refl U.vm
  exact ⟨fun w hw => va_Nw.same rfl h (q.1 w hw), q.2.1.moved ha, q.2.2.1.moved ha, q.2.2.2.moved ha⟩
theorem x_N_warm {s U : State} (hW : s.WarmedH U.vm) (q : x_N s) : x_N U := ⟨fun w hw => va_Nw.warmM hW (q.1 w hw), q.2.1.moved hW.alike, q.2.2.1.moved hW.alike, q.2.2.2.moved hW.alike⟩
/-- what nobody writes: the static table of rates, the script -/
def x_rt (j : Nat) : Value := .int (if j = 0 then 3 else 5)
def x_Z (G : xG) (U : State) (H : Heap) : Prop := va_Z "CallMarket" "RISK_RATES" "[I" (.ref G.2.2.2.1.1) (x_A G) U H ∧ va_T .int G.2.2.2.1.1 2 x_rt (x_A G) U H ∧ va_X G.2.2.2.1.2 G.2.2.2.2.1 G.2.2.2.2.2 U H ∧ G.2.2.2.1.2 < G.2.2.1 ∧ G.2.2.2.1.2 < H.size
theorem x_Z_moved {G : xG} {u U : State} {H : Heap} (hvm : u.vm.Alike U.vm) (q : x_Z G u H) : x_Z G U H := ⟨q.1.moved hvm, q.2.1.moved hvm, q.2.2.1.moved hvm, q.2.2.2⟩
theorem x_Z_kept {G : xG} {U : State} {H H1 : Heap} (q : x_Z G U H) (hz : H.size ≤ H1.size) (hq : ∀ a : Nat, a < H.size → ¬ x_A G a → H1[a]? = H[a]?) : x_Z G U H1 := ⟨q.1.kept hq, q.2.1.kept hq, q.2.2.1.kept (hq _ q.2.2.2.2 (Nat.not_le.mpr q.2.2.2.1)), q.2.2.2.1, Nat.lt_of_lt_of_le q.2.2.2.2 hz⟩
/-- what a world is at a state: the heap of ours, the tables, the words of nest mates, the statics -/
def x_In (G : xG) (z : xZ) (h : xH) (U : State) : Prop := x_W G z h U.heap ∧ x_K G U ∧ x_N U ∧ x_Z G U U.heap ∧ G.2.2.1 ≤ U.heap.size
def x_Qc (G : xG) (z : xZ) (nk : List xQ) (Q : Option xV → xH → Prop) : Array Value → State → Outcome → State → Prop := fun _ st oc t => ∃ (r : Option xV) (h' : xH) (z' : xZ), oc = .returned (r.map (x_v z')) ∧ Q r h' ∧ x_W G z' h' t.heap ∧ va_F (x_A G) st t ∧ ∀ a : xQ, a ∉ nk → z' a = z a
def x_rm (d kc ks : Nat) : Room := { frames := d, cells := kc, slots := ks, locals := 36 * d }
/-- a method's contract: from the heap h with the arguments av it returns, Q of its answer and of the heap then; new cells lie at the keys nk -/
def x_C (l : Launch) (G : xG) (M : xM) (d kc ks : Nat) (av : List xV) (h : xH) (nk : List xQ) (Q : Option xV → xH → Prop) : Prop := ∀ z : xZ, Met l M.1 (Cond.code M.1 M.2.1 M.2.2.1 M.2.2.2 :: wsA) (x_rm d kc ks) (va_Pc (x_s z av) (x_In G z h)) (x_Qc G z nk Q) kc ks (x_A G)
/-- what stays the same over a method's run -/
def x_Cx (p : Program) (G : xG) (M : xM) (R : Room) (s : State) (m : MethodId) (args : Array Value) (meth : Method) (c : Code) (d : Nat) : Prop :=
  p.tables.exec = Jvm.exec ∧ c.code = M.2.1 ∧ c.maxLocals = M.2.2.1 ∧ s.vm.findClass M.1.cls = some m.cls ∧ meth.sig.returnType = M.2.2.2 ∧ meth.locks = false ∧ meth.name = M.1.name ∧ (∀ w ∈ wsA, w.before args s = true) ∧ d ≤ R.frames ∧ 36 * d ≤ R.locals ∧ x_K G s ∧ x_N s ∧ x_Z G s s.heap ∧ G.2.2.1 ≤ s.heap.size
/-- from here the method returns, and Q holds of its answer and of the heap of ours then; d frames, kc cells of ks slots are left -/
def x_X (l : Launch) (G : xG) (M : xM) (d kc ks : Nat) (nk : List xQ) (Q : Option xV → xH → Prop) (pc : Nat) (L : List (Option xV)) (st : List xV) (h : xH) : Prop :=
  ∀ (p : Program) (e : Env) (R : Room) (s : State) (m : MethodId) (args : Array Value) (below : List Frame) (meth : Method) (c : Code) (H : Heap) (locs : List Loc) (cells slots mc ms : Nat) (ls : Array Slot) (z0 z : xZ),
    x_Cx p G M R s m args meth c d → (cells + kc ≤ mc ∧ slots + ks ≤ ms ∧ mc ≤ R.cells ∧ ms ≤ R.slots) → (∀ a : xQ, a ∉ nk → z a = z0 a) → x_W G z h H → va_S (x_A G) s.heap H locs → x_L ls M.2.2.1 z L →
      W p l e R s m args below meth c H locs cells slots (MQ below (x_Qc G z0 nk Q) args s mc ms (x_A G)) (F0 m pc ls (x_s z st))
end
section
section XR
variable {l : Launch} {G : xG} {M : xM} {d kc ks : Nat} {nk : List xQ} {Q : Option xV → xH → Prop} {pc : Nat} {L : List (Option xV)} {st : List xV} {h : xH}
theorem x_iadd {x y : Int32} (t : Nat) (hd : decode M.2.1 pc = .ok (.iadd, 1)) (ht : pc + 1 = t) (k : x_X l G M d kc ks nk Q t L (xI (x + y) :: st) h) : x_X l G M d kc ks nk Q pc L (xI y :: xI x :: st) h := by
  subst ht
  intro p e R s m args below meth c H locs cells slots mc ms ls z0 z C hc hz hW hS hL
  exact lv_iadd (x := x) (y := y) (rest := x_s z st) C.1 C.2.1 hd (k p e R s m args below meth c H locs cells slots mc ms ls z0 z C hc hz hW hS hL)
theorem x_isub {x y : Int32} (t : Nat) (hd : decode M.2.1 pc = .ok (.isub, 1)) (ht : pc + 1 = t) (k : x_X l G M d kc ks nk Q t L (xI (x - y) :: st) h) : x_X l G M d kc ks nk Q pc L (xI y :: xI x :: st) h := by
  subst ht
  intro p e R s m args below meth c H locs cells slots mc ms ls z0 z C hc hz hW hS hL
  exact lv_isub (x := x) (y := y) (rest := x_s z st) C.1 C.2.1 hd (k p e R s m args below meth c H locs cells slots mc ms ls z0 z C hc hz hW hS hL)
theorem x_imul {x y : Int32} (t : Nat) (hd : decode M.2.1 pc = .ok (.imul, 1)) (ht : pc + 1 = t) (k : x_X l G M d kc ks nk Q t L (xI (x * y) :: st) h) : x_X l G M d kc ks nk Q pc L (xI y :: xI x :: st) h := by
  subst ht
  intro p e R s m args below meth c H locs cells slots mc ms ls z0 z C hc hz hW hS hL
  exact lv_imul (x := x) (y := y) (rest := x_s z st) C.1 C.2.1 hd (k p e R s m args below meth c H locs cells slots mc ms ls z0 z C hc hz hW hS hL)
theorem x_iand {x y : Int32} (t : Nat) (hd : decode M.2.1 pc = .ok (.iand, 1)) (ht : pc + 1 = t) (k : x_X l G M d kc ks nk Q t L (xI (x &&& y) :: st) h) : x_X l G M d kc ks nk Q pc L (xI y :: xI x :: st) h := by
  subst ht
  intro p e R s m args below meth c H locs cells slots mc ms ls z0 z C hc hz hW hS hL
  exact lv_iand (x := x) (y := y) (rest := x_s z st) C.1 C.2.1 hd (k p e R s m args below meth c H locs cells slots mc ms ls z0 z C hc hz hW hS hL)
theorem x_ior {x y : Int32} (t : Nat) (hd : decode M.2.1 pc = .ok (.ior, 1)) (ht : pc + 1 = t) (k : x_X l G M d kc ks nk Q t L (xI (x ||| y) :: st) h) : x_X l G M d kc ks nk Q pc L (xI y :: xI x :: st) h := by
  subst ht
  intro p e R s m args below meth c H locs cells slots mc ms ls z0 z C hc hz hW hS hL
  exact lv_ior (x := x) (y := y) (rest := x_s z st) C.1 C.2.1 hd (k p e R s m args below meth c H locs cells slots mc ms ls z0 z C hc hz hW hS hL)
theorem x_ixor {x y : Int32} (t : Nat) (hd : decode M.2.1 pc = .ok (.ixor, 1)) (ht : pc + 1 = t) (k : x_X l G M d kc ks nk Q t L (xI (x ^^^ y) :: st) h) : x_X l G M d kc ks nk Q pc L (xI y :: xI x :: st) h := by
  subst ht
  intro p e R s m args below meth c H locs cells slots mc ms ls z0 z C hc hz hW hS hL
  exact lv_ixor (x := x) (y := y) (rest := x_s z st) C.1 C.2.1 hd (k p e R s m args below meth c H locs cells slots mc ms ls z0 z C hc hz hW hS hL)
theorem x_idiv {x y : Int32} (t : Nat) (hd : decode M.2.1 pc = .ok (.idiv, 1)) (ht : pc + 1 = t) (hne : ¬ y = 0) (k : x_X l G M d kc ks nk Q t L (xI (x / y) :: st) h) : x_X l G M d kc ks nk Q pc L (xI y :: xI x :: st) h := by
  subst ht
  intro p e R s m args below meth c H locs cells slots mc ms ls z0 z C hc hz hW hS hL
  exact lv_idiv (x := x) (y := y) (rest := x_s z st) C.1 C.2.1 hd hne (k p e R s m args below meth c H locs cells slots mc ms ls z0 z C hc hz hW hS hL)
theorem x_irem {x y : Int32} (t : Nat) (hd : decode M.2.1 pc = .ok (.irem, 1)) (ht : pc + 1 = t) (hne : ¬ y = 0) (k : x_X l G M d kc ks nk Q t L (xI (x - x / y * y) :: st) h) : x_X l G M d kc ks nk Q pc L (xI y :: xI x :: st) h := by
  subst ht
  intro p e R s m args below meth c H locs cells slots mc ms ls z0 z C hc hz hW hS hL
  exact lv_irem (x := x) (y := y) (rest := x_s z st) C.1 C.2.1 hd hne (k p e R s m args below meth c H locs cells slots mc ms ls z0 z C hc hz hW hS hL)
theorem x_ineg {x : Int32} (t : Nat) (hd : decode M.2.1 pc = .ok (.ineg, 1)) (ht : pc + 1 = t) (k : x_X l G M d kc ks nk Q t L (xI (-x) :: st) h) : x_X l G M d kc ks nk Q pc L (xI x :: st) h := by
  subst ht
  intro p e R s m args below meth c H locs cells slots mc ms ls z0 z C hc hz hW hS hL
  exact lv_ineg (x := x) (rest := x_s z st) C.1 C.2.1 hd (k p e R s m args below meth c H locs cells slots mc ms ls z0 z C hc hz hW hS hL)
theorem x_ladd {x y : Int64} (t : Nat) (hd : decode M.2.1 pc = .ok (.ladd, 1)) (ht : pc + 1 = t) (k : x_X l G M d kc ks nk Q t L (xJ (x + y) :: st) h) : x_X l G M d kc ks nk Q pc L (xJ y :: xJ x :: st) h := by
  subst ht
  intro p e R s m args below meth c H locs cells slots mc ms ls z0 z C hc hz hW hS hL
  exact lv_ladd (x := x) (y := y) (rest := x_s z st) C.1 C.2.1 hd (k p e R s m args below meth c H locs cells slots mc ms ls z0 z C hc hz hW hS hL)
theorem x_lsub {x y : Int64} (t : Nat) (hd : decode M.2.1 pc = .ok (.lsub, 1)) (ht : pc + 1 = t) (k : x_X l G M d kc ks nk Q t L (xJ (x - y) :: st) h) : x_X l G M d kc ks nk Q pc L (xJ y :: xJ x :: st) h := by
  subst ht
  intro p e R s m args below meth c H locs cells slots mc ms ls z0 z C hc hz hW hS hL
  exact lv_lsub (x := x) (y := y) (rest := x_s z st) C.1 C.2.1 hd (k p e R s m args below meth c H locs cells slots mc ms ls z0 z C hc hz hW hS hL)
theorem x_lmul {x y : Int64} (t : Nat) (hd : decode M.2.1 pc = .ok (.lmul, 1)) (ht : pc + 1 = t) (k : x_X l G M d kc ks nk Q t L (xJ (x * y) :: st) h) : x_X l G M d kc ks nk Q pc L (xJ y :: xJ x :: st) h := by
  subst ht
  intro p e R s m args below meth c H locs cells slots mc ms ls z0 z C hc hz hW hS hL
  exact lv_lmul (x := x) (y := y) (rest := x_s z st) C.1 C.2.1 hd (k p e R s m args below meth c H locs cells slots mc ms ls z0 z C hc hz hW hS hL)
theorem x_lneg {x : Int64} (t : Nat) (hd : decode M.2.1 pc = .ok (.lneg, 1)) (ht : pc + 1 = t) (k : x_X l G M d kc ks nk Q t L (xJ (-x) :: st) h) : x_X l G M d kc ks nk Q pc L (xJ x :: st) h := by
  subst ht
  intro p e R s m args below meth c H locs cells slots mc ms ls z0 z C hc hz hW hS hL
  exact lv_lneg (x := x) (rest := x_s z st) C.1 C.2.1 hd (k p e R s m args below meth c H locs cells slots mc ms ls z0 z C hc hz hW hS hL)
theorem x_lcmp {x y : Int64} (t : Nat) (hd : decode M.2.1 pc = .ok (.lcmp, 1)) (ht : pc + 1 = t) (k : x_X l G M d kc ks nk Q t L (xI (lg_cmp x y) :: st) h) : x_X l G M d kc ks nk Q pc L (xJ y :: xJ x :: st) h := by
  subst ht
  intro p e R s m args below meth c H locs cells slots mc ms ls z0 z C hc hz hW hS hL
  exact W.lcmp (x := x) (y := y) (rest := x_s z st) C.1 C.2.1 hd (k p e R s m args below meth c H locs cells slots mc ms ls z0 z C hc hz hW hS hL)
theorem x_i2l {x : Int32} (t : Nat) (hd : decode M.2.1 pc = .ok (.i2l, 1)) (ht : pc + 1 = t) (k : x_X l G M d kc ks nk Q t L (xJ x.toInt64 :: st) h) : x_X l G M d kc ks nk Q pc L (xI x :: st) h := by
  subst ht
  intro p e R s m args below meth c H locs cells slots mc ms ls z0 z C hc hz hW hS hL
  exact lv_i2l (x := x) (rest := x_s z st) C.1 C.2.1 hd rfl (k p e R s m args below meth c H locs cells slots mc ms ls z0 z C hc hz hW hS hL)
theorem x_iconst {n : Int} (v : Int32) (t : Nat) (hd : decode M.2.1 pc = .ok (.iconst n, 1)) (ht : pc + 1 = t) (hv : Int32.ofInt n = v) (k : x_X l G M d kc ks nk Q t L (xI v :: st) h) : x_X l G M d kc ks nk Q pc L (st) h := by
  subst ht
  intro p e R s m args below meth c H locs cells slots mc ms ls z0 z C hc hz hW hS hL
  exact lv_iconst (v := v) (rest := x_s z st) C.1 C.2.1 hd hv (k p e R s m args below meth c H locs cells slots mc ms ls z0 z C hc hz hW hS hL)
theorem x_bipush {n : Int} (v : Int32) (t : Nat) (hd : decode M.2.1 pc = .ok (.bipush n, 2)) (ht : pc + 2 = t) (hv : (Int8.ofInt n).toInt32 = v) (k : x_X l G M d kc ks nk Q t L (xI v :: st) h) : x_X l G M d kc ks nk Q pc L (st) h := by
  subst ht
  intro p e R s m args below meth c H locs cells slots mc ms ls z0 z C hc hz hW hS hL
  exact lv_bipush (v := v) (rest := x_s z st) C.1 C.2.1 hd hv (k p e R s m args below meth c H locs cells slots mc ms ls z0 z C hc hz hW hS hL)
theorem x_sipush {n : Int} (v : Int32) (t : Nat) (hd : decode M.2.1 pc = .ok (.sipush n, 3)) (ht : pc + 3 = t) (hv : (Int16.ofInt n).toInt32 = v) (k : x_X l G M d kc ks nk Q t L (xI v :: st) h) : x_X l G M d kc ks nk Q pc L (st) h := by
  subst ht
  intro p e R s m args below meth c H locs cells slots mc ms ls z0 z C hc hz hW hS hL
  exact lv_sipush (v := v) (rest := x_s z st) C.1 C.2.1 hd hv (k p e R s m args below meth c H locs cells slots mc ms ls z0 z C hc hz hW hS hL)
theorem x_lconst {n : Fin 2} (v : Int64) (t : Nat) (hd : decode M.2.1 pc = .ok (.lconst n, 1)) (ht : pc + 1 = t) (hv : Int64.ofNat (n : Nat) = v) (k : x_X l G M d kc ks nk Q t L (xJ v :: st) h) : x_X l G M d kc ks nk Q pc L (st) h := by
  subst ht
  intro p e R s m args below meth c H locs cells slots mc ms ls z0 z C hc hz hW hS hL
  exact lv_lconst (v := v) (rest := x_s z st) C.1 C.2.1 hd hv (k p e R s m args below meth c H locs cells slots mc ms ls z0 z C hc hz hW hS hL)
theorem x_ldc {index : Nat} (v : Int32) (t : Nat) (hd : decode M.2.1 pc = .ok (.ldc index, 2)) (ht : pc + 2 = t) (hv : Cond.constant M.1.cls index v ∈ wsA) (k : x_X l G M d kc ks nk Q t L (xI v :: st) h) : x_X l G M d kc ks nk Q pc L st h := by
  subst ht
  intro p e R s m args below meth c H locs cells slots mc ms ls z0 z C hc hz hW hS hL
  have C' := C
  obtain ⟨hx, hb, hml, hown, hret, hlk, hnm, hts, hfr, hlo, hK, hN⟩ := C'
  exact lv_ldc (rest := x_s z st) hx hb hown (hts _ hv) hd (k p e R s m args below meth c H locs cells slots mc ms ls z0 z C hc hz hW hS hL)
theorem x_dup {u : xV} (t : Nat) (hd : decode M.2.1 pc = .ok (.dup, 1)) (ht : pc + 1 = t) (cu : x_cat u = 1) (k : x_X l G M d kc ks nk Q t L (u :: u :: st) h) : x_X l G M d kc ks nk Q pc L (u :: st) h := by
  subst ht
  intro p e R s m args below meth c H locs cells slots mc ms ls z0 z C hc hz hW hS hL
  exact lv_dup (va := x_v z u) (rest := x_s z st) C.1 C.2.1 hd (by rw [x_cat_v]; exact cu) (k p e R s m args below meth c H locs cells slots mc ms ls z0 z C hc hz hW hS hL)
theorem x_pop {u : xV} (t : Nat) (hd : decode M.2.1 pc = .ok (.pop, 1)) (ht : pc + 1 = t) (cu : x_cat u = 1) (k : x_X l G M d kc ks nk Q t L (st) h) : x_X l G M d kc ks nk Q pc L (u :: st) h := by
  subst ht
  intro p e R s m args below meth c H locs cells slots mc ms ls z0 z C hc hz hW hS hL
  exact lv_pop (va := x_v z u) (rest := x_s z st) C.1 C.2.1 hd (by rw [x_cat_v]; exact cu) (k p e R s m args below meth c H locs cells slots mc ms ls z0 z C hc hz hW hS hL)
theorem x_dup_x1 {u v : xV} (t : Nat) (hd : decode M.2.1 pc = .ok (.dup_x1, 1)) (ht : pc + 1 = t) (cu : x_cat u = 1) (cv : x_cat v = 1) (k : x_X l G M d kc ks nk Q t L (u :: v :: u :: st) h) : x_X l G M d kc ks nk Q pc L (u :: v :: st) h := by
  subst ht
  intro p e R s m args below meth c H locs cells slots mc ms ls z0 z C hc hz hW hS hL
  exact lv_dup_x1 (va := x_v z u) (vb := x_v z v) (rest := x_s z st) C.1 C.2.1 hd (by rw [x_cat_v]; exact cu) (by rw [x_cat_v]; exact cv) (k p e R s m args below meth c H locs cells slots mc ms ls z0 z C hc hz hW hS hL)
theorem x_dup_x2 {a u v : xV} (t : Nat) (hd : decode M.2.1 pc = .ok (.dup_x2, 1)) (ht : pc + 1 = t) (ca : x_cat a = 1) (cu : x_cat u = 1) (cv : x_cat v = 1) (k : x_X l G M d kc ks nk Q t L (a :: u :: v :: a :: st) h) : x_X l G M d kc ks nk Q pc L (a :: u :: v :: st) h := by
  subst ht
  intro p e R s m args below meth c H locs cells slots mc ms ls z0 z C hc hz hW hS hL
  exact lv_dup_x2 (va := x_v z a) (vb := x_v z u) (vd := x_v z v) (rest := x_s z st) C.1 C.2.1 hd (by rw [x_cat_v]; exact ca) (by rw [x_cat_v]; exact cu) (by rw [x_cat_v]; exact cv) (k p e R s m args below meth c H locs cells slots mc ms ls z0 z C hc hz hW hS hL)
theorem x_dup2 {u v : xV} (t : Nat) (hd : decode M.2.1 pc = .ok (.dup2, 1)) (ht : pc + 1 = t) (cu : x_cat u = 1) (cv : x_cat v = 1) (k : x_X l G M d kc ks nk Q t L (u :: v :: u :: v :: st) h) : x_X l G M d kc ks nk Q pc L (u :: v :: st) h := by
  subst ht
  intro p e R s m args below meth c H locs cells slots mc ms ls z0 z C hc hz hW hS hL
  exact lv_dup2_11 (va := x_v z u) (vb := x_v z v) (rest := x_s z st) C.1 C.2.1 hd (by rw [x_cat_v]; exact cu) (by rw [x_cat_v]; exact cv) (k p e R s m args below meth c H locs cells slots mc ms ls z0 z C hc hz hW hS hL)
theorem x_dup2l {u : xV} (t : Nat) (hd : decode M.2.1 pc = .ok (.dup2, 1)) (ht : pc + 1 = t) (cu : x_cat u = 2) (k : x_X l G M d kc ks nk Q t L (u :: u :: st) h) : x_X l G M d kc ks nk Q pc L (u :: st) h := by
  subst ht
  intro p e R s m args below meth c H locs cells slots mc ms ls z0 z C hc hz hW hS hL
  exact lv_dup2_2 (va := x_v z u) (rest := x_s z st) C.1 C.2.1 hd (by rw [x_cat_v]; exact cu) (k p e R s m args below meth c H locs cells slots mc ms ls z0 z C hc hz hW hS hL)
theorem x_pop2l {u : xV} (t : Nat) (hd : decode M.2.1 pc = .ok (.pop2, 1)) (ht : pc + 1 = t) (cu : x_cat u = 2) (k : x_X l G M d kc ks nk Q t L (st) h) : x_X l G M d kc ks nk Q pc L (u :: st) h := by
  subst ht
  intro p e R s m args below meth c H locs cells slots mc ms ls z0 z C hc hz hW hS hL
  exact lv_pop2_2 (va := x_v z u) (rest := x_s z st) C.1 C.2.1 hd (by rw [x_cat_v]; exact cu) (k p e R s m args below meth c H locs cells slots mc ms ls z0 z C hc hz hW hS hL)
theorem x_if_eq {x : Int32} {off : Int} (tgt t : Nat) (hd : decode M.2.1 pc = .ok (.ifCond .eq off, 3)) (hg : (pc : Int) + off = (tgt : Int)) (ht : pc + 3 = t) (kt : x = 0 → x_X l G M d kc ks nk Q tgt L st h) (kf : ¬ x = 0 → x_X l G M d kc ks nk Q t L st h) : x_X l G M d kc ks nk Q pc L (xI x :: st) h := by
  subst ht
  intro p e R s m args below meth c H locs cells slots mc ms ls z0 z C hc hz hW hS hL
  exact lv_if_eq (x := x) (rest := x_s z st) C.1 C.2.1 hd hg (fun q => kt q p e R s m args below meth c H locs cells slots mc ms ls z0 z C hc hz hW hS hL) (fun q => kf q p e R s m args below meth c H locs cells slots mc ms ls z0 z C hc hz hW hS hL)
theorem x_icmp_eq {x y : Int32} {off : Int} (tgt t : Nat) (hd : decode M.2.1 pc = .ok (.if_icmp .eq off, 3)) (hg : (pc : Int) + off = (tgt : Int)) (ht : pc + 3 = t) (kt : x = y → x_X l G M d kc ks nk Q tgt L st h) (kf : ¬ x = y → x_X l G M d kc ks nk Q t L st h) : x_X l G M d kc ks nk Q pc L (xI y :: xI x :: st) h := by
  subst ht
  intro p e R s m args below meth c H locs cells slots mc ms ls z0 z C hc hz hW hS hL
  exact lv_icmp_eq (x := x) (y := y) (rest := x_s z st) C.1 C.2.1 hd hg (fun q => kt q p e R s m args below meth c H locs cells slots mc ms ls z0 z C hc hz hW hS hL) (fun q => kf q p e R s m args below meth c H locs cells slots mc ms ls z0 z C hc hz hW hS hL)
theorem x_if_ne {x : Int32} {off : Int} (tgt t : Nat) (hd : decode M.2.1 pc = .ok (.ifCond .ne off, 3)) (hg : (pc : Int) + off = (tgt : Int)) (ht : pc + 3 = t) (kt : ¬ x = 0 → x_X l G M d kc ks nk Q tgt L st h) (kf : x = 0 → x_X l G M d kc ks nk Q t L st h) : x_X l G M d kc ks nk Q pc L (xI x :: st) h := by
  subst ht
  intro p e R s m args below meth c H locs cells slots mc ms ls z0 z C hc hz hW hS hL
  exact lv_if_ne (x := x) (rest := x_s z st) C.1 C.2.1 hd hg (fun q => kt q p e R s m args below meth c H locs cells slots mc ms ls z0 z C hc hz hW hS hL) (fun q => kf q p e R s m args below meth c H locs cells slots mc ms ls z0 z C hc hz hW hS hL)
theorem x_icmp_ne {x y : Int32} {off : Int} (tgt t : Nat) (hd : decode M.2.1 pc = .ok (.if_icmp .ne off, 3)) (hg : (pc : Int) + off = (tgt : Int)) (ht : pc + 3 = t) (kt : ¬ x = y → x_X l G M d kc ks nk Q tgt L st h) (kf : x = y → x_X l G M d kc ks nk Q t L st h) : x_X l G M d kc ks nk Q pc L (xI y :: xI x :: st) h := by
  subst ht
  intro p e R s m args below meth c H locs cells slots mc ms ls z0 z C hc hz hW hS hL
  exact lv_icmp_ne (x := x) (y := y) (rest := x_s z st) C.1 C.2.1 hd hg (fun q => kt q p e R s m args below meth c H locs cells slots mc ms ls z0 z C hc hz hW hS hL) (fun q => kf q p e R s m args below meth c H locs cells slots mc ms ls z0 z C hc hz hW hS hL)
theorem x_if_lt {x : Int32} {off : Int} (tgt t : Nat) (hd : decode M.2.1 pc = .ok (.ifCond .lt off, 3)) (hg : (pc : Int) + off = (tgt : Int)) (ht : pc + 3 = t) (kt : x < 0 → x_X l G M d kc ks nk Q tgt L st h) (kf : ¬ x < 0 → x_X l G M d kc ks nk Q t L st h) : x_X l G M d kc ks nk Q pc L (xI x :: st) h := by
  subst ht
  intro p e R s m args below meth c H locs cells slots mc ms ls z0 z C hc hz hW hS hL
  exact lv_if_lt (x := x) (rest := x_s z st) C.1 C.2.1 hd hg (fun q => kt q p e R s m args below meth c H locs cells slots mc ms ls z0 z C hc hz hW hS hL) (fun q => kf q p e R s m args below meth c H locs cells slots mc ms ls z0 z C hc hz hW hS hL)
theorem x_icmp_lt {x y : Int32} {off : Int} (tgt t : Nat) (hd : decode M.2.1 pc = .ok (.if_icmp .lt off, 3)) (hg : (pc : Int) + off = (tgt : Int)) (ht : pc + 3 = t) (kt : x < y → x_X l G M d kc ks nk Q tgt L st h) (kf : ¬ x < y → x_X l G M d kc ks nk Q t L st h) : x_X l G M d kc ks nk Q pc L (xI y :: xI x :: st) h := by
  subst ht
  intro p e R s m args below meth c H locs cells slots mc ms ls z0 z C hc hz hW hS hL
  exact lv_icmp_lt (x := x) (y := y) (rest := x_s z st) C.1 C.2.1 hd hg (fun q => kt q p e R s m args below meth c H locs cells slots mc ms ls z0 z C hc hz hW hS hL) (fun q => kf q p e R s m args below meth c H locs cells slots mc ms ls z0 z C hc hz hW hS hL)
theorem x_if_ge {x : Int32} {off : Int} (tgt t : Nat) (hd : decode M.2.1 pc = .ok (.ifCond .ge off, 3)) (hg : (pc : Int) + off = (tgt : Int)) (ht : pc + 3 = t) (kt : 0 ≤ x → x_X l G M d kc ks nk Q tgt L st h) (kf : ¬ 0 ≤ x → x_X l G M d kc ks nk Q t L st h) : x_X l G M d kc ks nk Q pc L (xI x :: st) h := by
  subst ht
  intro p e R s m args below meth c H locs cells slots mc ms ls z0 z C hc hz hW hS hL
  exact lv_if_ge (x := x) (rest := x_s z st) C.1 C.2.1 hd hg (fun q => kt q p e R s m args below meth c H locs cells slots mc ms ls z0 z C hc hz hW hS hL) (fun q => kf q p e R s m args below meth c H locs cells slots mc ms ls z0 z C hc hz hW hS hL)
theorem x_icmp_ge {x y : Int32} {off : Int} (tgt t : Nat) (hd : decode M.2.1 pc = .ok (.if_icmp .ge off, 3)) (hg : (pc : Int) + off = (tgt : Int)) (ht : pc + 3 = t) (kt : y ≤ x → x_X l G M d kc ks nk Q tgt L st h) (kf : ¬ y ≤ x → x_X l G M d kc ks nk Q t L st h) : x_X l G M d kc ks nk Q pc L (xI y :: xI x :: st) h := by
  subst ht
  intro p e R s m args below meth c H locs cells slots mc ms ls z0 z C hc hz hW hS hL
  exact lv_icmp_ge (x := x) (y := y) (rest := x_s z st) C.1 C.2.1 hd hg (fun q => kt q p e R s m args below meth c H locs cells slots mc ms ls z0 z C hc hz hW hS hL) (fun q => kf q p e R s m args below meth c H locs cells slots mc ms ls z0 z C hc hz hW hS hL)
theorem x_if_gt {x : Int32} {off : Int} (tgt t : Nat) (hd : decode M.2.1 pc = .ok (.ifCond .gt off, 3)) (hg : (pc : Int) + off = (tgt : Int)) (ht : pc + 3 = t) (kt : 0 < x → x_X l G M d kc ks nk Q tgt L st h) (kf : ¬ 0 < x → x_X l G M d kc ks nk Q t L st h) : x_X l G M d kc ks nk Q pc L (xI x :: st) h := by
  subst ht
  intro p e R s m args below meth c H locs cells slots mc ms ls z0 z C hc hz hW hS hL
  exact lv_if_gt (x := x) (rest := x_s z st) C.1 C.2.1 hd hg (fun q => kt q p e R s m args below meth c H locs cells slots mc ms ls z0 z C hc hz hW hS hL) (fun q => kf q p e R s m args below meth c H locs cells slots mc ms ls z0 z C hc hz hW hS hL)
theorem x_icmp_gt {x y : Int32} {off : Int} (tgt t : Nat) (hd : decode M.2.1 pc = .ok (.if_icmp .gt off, 3)) (hg : (pc : Int) + off = (tgt : Int)) (ht : pc + 3 = t) (kt : y < x → x_X l G M d kc ks nk Q tgt L st h) (kf : ¬ y < x → x_X l G M d kc ks nk Q t L st h) : x_X l G M d kc ks nk Q pc L (xI y :: xI x :: st) h := by
  subst ht
  intro p e R s m args below meth c H locs cells slots mc ms ls z0 z C hc hz hW hS hL
  exact lv_icmp_gt (x := x) (y := y) (rest := x_s z st) C.1 C.2.1 hd hg (fun q => kt q p e R s m args below meth c H locs cells slots mc ms ls z0 z C hc hz hW hS hL) (fun q => kf q p e R s m args below meth c H locs cells slots mc ms ls z0 z C hc hz hW hS hL)
theorem x_if_le {x : Int32} {off : Int} (tgt t : Nat) (hd : decode M.2.1 pc = .ok (.ifCond .le off, 3)) (hg : (pc : Int) + off = (tgt : Int)) (ht : pc + 3 = t) (kt : x ≤ 0 → x_X l G M d kc ks nk Q tgt L st h) (kf : ¬ x ≤ 0 → x_X l G M d kc ks nk Q t L st h) : x_X l G M d kc ks nk Q pc L (xI x :: st) h := by
  subst ht
  intro p e R s m args below meth c H locs cells slots mc ms ls z0 z C hc hz hW hS hL
  exact lv_if_le (x := x) (rest := x_s z st) C.1 C.2.1 hd hg (fun q => kt q p e R s m args below meth c H locs cells slots mc ms ls z0 z C hc hz hW hS hL) (fun q => kf q p e R s m args below meth c H locs cells slots mc ms ls z0 z C hc hz hW hS hL)
theorem x_icmp_le {x y : Int32} {off : Int} (tgt t : Nat) (hd : decode M.2.1 pc = .ok (.if_icmp .le off, 3)) (hg : (pc : Int) + off = (tgt : Int)) (ht : pc + 3 = t) (kt : x ≤ y → x_X l G M d kc ks nk Q tgt L st h) (kf : ¬ x ≤ y → x_X l G M d kc ks nk Q t L st h) : x_X l G M d kc ks nk Q pc L (xI y :: xI x :: st) h := by
  subst ht
  intro p e R s m args below meth c H locs cells slots mc ms ls z0 z C hc hz hW hS hL
  exact lv_icmp_le (x := x) (y := y) (rest := x_s z st) C.1 C.2.1 hd hg (fun q => kt q p e R s m args below meth c H locs cells slots mc ms ls z0 z C hc hz hW hS hL) (fun q => kf q p e R s m args below meth c H locs cells slots mc ms ls z0 z C hc hz hW hS hL)
theorem x_goto {off : Int} (tgt : Nat) (hd : decode M.2.1 pc = .ok (.goto off, 3)) (ht : (pc : Int) + off = (tgt : Int)) (k : x_X l G M d kc ks nk Q tgt L st h) : x_X l G M d kc ks nk Q pc L st h := by
  intro p e R s m args below meth c H locs cells slots mc ms ls z0 z C hc hz hW hS hL
  exact lv_goto (rest := x_s z st) C.1 C.2.1 hd ht (k p e R s m args below meth c H locs cells slots mc ms ls z0 z C hc hz hW hS hL)
theorem x_null (t : Nat) (hd : decode M.2.1 pc = .ok (.aconst_null, 1)) (ht : pc + 1 = t) (k : x_X l G M d kc ks nk Q t L (xR none :: st) h) : x_X l G M d kc ks nk Q pc L st h := by
  subst ht
  intro p e R s m args below meth c H locs cells slots mc ms ls z0 z C hc hz hW hS hL
  exact lv_null (rest := x_s z st) C.1 C.2.1 hd (k p e R s m args below meth c H locs cells slots mc ms ls z0 z C hc hz hW hS hL)
theorem x_ifnull {q : Option xQ} {off : Int} (tgt t : Nat) (hd : decode M.2.1 pc = .ok (.ifnull off, 3)) (hg : (pc : Int) + off = (tgt : Int)) (ht : pc + 3 = t) (kt : q = none → x_X l G M d kc ks nk Q tgt L st h) (kf : ∀ a : xQ, q = some a → x_X l G M d kc ks nk Q t L st h) : x_X l G M d kc ks nk Q pc L (xR q :: st) h := by
  subst ht
  intro p e R s m args below meth c H locs cells slots mc ms ls z0 z C hc hz hW hS hL
  cases q with
  | none => exact lv_ifnullN (rest := x_s z st) C.1 C.2.1 hd hg (kt rfl p e R s m args below meth c H locs cells slots mc ms ls z0 z C hc hz hW hS hL)
  | some a => exact lv_ifnull (x := z a) (rest := x_s z st) C.1 C.2.1 hd (kf a rfl p e R s m args below meth c H locs cells slots mc ms ls z0 z C hc hz hW hS hL)
theorem x_ifnonnull {q : Option xQ} {off : Int} (tgt t : Nat) (hd : decode M.2.1 pc = .ok (.ifnonnull off, 3)) (hg : (pc : Int) + off = (tgt : Int)) (ht : pc + 3 = t) (kt : ∀ a : xQ, q = some a → x_X l G M d kc ks nk Q tgt L st h) (kf : q = none → x_X l G M d kc ks nk Q t L st h) : x_X l G M d kc ks nk Q pc L (xR q :: st) h := by
  subst ht
  intro p e R s m args below meth c H locs cells slots mc ms ls z0 z C hc hz hW hS hL
  cases q with
  | none => exact lv_ifnonnullN (rest := x_s z st) C.1 C.2.1 hd (kf rfl p e R s m args below meth c H locs cells slots mc ms ls z0 z C hc hz hW hS hL)
  | some a => exact lv_ifnonnull (x := z a) (rest := x_s z st) C.1 C.2.1 hd hg (kt a rfl p e R s m args below meth c H locs cells slots mc ms ls z0 z C hc hz hW hS hL)
theorem x_inj {z : xZ} {H : Heap} (hW : x_W G z h H) {rx ry : Option xQ} (hx : ∀ a : xQ, rx = some a → h a ≠ none) (hy : ∀ a : xQ, ry = some a → h a ≠ none) : rx.map z = ry.map z ↔ rx = ry := by
  constructor
  · intro q
    cases rx with
    | none => cases ry with
      | none => rfl
      | some b => simp at q
    | some a => cases ry with
      | none => simp at q
      | some b =>
        have := hW.2 a b (hx a rfl) (hy b rfl) (by simpa using q)
        rw [this]
  · intro q
    rw [q]
theorem x_acmp_eq {rx ry : Option xQ} {off : Int} (tgt t : Nat) (hd : decode M.2.1 pc = .ok (.if_acmp .eq off, 3)) (hg : (pc : Int) + off = (tgt : Int)) (ht : pc + 3 = t) (hx : ∀ a : xQ, rx = some a → h a ≠ none) (hy : ∀ a : xQ, ry = some a → h a ≠ none) (kt : rx = ry → x_X l G M d kc ks nk Q tgt L st h) (kf : ¬ rx = ry → x_X l G M d kc ks nk Q t L st h) : x_X l G M d kc ks nk Q pc L (xR ry :: xR rx :: st) h := by
  subst ht
  intro p e R s m args below meth c H locs cells slots mc ms ls z0 z C hc hz hW hS hL
  exact lv_acmp_eq (rx := rx.map z) (ry := ry.map z) (rest := x_s z st) C.1 C.2.1 hd hg (fun q => kt ((x_inj hW hx hy).mp q) p e R s m args below meth c H locs cells slots mc ms ls z0 z C hc hz hW hS hL) (fun q => kf (fun w => q ((x_inj hW hx hy).mpr w)) p e R s m args below meth c H locs cells slots mc ms ls z0 z C hc hz hW hS hL)
theorem x_acmp_ne {rx ry : Option xQ} {off : Int} (tgt t : Nat) (hd : decode M.2.1 pc = .ok (.if_acmp .ne off, 3)) (hg : (pc : Int) + off = (tgt : Int)) (ht : pc + 3 = t) (hx : ∀ a : xQ, rx = some a → h a ≠ none) (hy : ∀ a : xQ, ry = some a → h a ≠ none) (kt : ¬ rx = ry → x_X l G M d kc ks nk Q tgt L st h) (kf : rx = ry → x_X l G M d kc ks nk Q t L st h) : x_X l G M d kc ks nk Q pc L (xR ry :: xR rx :: st) h := by
  subst ht
  intro p e R s m args below meth c H locs cells slots mc ms ls z0 z C hc hz hW hS hL
  exact lv_acmp_ne (rx := rx.map z) (ry := ry.map z) (rest := x_s z st) C.1 C.2.1 hd hg (fun q => kt (fun w => q ((x_inj hW hx hy).mpr w)) p e R s m args below meth c H locs cells slots mc ms ls z0 z C hc hz hW hS hL) (fun q => kf ((x_inj hW hx hy).mp q) p e R s m args below meth c H locs cells slots mc ms ls z0 z C hc hz hW hS hL)
theorem x_iload_n {n : Fin 4} {x : Int32} (t : Nat) (hd : decode M.2.1 pc = .ok (.iload_n n, 1)) (ht : pc + 1 = t) (hl : L[(n : Nat)]? = some (some (xI x))) (k : x_X l G M d kc ks nk Q t L (xI x :: st) h) : x_X l G M d kc ks nk Q pc L st h := by
  subst ht
  intro p e R s m args below meth c H locs cells slots mc ms ls z0 z C hc hz hW hS hL
  exact lv_iload_n (x := x) (rest := x_s z st) C.1 C.2.1 hd rfl (hL.2.2 _ _ hl) (k p e R s m args below meth c H locs cells slots mc ms ls z0 z C hc hz hW hS hL)
theorem x_iload {i : Nat} {x : Int32} (t : Nat) (hd : decode M.2.1 pc = .ok (.iload i, 2)) (ht : pc + 2 = t) (hl : L[i]? = some (some (xI x))) (k : x_X l G M d kc ks nk Q t L (xI x :: st) h) : x_X l G M d kc ks nk Q pc L st h := by
  subst ht
  intro p e R s m args below meth c H locs cells slots mc ms ls z0 z C hc hz hW hS hL
  exact lv_iload (x := x) (rest := x_s z st) C.1 C.2.1 hd (hL.2.2 _ _ hl) (k p e R s m args below meth c H locs cells slots mc ms ls z0 z C hc hz hW hS hL)
theorem x_lload_n {n : Fin 4} {x : Int64} (t : Nat) (hd : decode M.2.1 pc = .ok (.lload_n n, 1)) (ht : pc + 1 = t) (hl : L[(n : Nat)]? = some (some (xJ x))) (k : x_X l G M d kc ks nk Q t L (xJ x :: st) h) : x_X l G M d kc ks nk Q pc L st h := by
  subst ht
  intro p e R s m args below meth c H locs cells slots mc ms ls z0 z C hc hz hW hS hL
  exact lv_lload_n (x := x) (rest := x_s z st) C.1 C.2.1 hd rfl (hL.2.2 _ _ hl) (k p e R s m args below meth c H locs cells slots mc ms ls z0 z C hc hz hW hS hL)
theorem x_lload {i : Nat} {x : Int64} (t : Nat) (hd : decode M.2.1 pc = .ok (.lload i, 2)) (ht : pc + 2 = t) (hl : L[i]? = some (some (xJ x))) (k : x_X l G M d kc ks nk Q t L (xJ x :: st) h) : x_X l G M d kc ks nk Q pc L st h := by
  subst ht
  intro p e R s m args below meth c H locs cells slots mc ms ls z0 z C hc hz hW hS hL
  exact lv_lload (x := x) (rest := x_s z st) C.1 C.2.1 hd (hL.2.2 _ _ hl) (k p e R s m args below meth c H locs cells slots mc ms ls z0 z C hc hz hW hS hL)
theorem x_aload_n {n : Fin 4} {r : Option xQ ⊕ Nat} (t : Nat) (hd : decode M.2.1 pc = .ok (.aload_n n, 1)) (ht : pc + 1 = t) (hl : L[(n : Nat)]? = some (some (Sum.inr (Sum.inr r)))) (k : x_X l G M d kc ks nk Q t L (Sum.inr (Sum.inr r) :: st) h) : x_X l G M d kc ks nk Q pc L st h := by
  subst ht
  intro p e R s m args below meth c H locs cells slots mc ms ls z0 z C hc hz hW hS hL
  rcases r with (_ | a) | a
  · exact lv_aload_nN (rest := x_s z st) C.1 C.2.1 hd rfl (hL.2.2 _ _ hl) (k p e R s m args below meth c H locs cells slots mc ms ls z0 z C hc hz hW hS hL)
  · exact lv_aload_n (x := z a) (rest := x_s z st) C.1 C.2.1 hd rfl (hL.2.2 _ _ hl) (k p e R s m args below meth c H locs cells slots mc ms ls z0 z C hc hz hW hS hL)
  · exact lv_aload_n (x := a) (rest := x_s z st) C.1 C.2.1 hd rfl (hL.2.2 _ _ hl) (k p e R s m args below meth c H locs cells slots mc ms ls z0 z C hc hz hW hS hL)
theorem x_aload {i : Nat} {r : Option xQ ⊕ Nat} (t : Nat) (hd : decode M.2.1 pc = .ok (.aload i, 2)) (ht : pc + 2 = t) (hl : L[i]? = some (some (Sum.inr (Sum.inr r)))) (k : x_X l G M d kc ks nk Q t L (Sum.inr (Sum.inr r) :: st) h) : x_X l G M d kc ks nk Q pc L st h := by
  subst ht
  intro p e R s m args below meth c H locs cells slots mc ms ls z0 z C hc hz hW hS hL
  rcases r with (_ | a) | a
  · exact lv_aloadN (rest := x_s z st) C.1 C.2.1 hd (hL.2.2 _ _ hl) (k p e R s m args below meth c H locs cells slots mc ms ls z0 z C hc hz hW hS hL)
  · exact lv_aload (x := z a) (rest := x_s z st) C.1 C.2.1 hd (hL.2.2 _ _ hl) (k p e R s m args below meth c H locs cells slots mc ms ls z0 z C hc hz hW hS hL)
  · exact lv_aload (x := a) (rest := x_s z st) C.1 C.2.1 hd (hL.2.2 _ _ hl) (k p e R s m args below meth c H locs cells slots mc ms ls z0 z C hc hz hW hS hL)
theorem x_istore_n {n : Fin 4} {x : Int32} (t : Nat) (hd : decode M.2.1 pc = .ok (.istore_n n, 1)) (ht : pc + 1 = t) (hn : (n : Nat) < M.2.2.1) (ho : x_ok L (n : Nat) = true) (k : x_X l G M d kc ks nk Q t (L.set (n : Nat) (some (xI x))) st h) : x_X l G M d kc ks nk Q pc L (xI x :: st) h := by
  subst ht
  intro p e R s m args below meth c H locs cells slots mc ms ls z0 z C hc hz hW hS hL
  exact lv_istore_n (x := x) (rest := x_s z st) C.1 C.2.1 hd rfl hL.has hn rfl (fun ls1 h1 => k p e R s m args below meth c H locs cells slots mc ms ls1 z0 z C hc hz hW hS (x_L.set1 (v := xI x) ho h1))
theorem x_lstore_n {n : Fin 4} {x : Int64} (t : Nat) (hd : decode M.2.1 pc = .ok (.lstore_n n, 1)) (ht : pc + 1 = t) (hn : (n : Nat) + 1 < M.2.2.1) (ho : x_ok L (n : Nat) = true) (k : x_X l G M d kc ks nk Q t ((L.set (n : Nat) (some (xJ x))).set ((n : Nat) + 1) none) st h) : x_X l G M d kc ks nk Q pc L (xJ x :: st) h := by
  subst ht
  intro p e R s m args below meth c H locs cells slots mc ms ls z0 z C hc hz hW hS hL
  exact lv_lstore_n (x := x) (rest := x_s z st) C.1 C.2.1 hd rfl hL.has hn rfl (fun ls1 h1 => k p e R s m args below meth c H locs cells slots mc ms ls1 z0 z C hc hz hW hS (x_L.set2 (v := xJ x) ho h1))
theorem x_astore_n {n : Fin 4} {q : Option xQ} (t : Nat) (hd : decode M.2.1 pc = .ok (.astore_n n, 1)) (ht : pc + 1 = t) (hn : (n : Nat) < M.2.2.1) (ho : x_ok L (n : Nat) = true) (k : x_X l G M d kc ks nk Q t (L.set (n : Nat) (some (xR q))) st h) : x_X l G M d kc ks nk Q pc L (xR q :: st) h := by
  subst ht
  intro p e R s m args below meth c H locs cells slots mc ms ls z0 z C hc hz hW hS hL
  cases q with
  | none => exact lv_astore_nN (rest := x_s z st) C.1 C.2.1 hd rfl hL.has hn rfl (fun ls1 h1 => k p e R s m args below meth c H locs cells slots mc ms ls1 z0 z C hc hz hW hS (x_L.set1 (v := xR none) ho h1))
  | some a => exact lv_astore_n (x := z a) (rest := x_s z st) C.1 C.2.1 hd rfl hL.has hn rfl (fun ls1 h1 => k p e R s m args below meth c H locs cells slots mc ms ls1 z0 z C hc hz hW hS (x_L.set1 (v := xR (some a)) ho h1))
theorem x_istore {i : Nat} {x : Int32} (t : Nat) (hd : decode M.2.1 pc = .ok (.istore i, 2)) (ht : pc + 2 = t) (hn : i < M.2.2.1) (ho : x_ok L i = true) (k : x_X l G M d kc ks nk Q t (L.set i (some (xI x))) st h) : x_X l G M d kc ks nk Q pc L (xI x :: st) h := by
  subst ht
  intro p e R s m args below meth c H locs cells slots mc ms ls z0 z C hc hz hW hS hL
  exact lv_istore (x := x) (rest := x_s z st) C.1 C.2.1 hd hL.has hn rfl (fun ls1 h1 => k p e R s m args below meth c H locs cells slots mc ms ls1 z0 z C hc hz hW hS (x_L.set1 (v := xI x) ho h1))
theorem x_lstore {i : Nat} {x : Int64} (t : Nat) (hd : decode M.2.1 pc = .ok (.lstore i, 2)) (ht : pc + 2 = t) (hn : i + 1 < M.2.2.1) (ho : x_ok L i = true) (k : x_X l G M d kc ks nk Q t ((L.set i (some (xJ x))).set (i + 1) none) st h) : x_X l G M d kc ks nk Q pc L (xJ x :: st) h := by
  subst ht
  intro p e R s m args below meth c H locs cells slots mc ms ls z0 z C hc hz hW hS hL
  exact lv_lstore (x := x) (rest := x_s z st) C.1 C.2.1 hd hL.has hn rfl (fun ls1 h1 => k p e R s m args below meth c H locs cells slots mc ms ls1 z0 z C hc hz hW hS (x_L.set2 (v := xJ x) ho h1))
theorem x_astore {i : Nat} {q : Option xQ} (t : Nat) (hd : decode M.2.1 pc = .ok (.astore i, 2)) (ht : pc + 2 = t) (hn : i < M.2.2.1) (ho : x_ok L i = true) (k : x_X l G M d kc ks nk Q t (L.set i (some (xR q))) st h) : x_X l G M d kc ks nk Q pc L (xR q :: st) h := by
  subst ht
  intro p e R s m args below meth c H locs cells slots mc ms ls z0 z C hc hz hW hS hL
  cases q with
  | none => exact lv_astoreN (rest := x_s z st) C.1 C.2.1 hd hL.has hn rfl (fun ls1 h1 => k p e R s m args below meth c H locs cells slots mc ms ls1 z0 z C hc hz hW hS (x_L.set1 (v := xR none) ho h1))
  | some a => exact lv_astore (x := z a) (rest := x_s z st) C.1 C.2.1 hd hL.has hn rfl (fun ls1 h1 => k p e R s m args below meth c H locs cells slots mc ms ls1 z0 z C hc hz hW hS (x_L.set1 (v := xR (some a)) ho h1))
theorem x_iinc {i : Nat} {n : Int} {x : Int32} (t : Nat) (hd : decode M.2.1 pc = .ok (.iinc i n, 3)) (ht : pc + 3 = t) (hl : L[i]? = some (some (xI x))) (hn : i < M.2.2.1) (ho : x_ok L i = true) (k : x_X l G M d kc ks nk Q t (L.set i (some (xI (x + Int32.ofInt n)))) st h) : x_X l G M d kc ks nk Q pc L st h := by
  subst ht
  intro p e R s m args below meth c H locs cells slots mc ms ls z0 z C hc hz hW hS hL
  obtain ⟨j, hj⟩ := List.getElem?_of_mem (x_lp_mem.mpr ⟨xI x, hl, rfl⟩ : (i, x_v z (xI x)) ∈ x_lp z L)
  exact lv_iinc (x := x) (rest := x_s z st) C.1 C.2.1 hd hL.has hj rfl hn rfl (fun ls1 h1 => k p e R s m args below meth c H locs cells slots mc ms ls1 z0 z C hc hz hW hS (x_L.set1 (v := xI (x + Int32.ofInt n)) ho h1))
theorem x_less {L' : List (Option xV)} (hl : x_le L L') (k : x_X l G M d kc ks nk Q pc L' st h) : x_X l G M d kc ks nk Q pc L st h := by
  intro p e R s m args below meth c H locs cells slots mc ms ls z0 z C hc hz hW hS hL
  exact k p e R s m args below meth c H locs cells slots mc ms ls z0 z C hc hz hW hS (hL.less hl)
theorem x_sub {h1 : xH} (hs : ∀ (a : xQ) (e : xE), h1 a = some e → h a = some e) (k : x_X l G M d kc ks nk Q pc L st h1) : x_X l G M d kc ks nk Q pc L st h := by
  intro p e R s m args below meth c H locs cells slots mc ms ls z0 z C hc hz hW hS hL
  exact k p e R s m args below meth c H locs cells slots mc ms ls z0 z C hc hz (hW.sub hs) hS hL
theorem x_tableIn {dflt lo hi : Int} {offs : Array Int} {len : Nat} {x : Int32} {off : Int} (tgt : Nat) (hd : decode M.2.1 pc = .ok (.tableswitch dflt lo hi offs, len)) (h1 : ¬ x.toInt < lo) (h2 : ¬ hi < x.toInt) (ho : offs[(x.toInt - lo).toNat]? = some off) (ht : (pc : Int) + off = (tgt : Int)) (k : x_X l G M d kc ks nk Q tgt L st h) : x_X l G M d kc ks nk Q pc L (xI x :: st) h := by
  intro p e R s m args below meth c H locs cells slots mc ms ls z0 z C hc hz hW hS hL
  exact lv_tableIn (x := x) (rest := x_s z st) C.1 C.2.1 hd h1 h2 ho ht (k p e R s m args below meth c H locs cells slots mc ms ls z0 z C hc hz hW hS hL)
theorem x_tableOut {dflt lo hi : Int} {offs : Array Int} {len : Nat} {x : Int32} (tgt : Nat) (hd : decode M.2.1 pc = .ok (.tableswitch dflt lo hi offs, len)) (h1 : x.toInt < lo ∨ hi < x.toInt) (ht : (pc : Int) + dflt = (tgt : Int)) (k : x_X l G M d kc ks nk Q tgt L st h) : x_X l G M d kc ks nk Q pc L (xI x :: st) h := by
  intro p e R s m args below meth c H locs cells slots mc ms ls z0 z C hc hz hW hS hL
  exact lv_tableOut (x := x) (rest := x_s z st) C.1 C.2.1 hd h1 ht (k p e R s m args below meth c H locs cells slots mc ms ls z0 z C hc hz hW hS hL)
theorem x_iret {x : Int32} {ty : FieldType} (hd : decode M.2.1 pc = .ok (.ireturn, 1)) (hr : M.2.2.2 = some ty) (hn : narrow ty (.int x) = .int x) (q : Q (some (xI x)) h) : x_X l G M d kc ks nk Q pc L [xI x] h := by
  intro p e R s m args below meth c H locs cells slots mc ms ls z0 z C hc hz hW hS hL
  obtain ⟨hx, hb, hml, hown, hret, hlk, hC⟩ := C
  refine W.widen (k := mc) (n := ms) (by omega) (by omega) ?_
  exact W.zret (v := x) hx hb (hret.trans hr) hn (fun t ht hW9 => ⟨some (xI x), h, z, rfl, q, by rw [ht]; exact hW, hS.F ht, hz⟩) hS.2.2 hd hlk
theorem x_lret {x : Int64} (hd : decode M.2.1 pc = .ok (.lreturn, 1)) (hr : M.2.2.2 = some .long) (q : Q (some (xJ x)) h) : x_X l G M d kc ks nk Q pc L [xJ x] h := by
  intro p e R s m args below meth c H locs cells slots mc ms ls z0 z C hc hz hW hS hL
  obtain ⟨hx, hb, hml, hown, hret, hlk, hC⟩ := C
  refine W.widen (k := mc) (n := ms) (by omega) (by omega) ?_
  exact W.lret (v := x) hx hb (hret.trans hr) (fun t ht hW9 => ⟨some (xJ x), h, z, rfl, q, by rw [ht]; exact hW, hS.F ht, hz⟩) hS.2.2 hd hlk
theorem x_vret (hd : decode M.2.1 pc = .ok (.return_, 1)) (hr : M.2.2.2 = none) (q : Q none h) : x_X l G M d kc ks nk Q pc L [] h := by
  intro p e R s m args below meth c H locs cells slots mc ms ls z0 z C hc hz hW hS hL
  obtain ⟨hx, hb, hml, hown, hret, hlk, hC⟩ := C
  refine W.widen (k := mc) (n := ms) (by omega) (by omega) ?_
  exact W.vret hx hb (hret.trans hr) (fun t ht hW9 => ⟨none, h, z, rfl, q, by rw [ht]; exact hW, hS.F ht, hz⟩) hS.2.2 hd hlk
theorem x_aret {r : Option xQ} {rt : FieldType} (hd : decode M.2.1 pc = .ok (.areturn, 1)) (hr : M.2.2.2 = some rt) (hrt : (∃ n, rt = .object n) ∨ ∃ t, rt = .array t) (q : Q (some (xR r)) h) : x_X l G M d kc ks nk Q pc L [xR r] h := by
  intro p e R s m args below meth c H locs cells slots mc ms ls z0 z C hc hz hW hS hL
  obtain ⟨hx, hb, hml, hown, hret, hlk, hC⟩ := C
  refine W.widen (k := mc) (n := ms) (by omega) (by omega) ?_
  refine W.aret (v := va_rf (r.map z)) hx hb (hret.trans hr) hrt ?_ (fun t ht hW9 => ⟨some (xR r), h, z, rfl, q, by rw [ht]; exact hW, hS.F ht, hz⟩) hS.2.2 hd hlk
  cases r with
  | none => exact Or.inl rfl
  | some a => exact Or.inr ⟨z a, rfl⟩
end XR
end
section
theorem x_sum (z : xZ) (st : List xV) : ((x_s z st).map fun v => v.category).sum = (st.map x_cat).sum := by
  rw [List.map_map]
  congr 1
  exact List.map_congr_left (fun v _ => x_cat_v z v)
section XH
variable {l : Launch} {G : xG} {M : xM} {d kc ks : Nat} {nk : List xQ} {Q : Option xV → xH → Prop} {pc : Nat} {L : List (Option xV)} {st : List xV} {h : xH}
/-- a field's link: the class's place, the field's place -/
def x_fl (own : String) (index ci k : Nat) : Prop := ∃ (C : String) (T : u_T) (N : Nat), vwCl[ci]? = some (C, T, N) ∧ (∀ w ∈ u_ws C T N, w ∈ wsA) ∧ k < N ∧ Cond.fieldLink own index (T k).1 (T k).2.1 (T k).2.2.1 ∈ wsA
theorem x_get {index ci k : Nat} {a : xQ} {fs : List xV} (v : xV) (t : Nat) (hf : x_fl M.1.cls index ci k) (hd : decode M.2.1 pc = .ok (.getfield index, 3)) (ht : pc + 3 = t) (he : h a = some (.inr (ci, fs))) (hv : fs[k]? = some v) (kk : x_X l G M d kc ks nk Q t L (v :: st) h) : x_X l G M d kc ks nk Q pc L (xR (some a) :: st) h := by
  subst ht
  obtain ⟨C0, T, N, hc0, hin, hk, hl⟩ := hf
  intro p e R s m args below meth c H locs cells slots mc ms ls z0 z C hc hz hW hS hL
  have C' := C
  obtain ⟨hx, hb, hml, hown, hret, hlk, hnm, hts, hfr, hlo, hK, hN⟩ := C'
  exact va_get (D := G.1) (cl := vwCl) (ws := [(z a, x_e G z (.inr (ci, fs)))]) (v := x_v z v) (rest := x_s z st) hx hb hts hin hown hK.no (x_P1 hW he) 0 rfl hc0 k hk (hts _ hl) (fun _ h9 => h9) (by rw [List.getElem?_map, hv]; rfl) hd (kk p e R s m args below meth c H locs cells slots mc ms ls z0 z C hc hz hW hS hL)
def x_fit (ty : FieldType) (v : xV) : Prop := ∀ z : xZ, narrow ty (x_v z v) = x_v z v ∧ fits ty (x_v z v) = true
theorem x_fit_i (x : Int32) : x_fit .int (xI x) := fun _ => ⟨rfl, rfl⟩
theorem x_fit_l (x : Int64) : x_fit .long (xJ x) := fun _ => ⟨rfl, rfl⟩
theorem x_fit_o (C : String) (q : Option xQ) : x_fit (.object C) (xR q) := fun _ => by cases q <;> exact ⟨rfl, rfl⟩
theorem x_fit_a (t : FieldType) (q : Option xQ) : x_fit (.array t) (xR q) := fun _ => by cases q <;> exact ⟨rfl, rfl⟩
/-- a field that may be written: its type -/
def x_pl (M : xM) (index ci k : Nat) (ty : FieldType) : Prop := ∃ (C : String) (T : u_T) (N : Nat) (ty0 : Nat → FieldType), vwCl[ci]? = some (C, T, N) ∧ (∀ w ∈ u_ws C T N, w ∈ wsA) ∧ k < N ∧ Cond.fieldLink M.1.cls index (T k).1 (T k).2.1 (T k).2.2.1 ∈ wsA ∧ (∀ k, k < N → parseFieldDescriptor (T k).2.2.1 = some (ty0 k)) ∧ (∀ a, a < N → ∀ b, b < N → a ≠ b → (T a).2.1 ≠ (T b).2.1) ∧ parseFieldDescriptor (T k).2.2.1 = some ty ∧ ((T k).2.2.2 = false ∨ ((T k).2.2.2 = true ∧ M.1.name = "<init>" ∧ (T k).1 = M.1.cls))
theorem x_put {index ci k : Nat} {a : xQ} {ty : FieldType} {fs : List xV} {v : xV} (t : Nat) (hf : x_pl M index ci k ty) (hd : decode M.2.1 pc = .ok (.putfield index, 3)) (ht : pc + 3 = t) (he : h a = some (.inr (ci, fs))) (hfit : x_fit ty v) (hl : k < fs.length) (kk : x_X l G M d kc ks nk Q t L st (x_up h a (.inr (ci, fs.set k v)))) : x_X l G M d kc ks nk Q pc L (v :: xR (some a) :: st) h := by
  subst ht
  obtain ⟨C0, T, N, ty0, hc0, hin, hk, hlink, hty, hnmT, hdT, hfin⟩ := hf
  intro p e R s m args below meth c H locs cells slots mc ms ls z0 z C hc hz hW hS hL
  have C' := C
  obtain ⟨hx, hb, hml, hown, hret, hlk, hnm, hts, hfr, hlo, hK, hN⟩ := C'
  have hap := va_apart (own := M.1.cls) hts hin ty0 hty hnmT hK.no hc0
  have hat : va_at G.1 vwCl (z a, .inr (ci, fs.map (x_v z))) H := (hW.1 a _ he).1
  have haA : x_A G (z a) := (hW.1 a _ he).2
  obtain ⟨r, h1, cell, q1, q2, q3, q4⟩ := hat
  have hr : r = (C0, T, N) := Option.some.inj (h1.symm.trans hc0)
  subst hr
  obtain ⟨hSl, hfc, kC, hkC, hkind⟩ := hK.1 ci _ hc0
  obtain ⟨cf, kf, fi, f, hi, hsl⟩ := hSl k hk
  have hlay := hts _ (hin _ (u_in_lay hk))
  have hst := (u_facts hfc hkC (u_lays hts hin hk) hi).1
  have fin : ∀ H' : Heap, H'[z a]? = some (cell.setSlot f.slot (x_v z v)) → H'.size = H.size → (∀ q, q ≠ z a → H'[q]? = H[q]?) → W p l e R s m args below meth c H' (locs ++ [⟨z a, f.slot⟩]) cells slots (MQ below (x_Qc G z0 nk Q) args s mc ms (x_A G)) (F0 m (pc + 3) ls (x_s z st)) := by
    intro H' e1 e2 e3
    rw [hsl] at e1 ⊢
    have hl2 : k < (fs.map (x_v z)).length := by rw [List.length_map]; exact hl
    refine kk p e R s m args below meth c H' _ cells slots mc ms ls z0 z C hc hz (hW.set (e := .inr (ci, fs.set k v)) he ⟨_, hc0, t_OB.to (V := updV (vp_V (fs.map (x_v z))) k (x_v z v)) ⟨_, e1, q2, q3, t_set q4 hap hk (x_v z v)⟩ (fun j _ => ?_)⟩ e3) (hS.put e2 e3 haA) hL
    show updV (vp_V (fs.map (x_v z))) k (x_v z v) j = vp_V ((fs.set k v).map (x_v z)) j
    rw [List.map_set]
    exact vp_updV_set hl2 (x_v z v) j
  unfold u_lay at hlay
  rcases hfin with hfin | ⟨hfin, hini, hdecl⟩
  · rw [if_neg (by rw [hfin]; decide)] at hlay
    have h6 := u_store hfc hkC hkind hlay hi hdT (hfit z).1 (hfit z).2
    exact W.putK hx hb (f := f) ⟨hown, hts _ hlink, ⟨_, _, _, hi⟩, hst⟩ (by rw [q2]; exact h6) q1 q3 (by rw [hsl]; exact k2_hasslot (q4 k hk)) rfl rfl hd fin
  · rw [if_pos hfin] at hlay
    have hcf : m.cls = cf := by
      obtain ⟨_, _, c', _, _, _, -, -, hf', -, -, -, hown2, -⟩ := Cond.laysFinal_spec hlay
      have e1 : c' = cf := by have := hi.symm.trans hf'; simp at this; exact this.1.symm
      rw [hdecl] at hown2
      rw [← e1]; exact Option.some.inj (hown.symm.trans hown2)
    have h6 := u_fits hfc hkC hkind (Or.inr hlay) hi hdT (hfit z).1 (hfit z).2
    exact W.putFinK hx hb hown (hts _ hlink) hi hst hcf (hnm.trans hini) (by rw [q2]; exact h6) q1 q3 (by rw [hsl]; exact k2_hasslot (q4 k hk)) rfl rfl hd fin
-- arrays: reading
theorem x_iald {a : xQ} {n : Nat} {f : Nat → Int32} {i : Int32} (t : Nat) (hd : decode M.2.1 pc = .ok (.iaload, 1)) (ht : pc + 1 = t) (he : h a = some (.inl (0, n, .inl f))) (hi : vp_in i n) (kk : x_X l G M d kc ks nk Q t L (xI (f i.toNatClampNeg) :: st) h) : x_X l G M d kc ks nk Q pc L (xI i :: xR (some a) :: st) h := by
  subst ht
  intro p e R s m args below meth c H locs cells slots mc ms ls z0 z C hc hz hW hS hL
  have C' := C
  obtain ⟨hx, hb, hml, hown, hret, hlk, hnm, hts, hfr, hlo, hK, hN⟩ := C'
  exact va_iald (D := G.1) (cl := vwCl) (ws := [(z a, x_e G z (.inl (0, n, .inl f)))]) (rest := x_s z st) hx hb (hK.one (i := 0) rfl) (x_P1 hW he) 0 0 rfl rfl hi hd (kk p e R s m args below meth c H locs cells slots mc ms ls z0 z C hc hz hW hS hL)
theorem x_lald {a : xQ} {n : Nat} {f : Nat → Int64} {i : Int32} (t : Nat) (hd : decode M.2.1 pc = .ok (.laload, 1)) (ht : pc + 1 = t) (he : h a = some (.inl (1, n, .inr (.inl f)))) (hi : vp_in i n) (kk : x_X l G M d kc ks nk Q t L (xJ (f i.toNatClampNeg) :: st) h) : x_X l G M d kc ks nk Q pc L (xI i :: xR (some a) :: st) h := by
  subst ht
  intro p e R s m args below meth c H locs cells slots mc ms ls z0 z C hc hz hW hS hL
  have C' := C
  obtain ⟨hx, hb, hml, hown, hret, hlk, hnm, hts, hfr, hlo, hK, hN⟩ := C'
  exact va_lald (D := G.1) (cl := vwCl) (ws := [(z a, x_e G z (.inl (1, n, .inr (.inl f))))]) (rest := x_s z st) hx hb (hK.one (i := 1) rfl) (x_P1 hW he) 0 0 rfl rfl hi hd (kk p e R s m args below meth c H locs cells slots mc ms ls z0 z C hc hz hW hS hL)
theorem x_bald {a : xQ} {n : Nat} {f : Nat → Int32} {i : Int32} (t : Nat) (hd : decode M.2.1 pc = .ok (.baload, 1)) (ht : pc + 1 = t) (he : h a = some (.inl (2, n, .inl f))) (hi : vp_in i n) (kk : x_X l G M d kc ks nk Q t L (xI (f i.toNatClampNeg) :: st) h) : x_X l G M d kc ks nk Q pc L (xI i :: xR (some a) :: st) h := by
  subst ht
  intro p e R s m args below meth c H locs cells slots mc ms ls z0 z C hc hz hW hS hL
  have C' := C
  obtain ⟨hx, hb, hml, hown, hret, hlk, hnm, hts, hfr, hlo, hK, hN⟩ := C'
  exact va_zald (D := G.1) (cl := vwCl) (ws := [(z a, x_e G z (.inl (2, n, .inl f)))]) (rest := x_s z st) hx hb (hK.one (i := 2) rfl) (x_P1 hW he) 0 0 rfl rfl hi hd (kk p e R s m args below meth c H locs cells slots mc ms ls z0 z C hc hz hW hS hL)
theorem x_aald {a : xQ} {ty n : Nat} {f : Nat → Option xQ} {C0 : String} {i : Int32} (t : Nat) (hty : xTy[ty]? = some (.object C0)) (hd : decode M.2.1 pc = .ok (.aaload, 1)) (ht : pc + 1 = t) (he : h a = some (.inl (ty, n, .inr (.inr f)))) (hi : vp_in i n) (kk : x_X l G M d kc ks nk Q t L (xR (f i.toNatClampNeg) :: st) h) : x_X l G M d kc ks nk Q pc L (xI i :: xR (some a) :: st) h := by
  subst ht
  intro p e R s m args below meth c H locs cells slots mc ms ls z0 z C hc hz hW hS hL
  have C' := C
  obtain ⟨hx, hb, hml, hown, hret, hlk, hnm, hts, hfr, hlo, hK, hN⟩ := C'
  exact va_aldq (D := G.1) (cl := vwCl) (ws := [(z a, x_e G z (.inl (ty, n, .inr (.inr f))))]) (rest := x_s z st) hx hb (hK.one hty) (x_P1 hW he) 0 0 rfl rfl hi hd (kk p e R s m args below meth c H locs cells slots mc ms ls z0 z C hc hz hW hS hL)
theorem x_alen {a : xQ} {ty n : Nat} {f : xA} {fty : FieldType} (t : Nat) (hty : xTy[ty]? = some fty) (hd : decode M.2.1 pc = .ok (.arraylength, 1)) (ht : pc + 1 = t) (he : h a = some (.inl (ty, n, f))) (kk : x_X l G M d kc ks nk Q t L (xI (Int32.ofNat n) :: st) h) : x_X l G M d kc ks nk Q pc L (xR (some a) :: st) h := by
  subst ht
  intro p e R s m args below meth c H locs cells slots mc ms ls z0 z C hc hz hW hS hL
  have C' := C
  obtain ⟨hx, hb, hml, hown, hret, hlk, hnm, hts, hfr, hlo, hK, hN⟩ := C'
  exact va_alen (D := G.1) (cl := vwCl) (ws := [(z a, x_e G z (.inl (ty, n, f)))]) (x := (n, x_a z f)) (rest := x_s z st) hx hb (hK.one hty) (x_P1 hW he) 0 0 rfl rfl rfl hd (kk p e R s m args below meth c H locs cells slots mc ms ls z0 z C hc hz hW hS hL)
-- arrays: writing
theorem x_iast {a : xQ} {n : Nat} {f : Nat → Int32} {i x : Int32} (t : Nat) (hd : decode M.2.1 pc = .ok (.iastore, 1)) (ht : pc + 1 = t) (he : h a = some (.inl (0, n, .inl f))) (hi : vp_in i n) (kk : x_X l G M d kc ks nk Q t L st (x_up h a (.inl (0, n, .inl (x_uf f i.toNatClampNeg x))))) : x_X l G M d kc ks nk Q pc L (xI x :: xI i :: xR (some a) :: st) h := by
  subst ht
  intro p e R s m args below meth c H locs cells slots mc ms ls z0 z C hc hz hW hS hL
  have C' := C
  obtain ⟨hx, hb, hml, hown, hret, hlk, hnm, hts, hfr, hlo, hK, hN⟩ := C'
  have hat : H[z a]? = some (vp_cell (G.2.1 0) (n, .inl f)) := (hW.1 a _ he).1
  have haA : x_A G (z a) := (hW.1 a _ he).2
  refine W.iast (rest := x_s z st) hx hb hat ((hK.2 0 _ rfl).1 n (fun j => .int (f j))) (fun q => by cases q) (by show ¬ (i < 0 ∨ (arrV _ _ _).slots.size ≤ _); rw [arrV_size]; exact hi) rfl rfl hd fun H1 e1 z1 oq => ?_
  refine kk p e R s m args below meth c H1 _ cells slots mc ms ls z0 z C hc hz (hW.set (e := .inl (0, n, .inl (x_uf f i.toNatClampNeg x))) he ?_ oq) (hS.put z1 oq haA) hL
  show H1[z a]? = some (vp_cell _ (n, .inl (x_uf f i.toNatClampNeg x)))
  rw [e1, vp_cell_i, vp_cell_i, arrV_store]
  congr 2
  funext q
  by_cases hq : q = i.toNatClampNeg
  · subst hq
    simp [updV, x_uf]
  · simp [updV, x_uf, hq]
theorem x_last {a : xQ} {n : Nat} {f : Nat → Int64} {i : Int32} {x : Int64} (t : Nat) (hd : decode M.2.1 pc = .ok (.lastore, 1)) (ht : pc + 1 = t) (he : h a = some (.inl (1, n, .inr (.inl f)))) (hi : vp_in i n) (kk : x_X l G M d kc ks nk Q t L st (x_up h a (.inl (1, n, .inr (.inl (x_uf f i.toNatClampNeg x)))))) : x_X l G M d kc ks nk Q pc L (xJ x :: xI i :: xR (some a) :: st) h := by
  subst ht
  intro p e R s m args below meth c H locs cells slots mc ms ls z0 z C hc hz hW hS hL
  have C' := C
  obtain ⟨hx, hb, hml, hown, hret, hlk, hnm, hts, hfr, hlo, hK, hN⟩ := C'
  have hat : H[z a]? = some (vp_cell (G.2.1 1) (n, .inr (.inl f))) := (hW.1 a _ he).1
  have haA : x_A G (z a) := (hW.1 a _ he).2
  refine W.last (rest := x_s z st) hx hb hat ((hK.2 1 _ rfl).1 n (fun j => .long (f j))) (fun q => by cases q) (by show ¬ (i < 0 ∨ (arrV _ _ _).slots.size ≤ _); rw [arrV_size]; exact hi) rfl rfl hd fun H1 e1 z1 oq => ?_
  refine kk p e R s m args below meth c H1 _ cells slots mc ms ls z0 z C hc hz (hW.set (e := .inl (1, n, .inr (.inl (x_uf f i.toNatClampNeg x)))) he ?_ oq) (hS.put z1 oq haA) hL
  show H1[z a]? = some (vp_cell _ (n, .inr (.inl (x_uf f i.toNatClampNeg x))))
  rw [e1, vp_cell_l, vp_cell_l, arrV_store]
  congr 2
  funext q
  by_cases hq : q = i.toNatClampNeg
  · subst hq
    simp [updV, x_uf]
  · simp [updV, x_uf, hq]
theorem x_aast {a v : xQ} {ty n ci : Nat} {f : Nat → Option xQ} {r : vw_C} {vs : List xV} {i : Int32} (t : Nat) (hty : xTy[ty]? = some (.object r.1)) (hcl : vwCl[ci]? = some r) (hd : decode M.2.1 pc = .ok (.aastore, 1)) (ht : pc + 1 = t) (he : h a = some (.inl (ty, n, .inr (.inr f)))) (hv : h v = some (.inr (ci, vs))) (hi : vp_in i n) (kk : x_X l G M d kc ks nk Q t L st (x_up h a (.inl (ty, n, .inr (.inr (x_uf f i.toNatClampNeg (some v))))))) : x_X l G M d kc ks nk Q pc L (xR (some v) :: xI i :: xR (some a) :: st) h := by
  subst ht
  intro p e R s m args below meth c H locs cells slots mc ms ls z0 z C hc hz hW hS hL
  have C' := C
  obtain ⟨hx, hb, hml, hown, hret, hlk, hnm, hts, hfr, hlo, hK, hN⟩ := C'
  have hat : H[z a]? = some (vp_cell (G.2.1 ty) (n, .inr (.inr (.inr (.inr (fun j => (f j).map z)))))) := (hW.1 a _ he).1
  have haA : x_A G (z a) := (hW.1 a _ he).2
  have hlt : i.toNatClampNeg < n := Nat.not_le.mp fun q => hi (Or.inr q)
  have h0 : ¬ i < 0 := fun q => hi (Or.inl q)
  have hvt : va_at G.1 vwCl (z v, .inr (ci, vs.map (x_v z))) H := (hW.1 v _ hv).1
  obtain ⟨r', hr', cellV, g1, g2, g3, -⟩ := hvt
  have hcls := (hK.1 ci r hcl).2
  obtain ⟨kA, comp, k1, k2, k3, -⟩ := (hK.2 ty _ hty).2
  have hcomp : comp = G.1.1 ci := Option.some.inj (k3.symm.trans hcls.1)
  subst hcomp
  obtain ⟨kC, hkC, -⟩ := hcls.2
  refine W.aast (rest := x_s z st) hx hb hat (fun q h => by cases h) (fun h => by cases h) k1 k2 rfl hkC ⟨h0, by show _ < (arrV _ _ _).slots.size; rw [arrV_size]; exact hlt⟩ g1 (fun q h => by rw [g3] at h; cases h) (by rw [g2]; exact hkC) (by rw [g2]; exact va_assign hcls) rfl rfl hd fun H1 e1 z1 oq => ?_
  refine kk p e R s m args below meth c H1 _ cells slots mc ms ls z0 z C hc hz (hW.set (e := .inl (ty, n, .inr (.inr (x_uf f i.toNatClampNeg (some v))))) he ?_ oq) (hS.put z1 oq haA) hL
  show H1[z a]? = some (vp_cell _ (n, .inr (.inr (.inr (.inr (fun j => (x_uf f i.toNatClampNeg (some v) j).map z))))))
  rw [e1, vp_cell_q, vp_cell_q, arrV_store]
  congr 2
  funext q
  by_cases hq : q = i.toNatClampNeg
  · subst hq
    simp [updV, x_uf, va_rf]
  · simp [updV, x_uf, hq]
-- making
/-- the world behind a making: the key's place is new -/
theorem x_made {z z0 : xZ} {a : xQ} {q : Nat} {ls : Array Slot} {nL : Nat} (hk : a ∈ nk) (hz : ∀ b : xQ, b ∉ nk → z b = z0 b) (hL : x_L ls nL z L) (hfS : x_far [a] st) (hfL : x_farL [a] L) : (∀ b : xQ, b ∉ nk → x_up1 z a q b = z0 b) ∧ x_L ls nL (x_up1 z a q) L ∧ x_s (x_up1 z a q) (xR (some a) :: st) = .ref q :: x_s z st := by
  have h1 : ∀ b : xQ, b ∉ [a] → x_up1 z a q b = z b := fun b hb => x_up1_ne _ _ (fun e => hb (by rw [e]; exact List.mem_cons_self))
  refine ⟨fun b hb => ?_, hL.re h1 hfL, ?_⟩
  · rw [h1 b (fun e => ?_)]
    · exact hz b hb
    · rw [List.mem_singleton.mp e] at hb; exact hb hk
  · show va_rf (some (x_up1 z a q a)) :: x_s (x_up1 z a q) st = _
    rw [x_s_same h1 hfS, x_up1_self]
    rfl
def x_nl (M : xM) (index ci ns : Nat) (fs : List xV) : Prop := ∃ (C : String) (T : u_T) (ty0 : Nat → FieldType), vwCl[ci]? = some (C, T, ns) ∧ (∀ w ∈ u_ws C T ns, w ∈ wsA) ∧ (∀ k, k < ns → parseFieldDescriptor (T k).2.2.1 = some (ty0 k)) ∧ Cond.classLink M.1.cls index C ∈ wsA ∧ Cond.instantiable C ns ∈ wsA ∧ Cond.initialized C ∈ wsA ∧ ∀ (z : xZ) (j : Nat), j < ns → defaultValue (ty0 j) = vp_V (fs.map (x_v z)) j
theorem x_new {index ci ns : Nat} {fs : List xV} (a : xQ) (t : Nat) (hf : x_nl M index ci ns fs) (hd : decode M.2.1 pc = .ok (.new index, 3)) (ht : pc + 3 = t) (h1 : 1 ≤ kc) (h2 : ns ≤ ks) (hk : a ∈ nk) (h0 : h a = none) (hn : ∀ (b : xQ) (e2 : xE), h b = some e2 → x_ne a e2) (hfS : x_far [a] st) (hfL : x_farL [a] L) (kk : x_X l G M d (kc - 1) (ks - ns) nk Q t L (xR (some a) :: st) (x_up h a (.inr (ci, fs)))) : x_X l G M d kc ks nk Q pc L st h := by
  subst ht
  obtain ⟨C0, T, ty0, hc0, hin, hty, hcl, hinst, hini, hfs⟩ := hf
  intro p e R s m args below meth c H locs cells slots mc ms ls z0 z C hc hz hW hS hL
  have C' := C
  obtain ⟨hx, hb, hml, hown, hret, hlk, hnm, hts, hfr, hlo, hK, hN, hZ, hA⟩ := C'
  have hKn := hK.1 ci _ hc0
  obtain ⟨m1, m2, m3⟩ := x_made (q := H.size) hk hz hL hfS hfL
  refine W.newcK hx hb hown (hts _ hcl) (hts _ hinst) (hts _ hini) rfl hd (by omega) (by omega) hKn.2.1 rfl fun H1 kC hkC e1 z1 o1 => ?_
  have kk1 := kk p e R s m args below meth c H1 locs (cells + 1) (slots + ns) mc ms ls z0 (x_up1 z a H.size) C ⟨by omega, by omega, hc.2.2.1, hc.2.2.2⟩ m1 (hW.push (e := .inr (ci, fs)) h0 hn (Nat.le_trans hA hS.1) ?_ o1) ⟨Nat.le_trans hS.1 (by omega), fun q g1 g2 => (o1 q (Nat.lt_of_lt_of_le g1 hS.1)).trans (hS.2.1 q g1 g2), hS.2.2⟩ m2
  · rw [m3] at kk1
    exact kk1
  · exact ⟨_, hc0, (u_born ty0 hts hin hKn hkC e1 hty).to (hfs _)⟩
theorem x_newarr {at0 : ArrayType} {ty : Nat} {fty : FieldType} {n : Int32} {N : Nat} {f : xA} (a : xQ) (t : Nat) (hty : xTy[ty]? = some fty) (hat : newarray.typeOf at0 = fty) (hno : ∀ (U : State) (cA : ClassId), va_RA U cA fty → U.vm.findClass ("[" ++ fty.toString) = some cA) (hw : Cond.arrayClass fty ∈ wsA) (hd : decode M.2.1 pc = .ok (.newarray at0, 2)) (ht : pc + 2 = t) (hn0 : ¬ n < 0) (hN : n.toNatClampNeg = N) (hby : N * componentBytes fty ≤ 536870912) (hf : ∀ (z : xZ) (cA : ClassId), vp_cell cA (N, x_a z f) = arrV cA N (fun _ => defaultValue fty)) (h1 : 1 ≤ kc) (h2 : N ≤ ks) (hk : a ∈ nk) (h0 : h a = none) (hn : ∀ (b : xQ) (e2 : xE), h b = some e2 → x_ne a e2) (hfS : x_far [a] st) (hfL : x_farL [a] L) (kk : x_X l G M d (kc - 1) (ks - N) nk Q t L (xR (some a) :: st) (x_up h a (.inl (ty, N, f)))) : x_X l G M d kc ks nk Q pc L (xI n :: st) h := by
  subst ht
  subst hat
  intro p e R s m args below meth c H locs cells slots mc ms ls z0 z C hc hz hW hS hL
  have C' := C
  obtain ⟨hx, hb, hml, hown, hret, hlk, hnm, hts, hfr, hlo, hK, hN', hZ, hA⟩ := C'
  obtain ⟨m1, m2, m3⟩ := x_made (q := H.size) hk hz hL hfS hfL
  refine va_newaK (atype := at0) (rest := x_s z st) hx hb (hts _ hw) rfl hd rfl hn0 hN hby (by omega) (by omega) rfl fun H1 cA e1 z1 o1 hAr hNm => ?_
  have hcA : cA = G.2.1 ty := Option.some.inj (hNm.symm.trans (hno _ _ (hK.2 ty _ hty).2))
  subst hcA
  have kk1 := kk p e R s m args below meth c H1 locs (cells + 1) (slots + N) mc ms ls z0 (x_up1 z a H.size) C ⟨by omega, by omega, hc.2.2.1, hc.2.2.2⟩ m1 (hW.push (e := .inl (ty, N, f)) h0 hn (Nat.le_trans hA hS.1) ?_ o1) ⟨Nat.le_trans hS.1 (by omega), fun q g1 g2 => (o1 q (Nat.lt_of_lt_of_le g1 hS.1)).trans (hS.2.1 q g1 g2), hS.2.2⟩ m2
  · rw [m3] at kk1
    exact kk1
  · show H1[H.size]? = some (vp_cell _ (N, x_a _ f))
    rw [hf]
    exact e1
theorem x_newq {ty index : Nat} {C0 : String} {n : Int32} {N : Nat} (a : xQ) (t : Nat) (hty : xTy[ty]? = some (.object C0)) (hcl : Cond.classLink M.1.cls index C0 ∈ wsA) (ho : ∀ U : State, x_N U → va_AO C0 U) (hd : decode M.2.1 pc = .ok (.anewarray index, 3)) (ht : pc + 3 = t) (hn0 : ¬ n < 0) (hN : n.toNatClampNeg = N) (hby : N * 4 ≤ 536870912) (h1 : 1 ≤ kc) (h2 : N ≤ ks) (hk : a ∈ nk) (h0 : h a = none) (hn : ∀ (b : xQ) (e2 : xE), h b = some e2 → x_ne a e2) (hfS : x_far [a] st) (hfL : x_farL [a] L) (kk : x_X l G M d (kc - 1) (ks - N) nk Q t L (xR (some a) :: st) (x_up h a (.inl (ty, N, .inr (.inr (fun _ => none)))))) : x_X l G M d kc ks nk Q pc L (xI n :: st) h := by
  subst ht
  subst hN
  intro p e R s m args below meth c H locs cells slots mc ms ls z0 z C hc hz hW hS hL
  have C' := C
  obtain ⟨hx, hb, hml, hown, hret, hlk, hnm, hts, hfr, hlo, hK, hN', hZ, hA⟩ := C'
  obtain ⟨m1, m2, m3⟩ := x_made (q := H.size) hk hz hL hfS hfL
  refine W.anew (rest := x_s z st) hx hb hown (hts _ hcl) (va_AO.use (ho s hN')) rfl hd rfl hn0 hby (by omega) (by omega) fun cA kA comp f1 f2 f3 f4 => ?_
  obtain ⟨kA', comp', g1, g2, g3, g4⟩ := (hK.2 ty _ hty).2
  have hcA : cA = G.2.1 ty := Option.some.inj (f1.symm.trans g4)
  subst hcA
  generalize hH1 : H.push ({ cls := G.2.1 ty, slots := Array.replicate n.toNatClampNeg .null, vm := .none } : Cell) = H1
  have z1 : H1.size = H.size + 1 := by rw [← hH1, Array.size_push]
  have e1 : H1[H.size]? = some (arrV (G.2.1 ty) n.toNatClampNeg (fun _ => .null)) := by rw [← hH1, Array.getElem?_push_size, ← arrV_new]
  have o1 : ∀ q : Nat, q < H.size → H1[q]? = H[q]? := fun q hq => by rw [← hH1, Array.getElem?_push, if_neg (Nat.ne_of_lt hq)]
  have kk1 := kk p e R s m args below meth c H1 locs (cells + 1) (slots + n.toNatClampNeg) mc ms ls z0 (x_up1 z a H.size) C ⟨by omega, by omega, hc.2.2.1, hc.2.2.2⟩ m1 (hW.push (e := .inl (ty, n.toNatClampNeg, .inr (.inr (fun _ => none)))) h0 hn (Nat.le_trans hA hS.1) ?_ o1) ⟨Nat.le_trans hS.1 (by omega), fun q g1 g2 => (o1 q (Nat.lt_of_lt_of_le g1 hS.1)).trans (hS.2.1 q g1 g2), hS.2.2⟩ m2
  · rw [m3] at kk1
    exact kk1
  · exact e1
theorem x_objInit {idx : Nat} {a : xQ} (t : Nat) (hd : decode M.2.1 pc = .ok (.invokespecial idx, 3)) (ht : pc + 3 = t) (hl : Cond.methodLink M.1.cls idx Lib.objectInit ∈ wsA) (hi : Cond.instanceMethod Lib.objectInit ∈ wsA) (hcd : Cond.code Lib.objectInit ⟨#[0xb1]⟩ 1 none ∈ wsA) (h1 : 1 ≤ d) (hst : (st.map x_cat).sum ≤ 20) (kk : x_X l G M d kc ks nk Q t L st h) : x_X l G M d kc ks nk Q pc L (xR (some a) :: st) h := by
  subst ht
  intro p e R s m args below meth c H locs cells slots mc ms ls z0 z C hc hz hW hS hL
  have C' := C
  obtain ⟨hx, hb, hml, hown, hret, hlk, hnm, hts, hfr, hlo, hK, hN, hZ, hA⟩ := C'
  have hsum := x_sum z st
  refine W.objInit (rest := x_s z st) hx hb hown (hts _ hl) (hts _ hi) (hts _ hcd) rfl (by rw [hml]; exact hL.1) rfl hd (by omega) ?_ (kk p e R s m args below meth c H locs cells slots mc ms ls z0 z C hc hz hW hS hL)
  rw [hsum]
  show 2 * (F0 m pc ls (x_s z (xR (some a) :: st))).monitorRoom + _ + 12 ≤ R.locals
  have hz1 : (F0 m pc ls (x_s z (xR (some a) :: st))).monitorRoom = 0 := rfl
  rw [hz1]
  omega
theorem x_bast {a : xQ} {n : Nat} {f : Nat → Int32} {i x : Int32} (t : Nat) (hd : decode M.2.1 pc = .ok (.bastore, 1)) (ht : pc + 1 = t) (he : h a = some (.inl (2, n, .inl f))) (hi : vp_in i n) (h01 : narrow .boolean (.int x) = .int x) (kk : x_X l G M d kc ks nk Q t L st (x_up h a (.inl (2, n, .inl (x_uf f i.toNatClampNeg x))))) : x_X l G M d kc ks nk Q pc L (xI x :: xI i :: xR (some a) :: st) h := by
  subst ht
  intro p e R s m args below meth c H locs cells slots mc ms ls z0 z C hc hz hW hS hL
  have C' := C
  obtain ⟨hx, hb, hml, hown, hret, hlk, hnm, hts, hfr, hlo, hK, hN⟩ := C'
  have hat : H[z a]? = some (vp_cell (G.2.1 2) (n, .inl f)) := (hW.1 a _ he).1
  have haA : x_A G (z a) := (hW.1 a _ he).2
  refine W.zast (rest := x_s z st) hx hb hat ((hK.2 2 _ rfl).1 n (fun j => .int (f j))) (fun q => by cases q) (by show ¬ (i < 0 ∨ (arrV _ _ _).slots.size ≤ _); rw [arrV_size]; exact hi) rfl rfl hd fun H1 e1 z1 oq => ?_
  refine kk p e R s m args below meth c H1 _ cells slots mc ms ls z0 z C hc hz (hW.set (e := .inl (2, n, .inl (x_uf f i.toNatClampNeg x))) he ?_ oq) (hS.put z1 oq haA) hL
  show H1[z a]? = some (vp_cell _ (n, .inl (x_uf f i.toNatClampNeg x)))
  rw [e1, h01, vp_cell_i, vp_cell_i, arrV_store]
  congr 2
  funext q
  by_cases hq : q = i.toNatClampNeg
  · subst hq
    simp [updV, x_uf]
  · simp [updV, x_uf, hq]
-- the static table of rates, the script
theorem x_gets {index : Nat} (t : Nat) (hl : Cond.fieldLink M.1.cls index "CallMarket" "RISK_RATES" "[I" ∈ wsA) (hd : decode M.2.1 pc = .ok (.getstatic index, 3)) (ht : pc + 3 = t) (kk : x_X l G M d kc ks nk Q t L (xS G.2.2.2.1.1 :: st) h) : x_X l G M d kc ks nk Q pc L st h := by
  subst ht
  intro p e R s m args below meth c H locs cells slots mc ms ls z0 z C hc hz hW hS hL
  have C' := C
  obtain ⟨hx, hb, hml, hown, hret, hlk, hnm, hts, hfr, hlo, hK, hN, hZ, hA⟩ := C'
  exact va_gets (rest := x_s z st) hx hb hZ.1 hS hown (hts _ hl) (fun _ h9 => h9) hd (kk p e R s m args below meth c H locs cells slots mc ms ls z0 z C hc hz hW hS hL)
theorem x_rate {i : Int32} (t : Nat) (hd : decode M.2.1 pc = .ok (.iaload, 1)) (ht : pc + 1 = t) (hi : vp_in i 2) (kk : x_X l G M d kc ks nk Q t L (xI (if i.toNatClampNeg = 0 then 3 else 5) :: st) h) : x_X l G M d kc ks nk Q pc L (xI i :: xS G.2.2.2.1.1 :: st) h := by
  subst ht
  intro p e R s m args below meth c H locs cells slots mc ms ls z0 z C hc hz hW hS hL
  have C' := C
  obtain ⟨hx, hb, hml, hown, hret, hlk, hnm, hts, hfr, hlo, hK, hN, hZ, hA⟩ := C'
  exact va_ti (rest := x_s z st) hx hb hZ.2.1 hS hi (v := .int (if i.toNatClampNeg = 0 then 3 else 5)) rfl hd (kk p e R s m args below meth c H locs cells slots mc ms ls z0 z C hc hz hW hS hL)
theorem x_sld {i : Int32} (t : Nat) (hd : decode M.2.1 pc = .ok (.iaload, 1)) (ht : pc + 1 = t) (hi : vp_in i G.2.2.2.2.1) (kk : x_X l G M d kc ks nk Q t L (xI (G.2.2.2.2.2 i.toNatClampNeg) :: st) h) : x_X l G M d kc ks nk Q pc L (xI i :: xS G.2.2.2.1.2 :: st) h := by
  subst ht
  intro p e R s m args below meth c H locs cells slots mc ms ls z0 z C hc hz hW hS hL
  have C' := C
  obtain ⟨hx, hb, hml, hown, hret, hlk, hnm, hts, hfr, hlo, hK, hN, hZ, hA⟩ := C'
  exact va_sld (rest := x_s z st) hx hb hZ.2.2.1 hZ.2.2.2.2 (Nat.not_le.mpr hZ.2.2.2.1) hS hi hd (kk p e R s m args below meth c H locs cells slots mc ms ls z0 z C hc hz hW hS hL)
theorem x_slen (t : Nat) (hd : decode M.2.1 pc = .ok (.arraylength, 1)) (ht : pc + 1 = t) (kk : x_X l G M d kc ks nk Q t L (xI (Int32.ofNat G.2.2.2.2.1) :: st) h) : x_X l G M d kc ks nk Q pc L (xS G.2.2.2.1.2 :: st) h := by
  subst ht
  intro p e R s m args below meth c H locs cells slots mc ms ls z0 z C hc hz hW hS hL
  have C' := C
  obtain ⟨hx, hb, hml, hown, hret, hlk, hnm, hts, hfr, hlo, hK, hN, hZ, hA⟩ := C'
  exact va_slen (rest := x_s z st) hx hb hZ.2.2.1 hZ.2.2.2.2 (Nat.not_le.mpr hZ.2.2.2.1) hS hd (kk p e R s m args below meth c H locs cells slots mc ms ls z0 z C hc hz hW hS hL)
-- a contract out of a walk from its first instruction
def x_ent : List xV → List (Option xV)
  | [] => []
  | v :: vs => if x_cat v = 2 then some v :: none :: x_ent vs else some v :: x_ent vs
theorem x_ent_cons (v : xV) (vs : List xV) : x_ent (v :: vs) = if x_cat v = 2 then some v :: none :: x_ent vs else some v :: x_ent vs := rfl
theorem x_ent_args (z : xZ) : ∀ (vs : List xV) (k i : Nat) (v : xV), (x_ent vs)[i]? = some (some v) → (k + i, x_v z v) ∈ lv_args k (x_s z vs)
  | [], k, i, v, h => by simp [x_ent] at h
  | w :: vs, k, i, v, h => by
    have hc := x_cat_v z w
    show (k + i, x_v z v) ∈ lv_args k (x_v z w :: x_s z vs)
    unfold lv_args
    unfold x_ent at h
    by_cases h2 : x_cat w = 2
    · rw [if_pos h2] at h
      match i, h with
      | 0, h => cases h; simp
      | 1, h => simp at h
      | i + 2, h =>
        have := x_ent_args z vs (k + 2) i v (by simpa using h)
        simp only [hc, h2]
        refine List.mem_cons_of_mem _ ?_
        have e : k + (i + 2) = k + 2 + i := by omega
        rw [e]
        simpa using this
    · rw [if_neg h2] at h
      match i, h with
      | 0, h => cases h; simp
      | i + 1, h =>
        have h1 : x_cat w = 1 := by rcases w with x | y | q <;> first | rfl | exact absurd rfl h2
        have := x_ent_args z vs (k + 1) i v (by simpa using h)
        refine List.mem_cons_of_mem _ ?_
        have e : k + (i + 1) = k + 1 + i := by omega
        rw [e]
        simpa [hc, h1] using this
theorem x_ent_len (z : xZ) : ∀ vs : List xV, (lg_sl (x_s z vs)).length = (x_ent vs).length
  | [] => rfl
  | w :: vs => by
    have ih := x_ent_len z vs
    have hc := x_cat_v z w
    show (lg_sl (x_v z w :: x_s z vs)).length = _
    unfold lg_sl at ih ⊢
    rw [List.flatMap_cons, List.length_append, ih, x_ent_cons]
    by_cases h2 : x_cat w = 2
    · rw [if_pos (hc.trans h2), if_pos h2]; simp; omega
    · rw [if_neg (fun q => h2 (hc.symm.trans q)), if_neg h2]; simp; omega
theorem x_C.of {av : List xV} (hy : plainName M.1.cls = true) (hn : (x_ent av).length ≤ M.2.2.1) (hX : x_X l G M d kc ks nk Q 0 (x_ent av) [] h) : x_C l G M d kc ks av h nk Q := by
  intro z
  refine Met.ofW (cc := M.2.1) (maxL := M.2.2.1) (ret := M.2.2.2) hy rfl ?_
  intro p e s m args below meth c s₁ B hml hv
  obtain ⟨rfl, hW, hK, hN, hZ, hA⟩ := hv
  have hts := atoms_spec (ws := Cond.code M.1 M.2.1 M.2.2.1 M.2.2.2 :: wsA) B.pre
  have hown : s.vm.findClass M.1.cls = some m.cls := findClass_of_methodNamed B.named
  have hl := lv_entry (x_s z av) (n := M.2.2.1) (by rw [x_ent_len]; exact hn)
  rw [lg_entry_eq]
  generalize (lg_sl (x_s z av) ++ List.replicate (M.2.2.1 - (lg_sl (x_s z av)).length) Slot.unset).toArray = ls at hl ⊢
  exact hX p e (x_rm d kc ks) s m _ below meth c s.heap [] 0 0 kc ks ls z z ⟨B.exec, B.bytes, hml, hown, B.returns, B.notSynchronized, (name_of_methodNamed B.named B.method).1, fun w hw => hts w (List.mem_cons_of_mem _ hw), Nat.le_refl _, Nat.le_refl _, hK, hN, hZ, hA⟩ ⟨by omega, by omega, Nat.le_refl _, Nat.le_refl _⟩ (fun _ _ => rfl) hW va_S.rf ⟨hl.1, hl.2.1, fun i v hi => by
    have := hl.2.2 _ (x_ent_args z av 0 i v hi)
    simpa using this⟩
end XH
end
section
section XC
variable {l : Launch} {G : xG} {M M' : xM} {d kc ks d' kc' ks' : Nat} {nk nk' : List xQ} {Q Q' : Option xV → xH → Prop} {pc index : Nat} {L : List (Option xV)} {st st0 As : List xV} {h : xH}
theorem x_In.blind {z : xZ} {U : State} (g : JFrame) (mk : MethodId) (a : Array Value) (q : x_In G z h U) : x_In G z h (U.calling g mk a) := ⟨q.1, q.2.1.moved (Vm.Alike.refl U.vm), x_N_same (U := U.calling g mk a) rfl q.2.2.1, x_Z_moved (U := U.calling g mk a) (Vm.Alike.refl U.vm) q.2.2.2.1, q.2.2.2.2⟩
theorem x_blind (z : xZ) (av : List xV) : FrameBlind (va_Pc (x_s z av) (x_In G z h)) := fun a U g mk q => ⟨q.1, q.2.blind g mk a⟩
/-- the world at the call -/
theorem x_at {p : Program} {R : Room} {s : State} {m : MethodId} {args : Array Value} {meth : Method} {c : Code} {H : Heap} {locs : List Loc} {z : xZ} (C : x_Cx p G M R s m args meth c d) (hW : x_W G z h H) (hS : va_S (x_A G) s.heap H locs) (U : State) (hU : U.heap = H) (hw : s.WarmedH U.vm) : x_In G z h U := by
  obtain ⟨hx, hb, hml, hown, hret, hlk, hnm, hts, hfr, hlo, hK, hN, hZ, hA⟩ := C
  refine ⟨by rw [hU]; exact hW, hK.moved hw.alike, x_N_warm hw hN, ?_, by rw [hU]; exact Nat.le_trans hA hS.1⟩
  rw [hU]
  exact x_Z_moved hw.alike (x_Z_kept hZ hS.1 (fun q h1 h2 => hS.2.1 q h1 h2))
/-- behind a call -/
theorem x_after {p : Program} {e : Env} {R : Room} {s : State} {m : MethodId} {args a : Array Value} {below : List Frame} {meth : Method} {c : Code} {H : Heap} {locs : List Loc} {cells slots mc ms : Nat} {ls : Array Slot} {z0 z : xZ}
    (hr : va_Run p l e R s m args below meth c H locs cells slots kc' ks' (F0 m pc ls (x_s z st0)) (x_s z st) (x_Qc G z nk' Q' a) (x_A G)) (C : x_Cx p G M R s m args meth c d) (hc : cells + kc ≤ mc ∧ slots + ks ≤ ms ∧ mc ≤ R.cells ∧ ms ≤ R.slots) (hz : ∀ a : xQ, a ∉ nk → z a = z0 a) (h1 : kc' ≤ kc) (h2 : ks' ≤ ks) (hS : va_S (x_A G) s.heap H locs) (hL : x_L ls M.2.2.1 z L)
    (hnk : ∀ a ∈ nk', a ∈ nk) (hfS : x_far nk' st) (hfL : x_farL nk' L)
    (kk : ∀ (r : Option xV) (h1 : xH), Q' r h1 → x_X l G M d (kc - kc') (ks - ks') nk Q (pc + 3) L (r.toList ++ st) h1) : W p l e R s m args below meth c H locs cells slots (MQ below (x_Qc G z0 nk Q) args s mc ms (x_A G)) (F0 m pc ls (x_s z st0)) := by
  intro T hT X
  obtain ⟨v, st₀, t, T', Lo, h0, X', hLo, e1, e2, ⟨r, h', z', hv, hq, hW', ⟨hsz, hk⟩, hz'⟩, stp⟩ := hr T hT X
  cases hv
  rw [h0] at hsz hk
  obtain ⟨t2, a1, b1⟩ := kk r h' hq p e R s m args below meth c T'.heap (locs ++ Lo) (cells + kc') (slots + ks') mc ms ls z0 z' C ⟨by omega, by omega, hc.2.2.1, hc.2.2.2⟩ (fun b hb => (hz' b (fun q => hb (hnk b q))).trans (hz b hb)) (by rw [e1]; exact hW')
    ⟨Nat.le_trans hS.1 (by rw [e1]; exact hsz), fun q g1 g2 => by rw [e1, hk q (Nat.lt_of_lt_of_le g1 hS.1) g2]; exact hS.2.1 q g1 g2, fun q hq => by
      rcases List.mem_append.mp hq with g | g
      · exact hS.2.2 q g
      · exact hLo q g⟩ (hL.re hz' hfL) T' rfl X'
  refine ⟨t2, stp t2 ?_, b1⟩
  have hs : x_s z' (r.toList ++ st) = (r.map (x_v z')).toList ++ x_s z st := by
    rw [← x_s_same hz' hfS]
    cases r <;> rfl
  rw [hs] at a1
  exact a1
/-- the callee: its code's word is there, its name is a plain one, it takes n arguments beside the receiver, it has few locals -/
def x_ok1 (M' : xM) (n : Nat) : Prop := Cond.code M'.1 M'.2.1 M'.2.2.1 M'.2.2.2 ∈ wsA ∧ (M'.1.cls ≠ "java/lang/invoke/MethodHandle" ∧ M'.1.cls ≠ "java/lang/invoke/VarHandle" ∧ (parseMethodDescriptor M'.1.desc).map (fun d => d.parameters.length) = some n) ∧ M'.2.2.1 ≤ 17
theorem x_good {w : Cond} (h : w ∈ wsA) : w ∈ wsA ∧ ((w.onTables && w.keeps) = true ∨ ∃ ty, w = .arrayClass ty) := ⟨h, good_of_word (List.mem_filter.mp h).2⟩
theorem x_goodIn {ws : List Cond} (h : ∀ w ∈ ws, w ∈ wsA) : GoodIn wsA ws := fun w hw => x_good (h w hw)
theorem x_gc {c : Cond} (h : c ∈ wsA) : GoodIn wsA (c :: wsA) := x_goodIn (fun w hw => (List.mem_cons.mp hw).elim (fun e => e ▸ h) (fun z => z))
/-- links of calls: by a receiver of its class, of a static method, of a constructor; and of nest mates' -/
def x_kV (own : String) (index : Nat) (M' : xM) : Prop := Cond.methodLink own index M'.1 ∈ wsA ∧ Cond.instanceMethod M'.1 ∈ wsA ∧ Cond.selects M'.1.cls M'.1 M'.1 ∈ wsA ∧ Cond.initialized M'.1.cls ∈ wsA
def x_kS (own : String) (index : Nat) (M' : xM) : Prop := Cond.methodLink own index M'.1 ∈ wsA ∧ Cond.static M'.1 ∈ wsA ∧ Cond.initialized M'.1.cls ∈ wsA
def x_kI (own : String) (index : Nat) (M' : xM) : Prop := Cond.methodLink own index M'.1 ∈ wsA ∧ Cond.instanceMethod M'.1 ∈ wsA ∧ Cond.initialized M'.1.cls ∈ wsA ∧ M'.1.name = "<init>" ∧ M'.2.2.2 = none
def x_kSN (own : String) (index : Nat) (M' : xM) (host : String) : Prop := (own, index, M'.1, host) ∈ xNs ∧ Cond.static M'.1 ∈ wsA ∧ Cond.initialized M'.1.cls ∈ wsA
def x_kIN (own : String) (index : Nat) (M' : xM) (host : String) : Prop := (own, index, M'.1, host) ∈ xNs ∧ Cond.instanceMethod M'.1 ∈ wsA ∧ Cond.initialized M'.1.cls ∈ wsA ∧ M'.1.name = "<init>" ∧ M'.2.2.2 = none
theorem x_callV {ci : Nat} {b : xQ} {fs : List xV} {T : u_T} {N : Nat} (t : Nat) (hM : x_C l G M' d' kc' ks' (xR (some b) :: As) h nk' Q') (hg : x_kV M.1.cls index M') (ho : x_ok1 M' As.length) (hcl : vwCl[ci]? = some (M'.1.cls, T, N)) (he : h b = some (.inr (ci, fs))) (hd : decode M.2.1 pc = .ok (.invokevirtual index, 3)) (ht : pc + 3 = t) (hst : st0 = As.reverse ++ xR (some b) :: st) (hdd : d' + 1 ≤ d) (h1 : kc' ≤ kc) (h2 : ks' ≤ ks) (h8 : (st.map x_cat).sum ≤ 8)
    (hnk : ∀ a ∈ nk', a ∈ nk) (hfS : x_far nk' st) (hfL : x_farL nk' L)
    (kk : ∀ (r : Option xV) (h1 : xH), Q' r h1 → x_X l G M d (kc - kc') (ks - ks') nk Q t L (r.toList ++ st) h1) : x_X l G M d kc ks nk Q pc L st0 h := by
  subst ht
  intro p e R s m args below meth c H locs cells slots mc ms ls z0 z C hc hz hW hS hL
  have C' := C
  obtain ⟨hx, hb, hml, hown, hret, hlk, hnm, hts, hfr, hlo, hK, hN⟩ := C'
  obtain ⟨hcode, hn, hnl⟩ := ho
  have hR1 : d' + 1 ≤ R.frames := by omega
  have hR2 : 8 + (M'.2.2.1 + 11) + 36 * d' ≤ R.locals := by omega
  obtain ⟨g1, g2, g3, g4⟩ := hg
  have hG : GoodIn wsA (wsV M.1.cls index M'.1.cls M'.1 (Cond.code M'.1 M'.2.1 M'.2.2.1 M'.2.2.2 :: wsA)) := x_goodIn (fun w hw => by
    rcases List.mem_append.mp hw with h | h
    · simp only [List.mem_cons, List.not_mem_nil, or_false] at h
      rcases h with rfl | rfl | rfl | rfl
      · exact g1
      · exact g2
      · exact g3
      · exact g4
    · exact (x_gc hcode w h).1)
  have hrecv : ∃ cell : Cell, H[z b]? = some cell ∧ cell.vm.isStatics = false ∧ s.vm.findClass M'.1.cls = some cell.cls := va_recv (ws := [(z b, x_e G z (.inr (ci, fs)))]) hK.no (x_P1 hW he) hcl (q0 := 0) rfl
  have hrun := va_runV (b := z b) (As := x_s z As) (rest := x_s z st) (g := F0 m pc ls (x_s z st0)) (below := below) (e := e) (locs := locs) (meth := meth) (cells := cells) (slots := slots) ⟨hx, hb, hml, hown, hts⟩ (hM z) (cwV As.length hts hG rfl rfl rfl ⟨rfl, hn⟩ ⟨hR1, hR2⟩)
    ⟨x_blind z _, hrecv, fun U hU hw => ⟨rfl, x_at C hW hS U hU hw⟩⟩ rfl (by simp) hL.1 (by subst hst; simp [va_rf, x_v]) (lv_room (by rw [x_sum]; exact h8)) hd ⟨by omega, by omega⟩
  exact x_after hrun C hc hz h1 h2 hS hL hnk hfS hfL kk
theorem x_callS (t : Nat) (hM : x_C l G M' d' kc' ks' As h nk' Q') (hg : x_kS M.1.cls index M') (ho : x_ok1 M' As.length) (hd : decode M.2.1 pc = .ok (.invokestatic index, 3)) (ht : pc + 3 = t) (hst : st0 = As.reverse ++ st) (hdd : d' + 1 ≤ d) (h1 : kc' ≤ kc) (h2 : ks' ≤ ks) (h8 : (st.map x_cat).sum ≤ 8)
    (hnk : ∀ a ∈ nk', a ∈ nk) (hfS : x_far nk' st) (hfL : x_farL nk' L)
    (kk : ∀ (r : Option xV) (h1 : xH), Q' r h1 → x_X l G M d (kc - kc') (ks - ks') nk Q t L (r.toList ++ st) h1) : x_X l G M d kc ks nk Q pc L st0 h := by
  subst ht
  intro p e R s m args below meth c H locs cells slots mc ms ls z0 z C hc hz hW hS hL
  have C' := C
  obtain ⟨hx, hb, hml, hown, hret, hlk, hnm, hts, hfr, hlo, hK, hN⟩ := C'
  obtain ⟨hcode, hn, hnl⟩ := ho
  have hR1 : d' + 1 ≤ R.frames := by omega
  have hR2 : 8 + (M'.2.2.1 + 11) + 36 * d' ≤ R.locals := by omega
  obtain ⟨g1, g2, g3⟩ := hg
  have hG : GoodIn wsA (va_wsS M.1.cls index M'.1 (Cond.code M'.1 M'.2.1 M'.2.2.1 M'.2.2.2 :: wsA)) := x_goodIn (fun w hw => by
    rcases List.mem_append.mp hw with h | h
    · simp only [List.mem_cons, List.not_mem_nil, or_false] at h
      rcases h with rfl | rfl | rfl
      · exact g1
      · exact g2
      · exact g3
    · exact (x_gc hcode w h).1)
  have hrun := va_runS (As := x_s z As) (rest := x_s z st) (g := F0 m pc ls (x_s z st0)) (below := below) (e := e) (locs := locs) (meth := meth) (cells := cells) (slots := slots) ⟨hx, hb, hml, hown, hts⟩ (hM z) (va_cwS As.length hts hG rfl rfl rfl hn ⟨hR1, hR2⟩)
    ⟨x_blind z _, fun U hU hw => ⟨rfl, x_at C hW hS U hU hw⟩⟩ rfl (by simp) hL.1 (by subst hst; simp) (lv_room (by rw [x_sum]; exact h8)) hd ⟨by omega, by omega⟩
  exact x_after hrun C hc hz h1 h2 hS hL hnk hfS hfL kk
theorem x_callI {b : xQ} (t : Nat) (hM : x_C l G M' d' kc' ks' (xR (some b) :: As) h nk' Q') (hg : x_kI M.1.cls index M') (ho : x_ok1 M' As.length) (hd : decode M.2.1 pc = .ok (.invokespecial index, 3)) (ht : pc + 3 = t) (hst : st0 = As.reverse ++ xR (some b) :: st) (hdd : d' + 1 ≤ d) (h1 : kc' ≤ kc) (h2 : ks' ≤ ks) (h8 : (st.map x_cat).sum ≤ 8)
    (hnk : ∀ a ∈ nk', a ∈ nk) (hfS : x_far nk' st) (hfL : x_farL nk' L)
    (kk : ∀ (r : Option xV) (h1 : xH), Q' r h1 → x_X l G M d (kc - kc') (ks - ks') nk Q t L (r.toList ++ st) h1) : x_X l G M d kc ks nk Q pc L st0 h := by
  subst ht
  intro p e R s m args below meth c H locs cells slots mc ms ls z0 z C hc hz hW hS hL
  have C' := C
  obtain ⟨hx, hb, hml, hown, hret, hlk, hnm, hts, hfr, hlo, hK, hN⟩ := C'
  obtain ⟨hcode, hn, hnl⟩ := ho
  have hR1 : d' + 1 ≤ R.frames := by omega
  have hR2 : 8 + (M'.2.2.1 + 11) + 36 * d' ≤ R.locals := by omega
  obtain ⟨g1, g2, g3, g4, g5⟩ := hg
  have hM' := hM z
  rw [g5] at hM' hcode
  have hrun := va_runI (b := z b) (As := x_s z As) (rest := x_s z st) (g := F0 m pc ls (x_s z st0)) (below := below) (e := e) (locs := locs) (meth := meth) (cells := cells) (slots := slots) ⟨hx, hb, hml, hown, hts⟩ hM' (cwI As.length hts (x_gc hcode) rfl rfl rfl (hts _ g3) (hts _ g1) (hts _ g2) g4 hn ⟨hR1, hR2⟩)
    ⟨x_blind z _, fun U hU hw => ⟨rfl, x_at C hW hS U hU hw⟩⟩ rfl (by simp) hL.1 (by subst hst; simp [va_rf, x_v]) (lv_room (by rw [x_sum]; exact h8)) hd ⟨by omega, by omega⟩
  exact x_after hrun C hc hz h1 h2 hS hL hnk hfS hfL kk
theorem x_callSN {host : String} (t : Nat) (hM : x_C l G M' d' kc' ks' As h nk' Q') (hg : x_kSN M.1.cls index M' host) (ho : x_ok1 M' As.length) (hd : decode M.2.1 pc = .ok (.invokestatic index, 3)) (ht : pc + 3 = t) (hst : st0 = As.reverse ++ st) (hdd : d' + 1 ≤ d) (h1 : kc' ≤ kc) (h2 : ks' ≤ ks) (h8 : (st.map x_cat).sum ≤ 8)
    (hnk : ∀ a ∈ nk', a ∈ nk) (hfS : x_far nk' st) (hfL : x_farL nk' L)
    (kk : ∀ (r : Option xV) (h1 : xH), Q' r h1 → x_X l G M d (kc - kc') (ks - ks') nk Q t L (r.toList ++ st) h1) : x_X l G M d kc ks nk Q pc L st0 h := by
  subst ht
  intro p e R s m args below meth c H locs cells slots mc ms ls z0 z C hc hz hW hS hL
  have C' := C
  obtain ⟨hx, hb, hml, hown, hret, hlk, hnm, hts, hfr, hlo, hK, hN, hZ, hA⟩ := C'
  obtain ⟨hcode, hn, hnl⟩ := ho
  have hR1 : d' + 1 ≤ R.frames := by omega
  have hR2 : 8 + (M'.2.2.1 + 11) + 36 * d' ≤ R.locals := by omega
  obtain ⟨g1, g2, g3⟩ := hg
  have hrun := va_runSN (As := x_s z As) (rest := x_s z st) (g := F0 m pc ls (x_s z st0)) (below := below) (e := e) (locs := locs) (meth := meth) (cells := cells) (slots := slots) ⟨hx, hb, hml, hown, hts⟩ (hM z) ⟨va_cnB As.length hts (x_gc hcode) rfl rfl rfl (hN.1 _ g1) (hts _ g3) hn ⟨hR1, hR2⟩, hts _ g2, trivial⟩
    ⟨x_blind z _, fun U hU hw => ⟨rfl, x_at C hW hS U hU hw⟩⟩ rfl (by simp) hL.1 (by subst hst; simp) (lv_room (by rw [x_sum]; exact h8)) hd ⟨by omega, by omega⟩
  exact x_after hrun C hc hz h1 h2 hS hL hnk hfS hfL kk
theorem x_callIN {host : String} {b : xQ} (t : Nat) (hM : x_C l G M' d' kc' ks' (xR (some b) :: As) h nk' Q') (hg : x_kIN M.1.cls index M' host) (ho : x_ok1 M' As.length) (hd : decode M.2.1 pc = .ok (.invokespecial index, 3)) (ht : pc + 3 = t) (hst : st0 = As.reverse ++ xR (some b) :: st) (hdd : d' + 1 ≤ d) (h1 : kc' ≤ kc) (h2 : ks' ≤ ks) (h8 : (st.map x_cat).sum ≤ 8)
    (hnk : ∀ a ∈ nk', a ∈ nk) (hfS : x_far nk' st) (hfL : x_farL nk' L)
    (kk : ∀ (r : Option xV) (h1 : xH), Q' r h1 → x_X l G M d (kc - kc') (ks - ks') nk Q t L (r.toList ++ st) h1) : x_X l G M d kc ks nk Q pc L st0 h := by
  subst ht
  intro p e R s m args below meth c H locs cells slots mc ms ls z0 z C hc hz hW hS hL
  have C' := C
  obtain ⟨hx, hb, hml, hown, hret, hlk, hnm, hts, hfr, hlo, hK, hN, hZ, hA⟩ := C'
  obtain ⟨hcode, hn, hnl⟩ := ho
  have hR1 : d' + 1 ≤ R.frames := by omega
  have hR2 : 8 + (M'.2.2.1 + 11) + 36 * d' ≤ R.locals := by omega
  obtain ⟨g1, g2, g3, g4, g5⟩ := hg
  have hM' := hM z
  rw [g5] at hM' hcode
  have hrun := va_runIN (b := z b) (As := x_s z As) (rest := x_s z st) (g := F0 m pc ls (x_s z st0)) (below := below) (e := e) (locs := locs) (meth := meth) (cells := cells) (slots := slots) ⟨hx, hb, hml, hown, hts⟩ hM' ⟨va_cnB As.length hts (x_gc hcode) rfl rfl rfl (hN.1 _ g1) (hts _ g3) hn ⟨hR1, hR2⟩, g4, hts _ g2⟩
    ⟨x_blind z _, fun U hU hw => ⟨rfl, x_at C hW hS U hU hw⟩⟩ rfl (by simp) hL.1 (by subst hst; simp [va_rf, x_v]) (lv_room (by rw [x_sum]; exact h8)) hd ⟨by omega, by omega⟩
  exact x_after hrun C hc hz h1 h2 hS hL hnk hfS hfL kk
end XC
end
section
/-! THE HEAP: the class's objects by N (orders), I (ints), J (longs), P (references); the reference's by A (ints), B (longs) -/
def si (I : Nat → Nat → Int32) (c k : Nat) (v : Int32) : Nat → Nat → Int32 := fun c' => if c' = c then x_uf (I c) k v else I c'
def sj (I : Nat → Nat → Int64) (c k : Nat) (v : Int64) : Nat → Nat → Int64 := fun c' => if c' = c then x_uf (I c) k v else I c'
def sp (I : Nat → Nat → Option xQ) (c k : Nat) (v : Option xQ) : Nat → Nat → Option xQ := fun c' => if c' = c then x_uf (I c) k v else I c'
theorem x_uf_self {α : Type} (f : Nat → α) (i : Nat) (v : α) : x_uf f i v i = v := by simp [x_uf]
theorem x_uf_ne {α : Type} (f : Nat → α) {i j : Nat} (v : α) (h : j ≠ i) : x_uf f i v j = f j := by simp [x_uf, h]
abbrev e_O (I : Nat → Nat → Int32) (P : Nat → Nat → Option xQ) (k : Nat) : xE := .inr (2, [xI (I 0 k), xI (I 1 k), xI (I 2 k), xI (I 3 k), xI (I 4 k), xI (I 5 k), xI (I 6 k), xI (I 7 k), xI (I 8 k), xR (P 0 k)])
abbrev e_A (J : Nat → Nat → Int64) (m : Nat) : xE := .inr (0, [xR (some (2, m)), xJ (J 0 m), xJ (J 1 m)])
abbrev e_B (I : Nat → Nat → Int32) (i : Nat) : xE := .inr (1, [xR (some (4, 2 * i)), xR (some (4, 2 * i + 1)), xI (I 10 i), xI (I 11 i)])
abbrev e_D (P : Nat → Nat → Option xQ) (j : Nat) : xE := .inr (4, [xR (P 1 j)])
abbrev e_C (I : Nat → Nat → Int32) : xE := .inr (6, [xR (some (6, 0)), xR (some (7, 0)), xR (some (8, 0)), xR (some (9, 0)), xR (some (11, 0)), xI (I 12 0)])
abbrev e_T (I : Nat → Nat → Int32) : xE := .inr (5, [xR (some (10, 0)), xI (I 13 0)])
abbrev e_S : xE := .inr (3, [xR (some (12, 0)), xR (some (13, 0))])
abbrev e_R (A : Nat → Nat → Int32) : xE := .inr (7, [xI (A 13 0), xR (some (15, 0)), xR (some (15, 1)), xR (some (15, 2)), xR (some (15, 3)), xR (some (15, 4)), xR (some (15, 5)), xR (some (15, 6)), xR (some (15, 7)), xR (some (15, 8)), xI (A 14 0), xR (some (16, 0)), xR (some (16, 1)), xR (some (17, 0)), xR (some (18, 0)), xR (some (19, 0)), xI (A 15 0), xR (some (20, 0)), xI (A 16 0), xI (A 17 0), xI (A 18 0)])
def hp (N : Nat) (I : Nat → Nat → Int32) (J : Nat → Nat → Int64) (P : Nat → Nat → Option xQ) (V : Nat → Nat → Int32) (A : Nat → Nat → Int32) (B : Nat → Nat → Int64) : xH := fun a => match a.1 with
  | 0 => if a.2 < N then some (e_O I P a.2) else none
  | 1 => if a.2 < 5 then some (e_A J a.2) else none
  | 2 => if a.2 < 5 then some (.inl (0, 2, .inl (V a.2))) else none
  | 3 => if a.2 < 2 then some (e_B I a.2) else none
  | 4 => if a.2 < 4 then some (e_D P a.2) else none
  | 5 => if a.2 = 0 then some (e_C I) else none
  | 6 => if a.2 = 0 then some (.inl (3, 5, .inr (.inr (fun j => some (1, j))))) else none
  | 7 => if a.2 = 0 then some (.inl (4, 2, .inr (.inr (fun j => some (3, j))))) else none
  | 8 => if a.2 = 0 then some (.inl (5, 120, .inr (.inr (P 2)))) else none
  | 9 => if a.2 = 0 then some (e_T I) else none
  | 10 => if a.2 = 0 then some (.inl (0, 400, .inl (I 14))) else none
  | 11 => if a.2 = 0 then some e_S else none
  | 12 => if a.2 = 0 then some (.inl (0, 65, .inl (I 15))) else none
  | 13 => if a.2 = 0 then some (.inl (0, 65, .inl (I 16))) else none
  | 14 => if a.2 = 0 then some (e_R A) else none
  | 15 => if a.2 < 9 then some (.inl (0, 120, .inl (A a.2))) else none
  | 16 => if a.2 < 2 then some (.inl (1, 5, .inr (.inl (B a.2)))) else none
  | 17 => if a.2 = 0 then some (.inl (0, 10, .inl (A 9))) else none
  | 18 => if a.2 = 0 then some (.inl (2, 2, .inl (A 10))) else none
  | 19 => if a.2 = 0 then some (.inl (0, 2, .inl (A 11))) else none
  | 20 => if a.2 = 0 then some (.inl (0, 400, .inl (A 12))) else none
  | _ => none
section HP
variable {N : Nat} {I : Nat → Nat → Int32} {J : Nat → Nat → Int64} {P : Nat → Nat → Option xQ} {V : Nat → Nat → Int32} {A : Nat → Nat → Int32} {B : Nat → Nat → Int64}
theorem h_O {k : Nat} (h : k < N) : hp N I J P V A B (0, k) = some (e_O I P k) := if_pos h
theorem h_A {k : Nat} (h : k < 5) : hp N I J P V A B (1, k) = some (e_A J k) := if_pos h
theorem h_P {k : Nat} (h : k < 5) : hp N I J P V A B (2, k) = some (.inl (0, 2, .inl (V k))) := if_pos h
theorem h_B {k : Nat} (h : k < 2) : hp N I J P V A B (3, k) = some (e_B I k) := if_pos h
theorem h_D {k : Nat} (h : k < 4) : hp N I J P V A B (4, k) = some (e_D P k) := if_pos h
theorem vp_lt {i : Int32} {n : Nat} (h : vp_in i n) : i.toNatClampNeg < n := Nat.not_le.mp fun q => h (Or.inr q)
theorem u_O0 {k : Nat} (hk : k < N) (v : Int32) : x_up (hp N I J P V A B) (0, k) (.inr (2, [xI (I 0 k), xI (I 1 k), xI (I 2 k), xI (I 3 k), xI (I 4 k), xI (I 5 k), xI (I 6 k), xI (I 7 k), xI (I 8 k), xR (P 0 k)].set 0 (xI v))) = hp N (si I 0 k v) J P V A B := by
  funext a
  obtain ⟨c, i⟩ := a
  by_cases hci : (c, i) = (0, k)
  · cases hci
    rw [x_up_self]
    show some _ = (if _ < N then some _ else none)
    rw [if_pos hk]
    simp [si, sj, sp, x_uf]
  · rw [x_up_ne _ _ hci]
    match c, hci with
    | 0, hci =>
      have hik : ¬ i = k := fun q => hci (by rw [q])
      have he : e_O (si I 0 k v) P i = e_O I P i := by simp [e_O, e_A, e_B, e_D, si, sj, sp, x_uf, hik]
      exact congrArg (fun e => if i < N then some ((e) : xE) else none) he.symm
    | 1, _ => rfl
    | 2, _ => rfl
    | 3, _ => rfl
    | 4, _ => rfl
    | 5, _ => rfl
    | 6, _ => rfl
    | 7, _ => rfl
    | 8, _ => rfl
    | 9, _ => rfl
    | 10, _ => rfl
    | 11, _ => rfl
    | 12, _ => rfl
    | 13, _ => rfl
    | 14, _ => rfl
    | 15, _ => rfl
    | 16, _ => rfl
    | 17, _ => rfl
    | 18, _ => rfl
    | 19, _ => rfl
    | 20, _ => rfl
    | n + 21, _ => rfl
theorem u_O1 {k : Nat} (hk : k < N) (v : Int32) : x_up (hp N I J P V A B) (0, k) (.inr (2, [xI (I 0 k), xI (I 1 k), xI (I 2 k), xI (I 3 k), xI (I 4 k), xI (I 5 k), xI (I 6 k), xI (I 7 k), xI (I 8 k), xR (P 0 k)].set 1 (xI v))) = hp N (si I 1 k v) J P V A B := by
  funext a
  obtain ⟨c, i⟩ := a
  by_cases hci : (c, i) = (0, k)
  · cases hci
    rw [x_up_self]
    show some _ = (if _ < N then some _ else none)
    rw [if_pos hk]
    simp [si, sj, sp, x_uf]
  · rw [x_up_ne _ _ hci]
    match c, hci with
    | 0, hci =>
      have hik : ¬ i = k := fun q => hci (by rw [q])
      have he : e_O (si I 1 k v) P i = e_O I P i := by simp [e_O, e_A, e_B, e_D, si, sj, sp, x_uf, hik]
      exact congrArg (fun e => if i < N then some ((e) : xE) else none) he.symm
    | 1, _ => rfl
    | 2, _ => rfl
    | 3, _ => rfl
    | 4, _ => rfl
    | 5, _ => rfl
    | 6, _ => rfl
    | 7, _ => rfl
    | 8, _ => rfl
    | 9, _ => rfl
    | 10, _ => rfl
    | 11, _ => rfl
    | 12, _ => rfl
    | 13, _ => rfl
    | 14, _ => rfl
    | 15, _ => rfl
    | 16, _ => rfl
    | 17, _ => rfl
    | 18, _ => rfl
    | 19, _ => rfl
    | 20, _ => rfl
    | n + 21, _ => rfl
theorem u_O2 {k : Nat} (hk : k < N) (v : Int32) : x_up (hp N I J P V A B) (0, k) (.inr (2, [xI (I 0 k), xI (I 1 k), xI (I 2 k), xI (I 3 k), xI (I 4 k), xI (I 5 k), xI (I 6 k), xI (I 7 k), xI (I 8 k), xR (P 0 k)].set 2 (xI v))) = hp N (si I 2 k v) J P V A B := by
  funext a
  obtain ⟨c, i⟩ := a
  by_cases hci : (c, i) = (0, k)
  · cases hci
    rw [x_up_self]
    show some _ = (if _ < N then some _ else none)
    rw [if_pos hk]
    simp [si, sj, sp, x_uf]
  · rw [x_up_ne _ _ hci]
    match c, hci with
    | 0, hci =>
      have hik : ¬ i = k := fun q => hci (by rw [q])
      have he : e_O (si I 2 k v) P i = e_O I P i := by simp [e_O, e_A, e_B, e_D, si, sj, sp, x_uf, hik]
      exact congrArg (fun e => if i < N then some ((e) : xE) else none) he.symm
    | 1, _ => rfl
    | 2, _ => rfl
    | 3, _ => rfl
    | 4, _ => rfl
    | 5, _ => rfl
    | 6, _ => rfl
    | 7, _ => rfl
    | 8, _ => rfl
    | 9, _ => rfl
    | 10, _ => rfl
    | 11, _ => rfl
    | 12, _ => rfl
    | 13, _ => rfl
    | 14, _ => rfl
    | 15, _ => rfl
    | 16, _ => rfl
    | 17, _ => rfl
    | 18, _ => rfl
    | 19, _ => rfl
    | 20, _ => rfl
    | n + 21, _ => rfl
theorem u_O3 {k : Nat} (hk : k < N) (v : Int32) : x_up (hp N I J P V A B) (0, k) (.inr (2, [xI (I 0 k), xI (I 1 k), xI (I 2 k), xI (I 3 k), xI (I 4 k), xI (I 5 k), xI (I 6 k), xI (I 7 k), xI (I 8 k), xR (P 0 k)].set 3 (xI v))) = hp N (si I 3 k v) J P V A B := by
  funext a
  obtain ⟨c, i⟩ := a
  by_cases hci : (c, i) = (0, k)
  · cases hci
    rw [x_up_self]
    show some _ = (if _ < N then some _ else none)
    rw [if_pos hk]
    simp [si, sj, sp, x_uf]
  · rw [x_up_ne _ _ hci]
    match c, hci with
    | 0, hci =>
      have hik : ¬ i = k := fun q => hci (by rw [q])
      have he : e_O (si I 3 k v) P i = e_O I P i := by simp [e_O, e_A, e_B, e_D, si, sj, sp, x_uf, hik]
      exact congrArg (fun e => if i < N then some ((e) : xE) else none) he.symm
    | 1, _ => rfl
    | 2, _ => rfl
    | 3, _ => rfl
    | 4, _ => rfl
    | 5, _ => rfl
    | 6, _ => rfl
    | 7, _ => rfl
    | 8, _ => rfl
    | 9, _ => rfl
    | 10, _ => rfl
    | 11, _ => rfl
    | 12, _ => rfl
    | 13, _ => rfl
    | 14, _ => rfl
    | 15, _ => rfl
    | 16, _ => rfl
    | 17, _ => rfl
    | 18, _ => rfl
    | 19, _ => rfl
    | 20, _ => rfl
    | n + 21, _ => rfl
theorem u_O4 {k : Nat} (hk : k < N) (v : Int32) : x_up (hp N I J P V A B) (0, k) (.inr (2, [xI (I 0 k), xI (I 1 k), xI (I 2 k), xI (I 3 k), xI (I 4 k), xI (I 5 k), xI (I 6 k), xI (I 7 k), xI (I 8 k), xR (P 0 k)].set 4 (xI v))) = hp N (si I 4 k v) J P V A B := by
  funext a
  obtain ⟨c, i⟩ := a
  by_cases hci : (c, i) = (0, k)
  · cases hci
    rw [x_up_self]
    show some _ = (if _ < N then some _ else none)
    rw [if_pos hk]
    simp [si, sj, sp, x_uf]
  · rw [x_up_ne _ _ hci]
    match c, hci with
    | 0, hci =>
      have hik : ¬ i = k := fun q => hci (by rw [q])
      have he : e_O (si I 4 k v) P i = e_O I P i := by simp [e_O, e_A, e_B, e_D, si, sj, sp, x_uf, hik]
      exact congrArg (fun e => if i < N then some ((e) : xE) else none) he.symm
    | 1, _ => rfl
    | 2, _ => rfl
    | 3, _ => rfl
    | 4, _ => rfl
    | 5, _ => rfl
    | 6, _ => rfl
    | 7, _ => rfl
    | 8, _ => rfl
    | 9, _ => rfl
    | 10, _ => rfl
    | 11, _ => rfl
    | 12, _ => rfl
    | 13, _ => rfl
    | 14, _ => rfl
    | 15, _ => rfl
    | 16, _ => rfl
    | 17, _ => rfl
    | 18, _ => rfl
    | 19, _ => rfl
    | 20, _ => rfl
    | n + 21, _ => rfl
theorem u_O5 {k : Nat} (hk : k < N) (v : Int32) : x_up (hp N I J P V A B) (0, k) (.inr (2, [xI (I 0 k), xI (I 1 k), xI (I 2 k), xI (I 3 k), xI (I 4 k), xI (I 5 k), xI (I 6 k), xI (I 7 k), xI (I 8 k), xR (P 0 k)].set 5 (xI v))) = hp N (si I 5 k v) J P V A B := by
  funext a
  obtain ⟨c, i⟩ := a
  by_cases hci : (c, i) = (0, k)
  · cases hci
    rw [x_up_self]
    show some _ = (if _ < N then some _ else none)
    rw [if_pos hk]
    simp [si, sj, sp, x_uf]
  · rw [x_up_ne _ _ hci]
    match c, hci with
    | 0, hci =>
      have hik : ¬ i = k := fun q => hci (by rw [q])
      have he : e_O (si I 5 k v) P i = e_O I P i := by simp [e_O, e_A, e_B, e_D, si, sj, sp, x_uf, hik]
      exact congrArg (fun e => if i < N then some ((e) : xE) else none) he.symm
    | 1, _ => rfl
    | 2, _ => rfl
    | 3, _ => rfl
    | 4, _ => rfl
    | 5, _ => rfl
    | 6, _ => rfl
    | 7, _ => rfl
    | 8, _ => rfl
    | 9, _ => rfl
    | 10, _ => rfl
    | 11, _ => rfl
    | 12, _ => rfl
    | 13, _ => rfl
    | 14, _ => rfl
    | 15, _ => rfl
    | 16, _ => rfl
    | 17, _ => rfl
    | 18, _ => rfl
    | 19, _ => rfl
    | 20, _ => rfl
    | n + 21, _ => rfl
theorem u_O6 {k : Nat} (hk : k < N) (v : Int32) : x_up (hp N I J P V A B) (0, k) (.inr (2, [xI (I 0 k), xI (I 1 k), xI (I 2 k), xI (I 3 k), xI (I 4 k), xI (I 5 k), xI (I 6 k), xI (I 7 k), xI (I 8 k), xR (P 0 k)].set 6 (xI v))) = hp N (si I 6 k v) J P V A B := by
  funext a
  obtain ⟨c, i⟩ := a
  by_cases hci : (c, i) = (0, k)
  · cases hci
    rw [x_up_self]
    show some _ = (if _ < N then some _ else none)
    rw [if_pos hk]
    simp [si, sj, sp, x_uf]
  · rw [x_up_ne _ _ hci]
    match c, hci with
    | 0, hci =>
      have hik : ¬ i = k := fun q => hci (by rw [q])
      have he : e_O (si I 6 k v) P i = e_O I P i := by simp [e_O, e_A, e_B, e_D, si, sj, sp, x_uf, hik]
      exact congrArg (fun e => if i < N then some ((e) : xE) else none) he.symm
    | 1, _ => rfl
    | 2, _ => rfl
    | 3, _ => rfl
    | 4, _ => rfl
    | 5, _ => rfl
    | 6, _ => rfl
    | 7, _ => rfl
    | 8, _ => rfl
    | 9, _ => rfl
    | 10, _ => rfl
    | 11, _ => rfl
    | 12, _ => rfl
    | 13, _ => rfl
    | 14, _ => rfl
    | 15, _ => rfl
    | 16, _ => rfl
    | 17, _ => rfl
    | 18, _ => rfl
    | 19, _ => rfl
    | 20, _ => rfl
    | n + 21, _ => rfl
theorem u_O7 {k : Nat} (hk : k < N) (v : Int32) : x_up (hp N I J P V A B) (0, k) (.inr (2, [xI (I 0 k), xI (I 1 k), xI (I 2 k), xI (I 3 k), xI (I 4 k), xI (I 5 k), xI (I 6 k), xI (I 7 k), xI (I 8 k), xR (P 0 k)].set 7 (xI v))) = hp N (si I 7 k v) J P V A B := by
  funext a
  obtain ⟨c, i⟩ := a
  by_cases hci : (c, i) = (0, k)
  · cases hci
    rw [x_up_self]
    show some _ = (if _ < N then some _ else none)
    rw [if_pos hk]
    simp [si, sj, sp, x_uf]
  · rw [x_up_ne _ _ hci]
    match c, hci with
    | 0, hci =>
      have hik : ¬ i = k := fun q => hci (by rw [q])
      have he : e_O (si I 7 k v) P i = e_O I P i := by simp [e_O, e_A, e_B, e_D, si, sj, sp, x_uf, hik]
      exact congrArg (fun e => if i < N then some ((e) : xE) else none) he.symm
    | 1, _ => rfl
    | 2, _ => rfl
    | 3, _ => rfl
    | 4, _ => rfl
    | 5, _ => rfl
    | 6, _ => rfl
    | 7, _ => rfl
    | 8, _ => rfl
    | 9, _ => rfl
    | 10, _ => rfl
    | 11, _ => rfl
    | 12, _ => rfl
    | 13, _ => rfl
    | 14, _ => rfl
    | 15, _ => rfl
    | 16, _ => rfl
    | 17, _ => rfl
    | 18, _ => rfl
    | 19, _ => rfl
    | 20, _ => rfl
    | n + 21, _ => rfl
theorem u_O8 {k : Nat} (hk : k < N) (v : Int32) : x_up (hp N I J P V A B) (0, k) (.inr (2, [xI (I 0 k), xI (I 1 k), xI (I 2 k), xI (I 3 k), xI (I 4 k), xI (I 5 k), xI (I 6 k), xI (I 7 k), xI (I 8 k), xR (P 0 k)].set 8 (xI v))) = hp N (si I 8 k v) J P V A B := by
  funext a
  obtain ⟨c, i⟩ := a
  by_cases hci : (c, i) = (0, k)
  · cases hci
    rw [x_up_self]
    show some _ = (if _ < N then some _ else none)
    rw [if_pos hk]
    simp [si, sj, sp, x_uf]
  · rw [x_up_ne _ _ hci]
    match c, hci with
    | 0, hci =>
      have hik : ¬ i = k := fun q => hci (by rw [q])
      have he : e_O (si I 8 k v) P i = e_O I P i := by simp [e_O, e_A, e_B, e_D, si, sj, sp, x_uf, hik]
      exact congrArg (fun e => if i < N then some ((e) : xE) else none) he.symm
    | 1, _ => rfl
    | 2, _ => rfl
    | 3, _ => rfl
    | 4, _ => rfl
    | 5, _ => rfl
    | 6, _ => rfl
    | 7, _ => rfl
    | 8, _ => rfl
    | 9, _ => rfl
    | 10, _ => rfl
    | 11, _ => rfl
    | 12, _ => rfl
    | 13, _ => rfl
    | 14, _ => rfl
    | 15, _ => rfl
    | 16, _ => rfl
    | 17, _ => rfl
    | 18, _ => rfl
    | 19, _ => rfl
    | 20, _ => rfl
    | n + 21, _ => rfl
theorem u_O9 {k : Nat} (hk : k < N) (v : Option xQ) : x_up (hp N I J P V A B) (0, k) (.inr (2, [xI (I 0 k), xI (I 1 k), xI (I 2 k), xI (I 3 k), xI (I 4 k), xI (I 5 k), xI (I 6 k), xI (I 7 k), xI (I 8 k), xR (P 0 k)].set 9 (xR v))) = hp N I J (sp P 0 k v) V A B := by
  funext a
  obtain ⟨c, i⟩ := a
  by_cases hci : (c, i) = (0, k)
  · cases hci
    rw [x_up_self]
    show some _ = (if _ < N then some _ else none)
    rw [if_pos hk]
    simp [si, sj, sp, x_uf]
  · rw [x_up_ne _ _ hci]
    match c, hci with
    | 0, hci =>
      have hik : ¬ i = k := fun q => hci (by rw [q])
      have he : e_O I (sp P 0 k v) i = e_O I P i := by simp [e_O, e_A, e_B, e_D, si, sj, sp, x_uf, hik]
      exact congrArg (fun e => if i < N then some ((e) : xE) else none) he.symm
    | 1, _ => rfl
    | 2, _ => rfl
    | 3, _ => rfl
    | 4, _ => rfl
    | 5, _ => rfl
    | 6, _ => rfl
    | 7, _ => rfl
    | 8, _ => rfl
    | 9, _ => rfl
    | 10, _ => rfl
    | 11, _ => rfl
    | 12, _ => rfl
    | 13, _ => rfl
    | 14, _ => rfl
    | 15, _ => rfl
    | 16, _ => rfl
    | 17, _ => rfl
    | 18, _ => rfl
    | 19, _ => rfl
    | 20, _ => rfl
    | n + 21, _ => rfl
theorem u_A1 {k : Nat} (hk : k < 5) (v : Int64) : x_up (hp N I J P V A B) (1, k) (.inr (0, [xR (some (2, k)), xJ (J 0 k), xJ (J 1 k)].set 1 (xJ v))) = hp N I (sj J 0 k v) P V A B := by
  funext a
  obtain ⟨c, i⟩ := a
  by_cases hci : (c, i) = (1, k)
  · cases hci
    rw [x_up_self]
    show some _ = (if _ < 5 then some _ else none)
    rw [if_pos hk]
    simp [si, sj, sp, x_uf]
  · rw [x_up_ne _ _ hci]
    match c, hci with
    | 0, _ => rfl
    | 1, hci =>
      have hik : ¬ i = k := fun q => hci (by rw [q])
      have he : e_A (sj J 0 k v) i = e_A J i := by simp [e_O, e_A, e_B, e_D, si, sj, sp, x_uf, hik]
      exact congrArg (fun e => if i < 5 then some ((e) : xE) else none) he.symm
    | 2, _ => rfl
    | 3, _ => rfl
    | 4, _ => rfl
    | 5, _ => rfl
    | 6, _ => rfl
    | 7, _ => rfl
    | 8, _ => rfl
    | 9, _ => rfl
    | 10, _ => rfl
    | 11, _ => rfl
    | 12, _ => rfl
    | 13, _ => rfl
    | 14, _ => rfl
    | 15, _ => rfl
    | 16, _ => rfl
    | 17, _ => rfl
    | 18, _ => rfl
    | 19, _ => rfl
    | 20, _ => rfl
    | n + 21, _ => rfl
theorem u_A2 {k : Nat} (hk : k < 5) (v : Int64) : x_up (hp N I J P V A B) (1, k) (.inr (0, [xR (some (2, k)), xJ (J 0 k), xJ (J 1 k)].set 2 (xJ v))) = hp N I (sj J 1 k v) P V A B := by
  funext a
  obtain ⟨c, i⟩ := a
  by_cases hci : (c, i) = (1, k)
  · cases hci
    rw [x_up_self]
    show some _ = (if _ < 5 then some _ else none)
    rw [if_pos hk]
    simp [si, sj, sp, x_uf]
  · rw [x_up_ne _ _ hci]
    match c, hci with
    | 0, _ => rfl
    | 1, hci =>
      have hik : ¬ i = k := fun q => hci (by rw [q])
      have he : e_A (sj J 1 k v) i = e_A J i := by simp [e_O, e_A, e_B, e_D, si, sj, sp, x_uf, hik]
      exact congrArg (fun e => if i < 5 then some ((e) : xE) else none) he.symm
    | 2, _ => rfl
    | 3, _ => rfl
    | 4, _ => rfl
    | 5, _ => rfl
    | 6, _ => rfl
    | 7, _ => rfl
    | 8, _ => rfl
    | 9, _ => rfl
    | 10, _ => rfl
    | 11, _ => rfl
    | 12, _ => rfl
    | 13, _ => rfl
    | 14, _ => rfl
    | 15, _ => rfl
    | 16, _ => rfl
    | 17, _ => rfl
    | 18, _ => rfl
    | 19, _ => rfl
    | 20, _ => rfl
    | n + 21, _ => rfl
theorem u_P {k : Nat} (hk : k < 5) (j : Nat) (v : Int32) : x_up (hp N I J P V A B) (2, k) (.inl (0, 2, .inl (x_uf (V k) j v))) = hp N I J P (si V k j v) A B := by
  funext a
  obtain ⟨c, i⟩ := a
  by_cases hci : (c, i) = (2, k)
  · cases hci
    rw [x_up_self]
    show some _ = (if _ < 5 then some _ else none)
    rw [if_pos hk]
    simp [si, sj, sp, x_uf]
  · rw [x_up_ne _ _ hci]
    match c, hci with
    | 0, _ => rfl
    | 1, _ => rfl
    | 2, hci =>
      have hik : ¬ i = k := fun q => hci (by rw [q])
      have he : si V k j v i = V i := by simp [e_O, e_A, e_B, e_D, si, sj, sp, x_uf, hik]
      exact congrArg (fun e => if i < 5 then some ((.inl (0, 2, .inl e)) : xE) else none) he.symm
    | 3, _ => rfl
    | 4, _ => rfl
    | 5, _ => rfl
    | 6, _ => rfl
    | 7, _ => rfl
    | 8, _ => rfl
    | 9, _ => rfl
    | 10, _ => rfl
    | 11, _ => rfl
    | 12, _ => rfl
    | 13, _ => rfl
    | 14, _ => rfl
    | 15, _ => rfl
    | 16, _ => rfl
    | 17, _ => rfl
    | 18, _ => rfl
    | 19, _ => rfl
    | 20, _ => rfl
    | n + 21, _ => rfl
theorem u_B2 {k : Nat} (hk : k < 2) (v : Int32) : x_up (hp N I J P V A B) (3, k) (.inr (1, [xR (some (4, 2 * k)), xR (some (4, 2 * k + 1)), xI (I 10 k), xI (I 11 k)].set 2 (xI v))) = hp N (si I 10 k v) J P V A B := by
  funext a
  obtain ⟨c, i⟩ := a
  by_cases hci : (c, i) = (3, k)
  · cases hci
    rw [x_up_self]
    show some _ = (if _ < 2 then some _ else none)
    rw [if_pos hk]
    simp [si, sj, sp, x_uf]
  · rw [x_up_ne _ _ hci]
    match c, hci with
    | 0, _ => rfl
    | 1, _ => rfl
    | 2, _ => rfl
    | 3, hci =>
      have hik : ¬ i = k := fun q => hci (by rw [q])
      have he : e_B (si I 10 k v) i = e_B I i := by simp [e_O, e_A, e_B, e_D, si, sj, sp, x_uf, hik]
      exact congrArg (fun e => if i < 2 then some ((e) : xE) else none) he.symm
    | 4, _ => rfl
    | 5, _ => rfl
    | 6, _ => rfl
    | 7, _ => rfl
    | 8, _ => rfl
    | 9, _ => rfl
    | 10, _ => rfl
    | 11, _ => rfl
    | 12, _ => rfl
    | 13, _ => rfl
    | 14, _ => rfl
    | 15, _ => rfl
    | 16, _ => rfl
    | 17, _ => rfl
    | 18, _ => rfl
    | 19, _ => rfl
    | 20, _ => rfl
    | n + 21, _ => rfl
theorem u_B3 {k : Nat} (hk : k < 2) (v : Int32) : x_up (hp N I J P V A B) (3, k) (.inr (1, [xR (some (4, 2 * k)), xR (some (4, 2 * k + 1)), xI (I 10 k), xI (I 11 k)].set 3 (xI v))) = hp N (si I 11 k v) J P V A B := by
  funext a
  obtain ⟨c, i⟩ := a
  by_cases hci : (c, i) = (3, k)
  · cases hci
    rw [x_up_self]
    show some _ = (if _ < 2 then some _ else none)
    rw [if_pos hk]
    simp [si, sj, sp, x_uf]
  · rw [x_up_ne _ _ hci]
    match c, hci with
    | 0, _ => rfl
    | 1, _ => rfl
    | 2, _ => rfl
    | 3, hci =>
      have hik : ¬ i = k := fun q => hci (by rw [q])
      have he : e_B (si I 11 k v) i = e_B I i := by simp [e_O, e_A, e_B, e_D, si, sj, sp, x_uf, hik]
      exact congrArg (fun e => if i < 2 then some ((e) : xE) else none) he.symm
    | 4, _ => rfl
    | 5, _ => rfl
    | 6, _ => rfl
    | 7, _ => rfl
    | 8, _ => rfl
    | 9, _ => rfl
    | 10, _ => rfl
    | 11, _ => rfl
    | 12, _ => rfl
    | 13, _ => rfl
    | 14, _ => rfl
    | 15, _ => rfl
    | 16, _ => rfl
    | 17, _ => rfl
    | 18, _ => rfl
    | 19, _ => rfl
    | 20, _ => rfl
    | n + 21, _ => rfl
theorem u_D0 {k : Nat} (hk : k < 4) (v : Option xQ) : x_up (hp N I J P V A B) (4, k) (.inr (4, [xR (P 1 k)].set 0 (xR v))) = hp N I J (sp P 1 k v) V A B := by
  funext a
  obtain ⟨c, i⟩ := a
  by_cases hci : (c, i) = (4, k)
  · cases hci
    rw [x_up_self]
    show some _ = (if _ < 4 then some _ else none)
    rw [if_pos hk]
    simp [si, sj, sp, x_uf]
  · rw [x_up_ne _ _ hci]
    match c, hci with
    | 0, _ => rfl
    | 1, _ => rfl
    | 2, _ => rfl
    | 3, _ => rfl
    | 4, hci =>
      have hik : ¬ i = k := fun q => hci (by rw [q])
      have he : e_D (sp P 1 k v) i = e_D P i := by simp [e_O, e_A, e_B, e_D, si, sj, sp, x_uf, hik]
      exact congrArg (fun e => if i < 4 then some ((e) : xE) else none) he.symm
    | 5, _ => rfl
    | 6, _ => rfl
    | 7, _ => rfl
    | 8, _ => rfl
    | 9, _ => rfl
    | 10, _ => rfl
    | 11, _ => rfl
    | 12, _ => rfl
    | 13, _ => rfl
    | 14, _ => rfl
    | 15, _ => rfl
    | 16, _ => rfl
    | 17, _ => rfl
    | 18, _ => rfl
    | 19, _ => rfl
    | 20, _ => rfl
    | n + 21, _ => rfl
theorem u_C5 (v : Int32) : x_up (hp N I J P V A B) (5, 0) (.inr (6, [xR (some (6, 0)), xR (some (7, 0)), xR (some (8, 0)), xR (some (9, 0)), xR (some (11, 0)), xI (I 12 0)].set 5 (xI v))) = hp N (si I 12 0 v) J P V A B := by
  funext a
  obtain ⟨c, i⟩ := a
  by_cases hci : (c, i) = (5, 0)
  · cases hci
    rw [x_up_self]
    rfl
  · rw [x_up_ne _ _ hci]
    match c, hci with
    | 0, _ => rfl
    | 1, _ => rfl
    | 2, _ => rfl
    | 3, _ => rfl
    | 4, _ => rfl
    | 5, hci =>
      have hik : ¬ i = 0 := fun q => hci (by rw [q])
      show (if i = 0 then some _ else none) = (if i = 0 then some _ else none)
      rw [if_neg hik, if_neg hik]
    | 6, _ => rfl
    | 7, _ => rfl
    | 8, _ => rfl
    | 9, _ => rfl
    | 10, _ => rfl
    | 11, _ => rfl
    | 12, _ => rfl
    | 13, _ => rfl
    | 14, _ => rfl
    | 15, _ => rfl
    | 16, _ => rfl
    | 17, _ => rfl
    | 18, _ => rfl
    | 19, _ => rfl
    | 20, _ => rfl
    | n + 21, _ => rfl
theorem u_T1 (v : Int32) : x_up (hp N I J P V A B) (9, 0) (.inr (5, [xR (some (10, 0)), xI (I 13 0)].set 1 (xI v))) = hp N (si I 13 0 v) J P V A B := by
  funext a
  obtain ⟨c, i⟩ := a
  by_cases hci : (c, i) = (9, 0)
  · cases hci
    rw [x_up_self]
    rfl
  · rw [x_up_ne _ _ hci]
    match c, hci with
    | 0, _ => rfl
    | 1, _ => rfl
    | 2, _ => rfl
    | 3, _ => rfl
    | 4, _ => rfl
    | 5, _ => rfl
    | 6, _ => rfl
    | 7, _ => rfl
    | 8, _ => rfl
    | 9, hci =>
      have hik : ¬ i = 0 := fun q => hci (by rw [q])
      show (if i = 0 then some _ else none) = (if i = 0 then some _ else none)
      rw [if_neg hik, if_neg hik]
    | 10, _ => rfl
    | 11, _ => rfl
    | 12, _ => rfl
    | 13, _ => rfl
    | 14, _ => rfl
    | 15, _ => rfl
    | 16, _ => rfl
    | 17, _ => rfl
    | 18, _ => rfl
    | 19, _ => rfl
    | 20, _ => rfl
    | n + 21, _ => rfl
theorem u_orders (j : Nat) (v : Option xQ) : x_up (hp N I J P V A B) (8, 0) (.inl (5, 120, .inr (.inr (x_uf (P 2) j v)))) = hp N I J (sp P 2 j v) V A B := by
  funext a
  obtain ⟨c, i⟩ := a
  by_cases hci : (c, i) = (8, 0)
  · cases hci
    rw [x_up_self]
    rfl
  · rw [x_up_ne _ _ hci]
    match c, hci with
    | 0, _ => rfl
    | 1, _ => rfl
    | 2, _ => rfl
    | 3, _ => rfl
    | 4, _ => rfl
    | 5, _ => rfl
    | 6, _ => rfl
    | 7, _ => rfl
    | 8, hci =>
      have hik : ¬ i = 0 := fun q => hci (by rw [q])
      show (if i = 0 then some _ else none) = (if i = 0 then some _ else none)
      rw [if_neg hik, if_neg hik]
    | 9, _ => rfl
    | 10, _ => rfl
    | 11, _ => rfl
    | 12, _ => rfl
    | 13, _ => rfl
    | 14, _ => rfl
    | 15, _ => rfl
    | 16, _ => rfl
    | 17, _ => rfl
    | 18, _ => rfl
    | 19, _ => rfl
    | 20, _ => rfl
    | n + 21, _ => rfl
theorem u_rows (j : Nat) (v : Int32) : x_up (hp N I J P V A B) (10, 0) (.inl (0, 400, .inl (x_uf (I 14) j v))) = hp N (si I 14 j v) J P V A B := by
  funext a
  obtain ⟨c, i⟩ := a
  by_cases hci : (c, i) = (10, 0)
  · cases hci
    rw [x_up_self]
    rfl
  · rw [x_up_ne _ _ hci]
    match c, hci with
    | 0, _ => rfl
    | 1, _ => rfl
    | 2, _ => rfl
    | 3, _ => rfl
    | 4, _ => rfl
    | 5, _ => rfl
    | 6, _ => rfl
    | 7, _ => rfl
    | 8, _ => rfl
    | 9, _ => rfl
    | 10, hci =>
      have hik : ¬ i = 0 := fun q => hci (by rw [q])
      show (if i = 0 then some _ else none) = (if i = 0 then some _ else none)
      rw [if_neg hik, if_neg hik]
    | 11, _ => rfl
    | 12, _ => rfl
    | 13, _ => rfl
    | 14, _ => rfl
    | 15, _ => rfl
    | 16, _ => rfl
    | 17, _ => rfl
    | 18, _ => rfl
    | 19, _ => rfl
    | 20, _ => rfl
    | n + 21, _ => rfl
theorem u_bought (j : Nat) (v : Int32) : x_up (hp N I J P V A B) (12, 0) (.inl (0, 65, .inl (x_uf (I 15) j v))) = hp N (si I 15 j v) J P V A B := by
  funext a
  obtain ⟨c, i⟩ := a
  by_cases hci : (c, i) = (12, 0)
  · cases hci
    rw [x_up_self]
    rfl
  · rw [x_up_ne _ _ hci]
    match c, hci with
    | 0, _ => rfl
    | 1, _ => rfl
    | 2, _ => rfl
    | 3, _ => rfl
    | 4, _ => rfl
    | 5, _ => rfl
    | 6, _ => rfl
    | 7, _ => rfl
    | 8, _ => rfl
    | 9, _ => rfl
    | 10, _ => rfl
    | 11, _ => rfl
    | 12, hci =>
      have hik : ¬ i = 0 := fun q => hci (by rw [q])
      show (if i = 0 then some _ else none) = (if i = 0 then some _ else none)
      rw [if_neg hik, if_neg hik]
    | 13, _ => rfl
    | 14, _ => rfl
    | 15, _ => rfl
    | 16, _ => rfl
    | 17, _ => rfl
    | 18, _ => rfl
    | 19, _ => rfl
    | 20, _ => rfl
    | n + 21, _ => rfl
theorem u_sold (j : Nat) (v : Int32) : x_up (hp N I J P V A B) (13, 0) (.inl (0, 65, .inl (x_uf (I 16) j v))) = hp N (si I 16 j v) J P V A B := by
  funext a
  obtain ⟨c, i⟩ := a
  by_cases hci : (c, i) = (13, 0)
  · cases hci
    rw [x_up_self]
    rfl
  · rw [x_up_ne _ _ hci]
    match c, hci with
    | 0, _ => rfl
    | 1, _ => rfl
    | 2, _ => rfl
    | 3, _ => rfl
    | 4, _ => rfl
    | 5, _ => rfl
    | 6, _ => rfl
    | 7, _ => rfl
    | 8, _ => rfl
    | 9, _ => rfl
    | 10, _ => rfl
    | 11, _ => rfl
    | 12, _ => rfl
    | 13, hci =>
      have hik : ¬ i = 0 := fun q => hci (by rw [q])
      show (if i = 0 then some _ else none) = (if i = 0 then some _ else none)
      rw [if_neg hik, if_neg hik]
    | 14, _ => rfl
    | 15, _ => rfl
    | 16, _ => rfl
    | 17, _ => rfl
    | 18, _ => rfl
    | 19, _ => rfl
    | 20, _ => rfl
    | n + 21, _ => rfl
theorem u_R0 (v : Int32) : x_up (hp N I J P V A B) (14, 0) (.inr (7, [xI (A 13 0), xR (some (15, 0)), xR (some (15, 1)), xR (some (15, 2)), xR (some (15, 3)), xR (some (15, 4)), xR (some (15, 5)), xR (some (15, 6)), xR (some (15, 7)), xR (some (15, 8)), xI (A 14 0), xR (some (16, 0)), xR (some (16, 1)), xR (some (17, 0)), xR (some (18, 0)), xR (some (19, 0)), xI (A 15 0), xR (some (20, 0)), xI (A 16 0), xI (A 17 0), xI (A 18 0)].set 0 (xI v))) = hp N I J P V (si A 13 0 v) B := by
  funext a
  obtain ⟨c, i⟩ := a
  by_cases hci : (c, i) = (14, 0)
  · cases hci
    rw [x_up_self]
    rfl
  · rw [x_up_ne _ _ hci]
    match c, hci with
    | 0, _ => rfl
    | 1, _ => rfl
    | 2, _ => rfl
    | 3, _ => rfl
    | 4, _ => rfl
    | 5, _ => rfl
    | 6, _ => rfl
    | 7, _ => rfl
    | 8, _ => rfl
    | 9, _ => rfl
    | 10, _ => rfl
    | 11, _ => rfl
    | 12, _ => rfl
    | 13, _ => rfl
    | 14, hci =>
      have hik : ¬ i = 0 := fun q => hci (by rw [q])
      show (if i = 0 then some _ else none) = (if i = 0 then some _ else none)
      rw [if_neg hik, if_neg hik]
    | 15, _ =>
      by_cases h9 : i < 9
      · show (if i < 9 then some _ else none) = (if i < 9 then some _ else none)
        rw [if_pos h9, if_pos h9, show si A 13 0 v i = A i from if_neg (by omega)]
      · show (if i < 9 then some _ else none) = (if i < 9 then some _ else none)
        rw [if_neg h9, if_neg h9]
    | 16, _ => rfl
    | 17, _ => rfl
    | 18, _ => rfl
    | 19, _ => rfl
    | 20, _ => rfl
    | n + 21, _ => rfl
theorem u_R10 (v : Int32) : x_up (hp N I J P V A B) (14, 0) (.inr (7, [xI (A 13 0), xR (some (15, 0)), xR (some (15, 1)), xR (some (15, 2)), xR (some (15, 3)), xR (some (15, 4)), xR (some (15, 5)), xR (some (15, 6)), xR (some (15, 7)), xR (some (15, 8)), xI (A 14 0), xR (some (16, 0)), xR (some (16, 1)), xR (some (17, 0)), xR (some (18, 0)), xR (some (19, 0)), xI (A 15 0), xR (some (20, 0)), xI (A 16 0), xI (A 17 0), xI (A 18 0)].set 10 (xI v))) = hp N I J P V (si A 14 0 v) B := by
  funext a
  obtain ⟨c, i⟩ := a
  by_cases hci : (c, i) = (14, 0)
  · cases hci
    rw [x_up_self]
    rfl
  · rw [x_up_ne _ _ hci]
    match c, hci with
    | 0, _ => rfl
    | 1, _ => rfl
    | 2, _ => rfl
    | 3, _ => rfl
    | 4, _ => rfl
    | 5, _ => rfl
    | 6, _ => rfl
    | 7, _ => rfl
    | 8, _ => rfl
    | 9, _ => rfl
    | 10, _ => rfl
    | 11, _ => rfl
    | 12, _ => rfl
    | 13, _ => rfl
    | 14, hci =>
      have hik : ¬ i = 0 := fun q => hci (by rw [q])
      show (if i = 0 then some _ else none) = (if i = 0 then some _ else none)
      rw [if_neg hik, if_neg hik]
    | 15, _ =>
      by_cases h9 : i < 9
      · show (if i < 9 then some _ else none) = (if i < 9 then some _ else none)
        rw [if_pos h9, if_pos h9, show si A 14 0 v i = A i from if_neg (by omega)]
      · show (if i < 9 then some _ else none) = (if i < 9 then some _ else none)
        rw [if_neg h9, if_neg h9]
    | 16, _ => rfl
    | 17, _ => rfl
    | 18, _ => rfl
    | 19, _ => rfl
    | 20, _ => rfl
    | n + 21, _ => rfl
theorem u_R16 (v : Int32) : x_up (hp N I J P V A B) (14, 0) (.inr (7, [xI (A 13 0), xR (some (15, 0)), xR (some (15, 1)), xR (some (15, 2)), xR (some (15, 3)), xR (some (15, 4)), xR (some (15, 5)), xR (some (15, 6)), xR (some (15, 7)), xR (some (15, 8)), xI (A 14 0), xR (some (16, 0)), xR (some (16, 1)), xR (some (17, 0)), xR (some (18, 0)), xR (some (19, 0)), xI (A 15 0), xR (some (20, 0)), xI (A 16 0), xI (A 17 0), xI (A 18 0)].set 16 (xI v))) = hp N I J P V (si A 15 0 v) B := by
  funext a
  obtain ⟨c, i⟩ := a
  by_cases hci : (c, i) = (14, 0)
  · cases hci
    rw [x_up_self]
    rfl
  · rw [x_up_ne _ _ hci]
    match c, hci with
    | 0, _ => rfl
    | 1, _ => rfl
    | 2, _ => rfl
    | 3, _ => rfl
    | 4, _ => rfl
    | 5, _ => rfl
    | 6, _ => rfl
    | 7, _ => rfl
    | 8, _ => rfl
    | 9, _ => rfl
    | 10, _ => rfl
    | 11, _ => rfl
    | 12, _ => rfl
    | 13, _ => rfl
    | 14, hci =>
      have hik : ¬ i = 0 := fun q => hci (by rw [q])
      show (if i = 0 then some _ else none) = (if i = 0 then some _ else none)
      rw [if_neg hik, if_neg hik]
    | 15, _ =>
      by_cases h9 : i < 9
      · show (if i < 9 then some _ else none) = (if i < 9 then some _ else none)
        rw [if_pos h9, if_pos h9, show si A 15 0 v i = A i from if_neg (by omega)]
      · show (if i < 9 then some _ else none) = (if i < 9 then some _ else none)
        rw [if_neg h9, if_neg h9]
    | 16, _ => rfl
    | 17, _ => rfl
    | 18, _ => rfl
    | 19, _ => rfl
    | 20, _ => rfl
    | n + 21, _ => rfl
theorem u_R18 (v : Int32) : x_up (hp N I J P V A B) (14, 0) (.inr (7, [xI (A 13 0), xR (some (15, 0)), xR (some (15, 1)), xR (some (15, 2)), xR (some (15, 3)), xR (some (15, 4)), xR (some (15, 5)), xR (some (15, 6)), xR (some (15, 7)), xR (some (15, 8)), xI (A 14 0), xR (some (16, 0)), xR (some (16, 1)), xR (some (17, 0)), xR (some (18, 0)), xR (some (19, 0)), xI (A 15 0), xR (some (20, 0)), xI (A 16 0), xI (A 17 0), xI (A 18 0)].set 18 (xI v))) = hp N I J P V (si A 16 0 v) B := by
  funext a
  obtain ⟨c, i⟩ := a
  by_cases hci : (c, i) = (14, 0)
  · cases hci
    rw [x_up_self]
    rfl
  · rw [x_up_ne _ _ hci]
    match c, hci with
    | 0, _ => rfl
    | 1, _ => rfl
    | 2, _ => rfl
    | 3, _ => rfl
    | 4, _ => rfl
    | 5, _ => rfl
    | 6, _ => rfl
    | 7, _ => rfl
    | 8, _ => rfl
    | 9, _ => rfl
    | 10, _ => rfl
    | 11, _ => rfl
    | 12, _ => rfl
    | 13, _ => rfl
    | 14, hci =>
      have hik : ¬ i = 0 := fun q => hci (by rw [q])
      show (if i = 0 then some _ else none) = (if i = 0 then some _ else none)
      rw [if_neg hik, if_neg hik]
    | 15, _ =>
      by_cases h9 : i < 9
      · show (if i < 9 then some _ else none) = (if i < 9 then some _ else none)
        rw [if_pos h9, if_pos h9, show si A 16 0 v i = A i from if_neg (by omega)]
      · show (if i < 9 then some _ else none) = (if i < 9 then some _ else none)
        rw [if_neg h9, if_neg h9]
    | 16, _ => rfl
    | 17, _ => rfl
    | 18, _ => rfl
    | 19, _ => rfl
    | 20, _ => rfl
    | n + 21, _ => rfl
theorem u_R19 (v : Int32) : x_up (hp N I J P V A B) (14, 0) (.inr (7, [xI (A 13 0), xR (some (15, 0)), xR (some (15, 1)), xR (some (15, 2)), xR (some (15, 3)), xR (some (15, 4)), xR (some (15, 5)), xR (some (15, 6)), xR (some (15, 7)), xR (some (15, 8)), xI (A 14 0), xR (some (16, 0)), xR (some (16, 1)), xR (some (17, 0)), xR (some (18, 0)), xR (some (19, 0)), xI (A 15 0), xR (some (20, 0)), xI (A 16 0), xI (A 17 0), xI (A 18 0)].set 19 (xI v))) = hp N I J P V (si A 17 0 v) B := by
  funext a
  obtain ⟨c, i⟩ := a
  by_cases hci : (c, i) = (14, 0)
  · cases hci
    rw [x_up_self]
    rfl
  · rw [x_up_ne _ _ hci]
    match c, hci with
    | 0, _ => rfl
    | 1, _ => rfl
    | 2, _ => rfl
    | 3, _ => rfl
    | 4, _ => rfl
    | 5, _ => rfl
    | 6, _ => rfl
    | 7, _ => rfl
    | 8, _ => rfl
    | 9, _ => rfl
    | 10, _ => rfl
    | 11, _ => rfl
    | 12, _ => rfl
    | 13, _ => rfl
    | 14, hci =>
      have hik : ¬ i = 0 := fun q => hci (by rw [q])
      show (if i = 0 then some _ else none) = (if i = 0 then some _ else none)
      rw [if_neg hik, if_neg hik]
    | 15, _ =>
      by_cases h9 : i < 9
      · show (if i < 9 then some _ else none) = (if i < 9 then some _ else none)
        rw [if_pos h9, if_pos h9, show si A 17 0 v i = A i from if_neg (by omega)]
      · show (if i < 9 then some _ else none) = (if i < 9 then some _ else none)
        rw [if_neg h9, if_neg h9]
    | 16, _ => rfl
    | 17, _ => rfl
    | 18, _ => rfl
    | 19, _ => rfl
    | 20, _ => rfl
    | n + 21, _ => rfl
theorem u_R20 (v : Int32) : x_up (hp N I J P V A B) (14, 0) (.inr (7, [xI (A 13 0), xR (some (15, 0)), xR (some (15, 1)), xR (some (15, 2)), xR (some (15, 3)), xR (some (15, 4)), xR (some (15, 5)), xR (some (15, 6)), xR (some (15, 7)), xR (some (15, 8)), xI (A 14 0), xR (some (16, 0)), xR (some (16, 1)), xR (some (17, 0)), xR (some (18, 0)), xR (some (19, 0)), xI (A 15 0), xR (some (20, 0)), xI (A 16 0), xI (A 17 0), xI (A 18 0)].set 20 (xI v))) = hp N I J P V (si A 18 0 v) B := by
  funext a
  obtain ⟨c, i⟩ := a
  by_cases hci : (c, i) = (14, 0)
  · cases hci
    rw [x_up_self]
    rfl
  · rw [x_up_ne _ _ hci]
    match c, hci with
    | 0, _ => rfl
    | 1, _ => rfl
    | 2, _ => rfl
    | 3, _ => rfl
    | 4, _ => rfl
    | 5, _ => rfl
    | 6, _ => rfl
    | 7, _ => rfl
    | 8, _ => rfl
    | 9, _ => rfl
    | 10, _ => rfl
    | 11, _ => rfl
    | 12, _ => rfl
    | 13, _ => rfl
    | 14, hci =>
      have hik : ¬ i = 0 := fun q => hci (by rw [q])
      show (if i = 0 then some _ else none) = (if i = 0 then some _ else none)
      rw [if_neg hik, if_neg hik]
    | 15, _ =>
      by_cases h9 : i < 9
      · show (if i < 9 then some _ else none) = (if i < 9 then some _ else none)
        rw [if_pos h9, if_pos h9, show si A 18 0 v i = A i from if_neg (by omega)]
      · show (if i < 9 then some _ else none) = (if i < 9 then some _ else none)
        rw [if_neg h9, if_neg h9]
    | 16, _ => rfl
    | 17, _ => rfl
    | 18, _ => rfl
    | 19, _ => rfl
    | 20, _ => rfl
    | n + 21, _ => rfl
theorem u_ra0 (j : Nat) (v : Int32) : x_up (hp N I J P V A B) (15, 0) (.inl (0, 120, .inl (x_uf (A 0) j v))) = hp N I J P V (si A 0 j v) B := by
  funext a
  obtain ⟨c, i⟩ := a
  by_cases hci : (c, i) = (15, 0)
  · cases hci
    rw [x_up_self]
    rfl
  · rw [x_up_ne _ _ hci]
    match c, hci with
    | 0, _ => rfl
    | 1, _ => rfl
    | 2, _ => rfl
    | 3, _ => rfl
    | 4, _ => rfl
    | 5, _ => rfl
    | 6, _ => rfl
    | 7, _ => rfl
    | 8, _ => rfl
    | 9, _ => rfl
    | 10, _ => rfl
    | 11, _ => rfl
    | 12, _ => rfl
    | 13, _ => rfl
    | 14, _ => rfl
    | 15, hci =>
      have hik : ¬ i = 0 := fun q => hci (by rw [q])
      have he : si A 0 j v i = A i := by simp [e_O, e_A, e_B, e_D, si, sj, sp, x_uf, hik]
      exact congrArg (fun e => if i < 9 then some ((.inl (0, 120, .inl e)) : xE) else none) he.symm
    | 16, _ => rfl
    | 17, _ => rfl
    | 18, _ => rfl
    | 19, _ => rfl
    | 20, _ => rfl
    | n + 21, _ => rfl
theorem u_ra1 (j : Nat) (v : Int32) : x_up (hp N I J P V A B) (15, 1) (.inl (0, 120, .inl (x_uf (A 1) j v))) = hp N I J P V (si A 1 j v) B := by
  funext a
  obtain ⟨c, i⟩ := a
  by_cases hci : (c, i) = (15, 1)
  · cases hci
    rw [x_up_self]
    rfl
  · rw [x_up_ne _ _ hci]
    match c, hci with
    | 0, _ => rfl
    | 1, _ => rfl
    | 2, _ => rfl
    | 3, _ => rfl
    | 4, _ => rfl
    | 5, _ => rfl
    | 6, _ => rfl
    | 7, _ => rfl
    | 8, _ => rfl
    | 9, _ => rfl
    | 10, _ => rfl
    | 11, _ => rfl
    | 12, _ => rfl
    | 13, _ => rfl
    | 14, _ => rfl
    | 15, hci =>
      have hik : ¬ i = 1 := fun q => hci (by rw [q])
      have he : si A 1 j v i = A i := by simp [e_O, e_A, e_B, e_D, si, sj, sp, x_uf, hik]
      exact congrArg (fun e => if i < 9 then some ((.inl (0, 120, .inl e)) : xE) else none) he.symm
    | 16, _ => rfl
    | 17, _ => rfl
    | 18, _ => rfl
    | 19, _ => rfl
    | 20, _ => rfl
    | n + 21, _ => rfl
theorem u_ra2 (j : Nat) (v : Int32) : x_up (hp N I J P V A B) (15, 2) (.inl (0, 120, .inl (x_uf (A 2) j v))) = hp N I J P V (si A 2 j v) B := by
  funext a
  obtain ⟨c, i⟩ := a
  by_cases hci : (c, i) = (15, 2)
  · cases hci
    rw [x_up_self]
    rfl
  · rw [x_up_ne _ _ hci]
    match c, hci with
    | 0, _ => rfl
    | 1, _ => rfl
    | 2, _ => rfl
    | 3, _ => rfl
    | 4, _ => rfl
    | 5, _ => rfl
    | 6, _ => rfl
    | 7, _ => rfl
    | 8, _ => rfl
    | 9, _ => rfl
    | 10, _ => rfl
    | 11, _ => rfl
    | 12, _ => rfl
    | 13, _ => rfl
    | 14, _ => rfl
    | 15, hci =>
      have hik : ¬ i = 2 := fun q => hci (by rw [q])
      have he : si A 2 j v i = A i := by simp [e_O, e_A, e_B, e_D, si, sj, sp, x_uf, hik]
      exact congrArg (fun e => if i < 9 then some ((.inl (0, 120, .inl e)) : xE) else none) he.symm
    | 16, _ => rfl
    | 17, _ => rfl
    | 18, _ => rfl
    | 19, _ => rfl
    | 20, _ => rfl
    | n + 21, _ => rfl
theorem u_ra3 (j : Nat) (v : Int32) : x_up (hp N I J P V A B) (15, 3) (.inl (0, 120, .inl (x_uf (A 3) j v))) = hp N I J P V (si A 3 j v) B := by
  funext a
  obtain ⟨c, i⟩ := a
  by_cases hci : (c, i) = (15, 3)
  · cases hci
    rw [x_up_self]
    rfl
  · rw [x_up_ne _ _ hci]
    match c, hci with
    | 0, _ => rfl
    | 1, _ => rfl
    | 2, _ => rfl
    | 3, _ => rfl
    | 4, _ => rfl
    | 5, _ => rfl
    | 6, _ => rfl
    | 7, _ => rfl
    | 8, _ => rfl
    | 9, _ => rfl
    | 10, _ => rfl
    | 11, _ => rfl
    | 12, _ => rfl
    | 13, _ => rfl
    | 14, _ => rfl
    | 15, hci =>
      have hik : ¬ i = 3 := fun q => hci (by rw [q])
      have he : si A 3 j v i = A i := by simp [e_O, e_A, e_B, e_D, si, sj, sp, x_uf, hik]
      exact congrArg (fun e => if i < 9 then some ((.inl (0, 120, .inl e)) : xE) else none) he.symm
    | 16, _ => rfl
    | 17, _ => rfl
    | 18, _ => rfl
    | 19, _ => rfl
    | 20, _ => rfl
    | n + 21, _ => rfl
theorem u_ra4 (j : Nat) (v : Int32) : x_up (hp N I J P V A B) (15, 4) (.inl (0, 120, .inl (x_uf (A 4) j v))) = hp N I J P V (si A 4 j v) B := by
  funext a
  obtain ⟨c, i⟩ := a
  by_cases hci : (c, i) = (15, 4)
  · cases hci
    rw [x_up_self]
    rfl
  · rw [x_up_ne _ _ hci]
    match c, hci with
    | 0, _ => rfl
    | 1, _ => rfl
    | 2, _ => rfl
    | 3, _ => rfl
    | 4, _ => rfl
    | 5, _ => rfl
    | 6, _ => rfl
    | 7, _ => rfl
    | 8, _ => rfl
    | 9, _ => rfl
    | 10, _ => rfl
    | 11, _ => rfl
    | 12, _ => rfl
    | 13, _ => rfl
    | 14, _ => rfl
    | 15, hci =>
      have hik : ¬ i = 4 := fun q => hci (by rw [q])
      have he : si A 4 j v i = A i := by simp [e_O, e_A, e_B, e_D, si, sj, sp, x_uf, hik]
      exact congrArg (fun e => if i < 9 then some ((.inl (0, 120, .inl e)) : xE) else none) he.symm
    | 16, _ => rfl
    | 17, _ => rfl
    | 18, _ => rfl
    | 19, _ => rfl
    | 20, _ => rfl
    | n + 21, _ => rfl
theorem u_ra5 (j : Nat) (v : Int32) : x_up (hp N I J P V A B) (15, 5) (.inl (0, 120, .inl (x_uf (A 5) j v))) = hp N I J P V (si A 5 j v) B := by
  funext a
  obtain ⟨c, i⟩ := a
  by_cases hci : (c, i) = (15, 5)
  · cases hci
    rw [x_up_self]
    rfl
  · rw [x_up_ne _ _ hci]
    match c, hci with
    | 0, _ => rfl
    | 1, _ => rfl
    | 2, _ => rfl
    | 3, _ => rfl
    | 4, _ => rfl
    | 5, _ => rfl
    | 6, _ => rfl
    | 7, _ => rfl
    | 8, _ => rfl
    | 9, _ => rfl
    | 10, _ => rfl
    | 11, _ => rfl
    | 12, _ => rfl
    | 13, _ => rfl
    | 14, _ => rfl
    | 15, hci =>
      have hik : ¬ i = 5 := fun q => hci (by rw [q])
      have he : si A 5 j v i = A i := by simp [e_O, e_A, e_B, e_D, si, sj, sp, x_uf, hik]
      exact congrArg (fun e => if i < 9 then some ((.inl (0, 120, .inl e)) : xE) else none) he.symm
    | 16, _ => rfl
    | 17, _ => rfl
    | 18, _ => rfl
    | 19, _ => rfl
    | 20, _ => rfl
    | n + 21, _ => rfl
theorem u_ra6 (j : Nat) (v : Int32) : x_up (hp N I J P V A B) (15, 6) (.inl (0, 120, .inl (x_uf (A 6) j v))) = hp N I J P V (si A 6 j v) B := by
  funext a
  obtain ⟨c, i⟩ := a
  by_cases hci : (c, i) = (15, 6)
  · cases hci
    rw [x_up_self]
    rfl
  · rw [x_up_ne _ _ hci]
    match c, hci with
    | 0, _ => rfl
    | 1, _ => rfl
    | 2, _ => rfl
    | 3, _ => rfl
    | 4, _ => rfl
    | 5, _ => rfl
    | 6, _ => rfl
    | 7, _ => rfl
    | 8, _ => rfl
    | 9, _ => rfl
    | 10, _ => rfl
    | 11, _ => rfl
    | 12, _ => rfl
    | 13, _ => rfl
    | 14, _ => rfl
    | 15, hci =>
      have hik : ¬ i = 6 := fun q => hci (by rw [q])
      have he : si A 6 j v i = A i := by simp [e_O, e_A, e_B, e_D, si, sj, sp, x_uf, hik]
      exact congrArg (fun e => if i < 9 then some ((.inl (0, 120, .inl e)) : xE) else none) he.symm
    | 16, _ => rfl
    | 17, _ => rfl
    | 18, _ => rfl
    | 19, _ => rfl
    | 20, _ => rfl
    | n + 21, _ => rfl
theorem u_ra7 (j : Nat) (v : Int32) : x_up (hp N I J P V A B) (15, 7) (.inl (0, 120, .inl (x_uf (A 7) j v))) = hp N I J P V (si A 7 j v) B := by
  funext a
  obtain ⟨c, i⟩ := a
  by_cases hci : (c, i) = (15, 7)
  · cases hci
    rw [x_up_self]
    rfl
  · rw [x_up_ne _ _ hci]
    match c, hci with
    | 0, _ => rfl
    | 1, _ => rfl
    | 2, _ => rfl
    | 3, _ => rfl
    | 4, _ => rfl
    | 5, _ => rfl
    | 6, _ => rfl
    | 7, _ => rfl
    | 8, _ => rfl
    | 9, _ => rfl
    | 10, _ => rfl
    | 11, _ => rfl
    | 12, _ => rfl
    | 13, _ => rfl
    | 14, _ => rfl
    | 15, hci =>
      have hik : ¬ i = 7 := fun q => hci (by rw [q])
      have he : si A 7 j v i = A i := by simp [e_O, e_A, e_B, e_D, si, sj, sp, x_uf, hik]
      exact congrArg (fun e => if i < 9 then some ((.inl (0, 120, .inl e)) : xE) else none) he.symm
    | 16, _ => rfl
    | 17, _ => rfl
    | 18, _ => rfl
    | 19, _ => rfl
    | 20, _ => rfl
    | n + 21, _ => rfl
theorem u_ra8 (j : Nat) (v : Int32) : x_up (hp N I J P V A B) (15, 8) (.inl (0, 120, .inl (x_uf (A 8) j v))) = hp N I J P V (si A 8 j v) B := by
  funext a
  obtain ⟨c, i⟩ := a
  by_cases hci : (c, i) = (15, 8)
  · cases hci
    rw [x_up_self]
    rfl
  · rw [x_up_ne _ _ hci]
    match c, hci with
    | 0, _ => rfl
    | 1, _ => rfl
    | 2, _ => rfl
    | 3, _ => rfl
    | 4, _ => rfl
    | 5, _ => rfl
    | 6, _ => rfl
    | 7, _ => rfl
    | 8, _ => rfl
    | 9, _ => rfl
    | 10, _ => rfl
    | 11, _ => rfl
    | 12, _ => rfl
    | 13, _ => rfl
    | 14, _ => rfl
    | 15, hci =>
      have hik : ¬ i = 8 := fun q => hci (by rw [q])
      have he : si A 8 j v i = A i := by simp [e_O, e_A, e_B, e_D, si, sj, sp, x_uf, hik]
      exact congrArg (fun e => if i < 9 then some ((.inl (0, 120, .inl e)) : xE) else none) he.symm
    | 16, _ => rfl
    | 17, _ => rfl
    | 18, _ => rfl
    | 19, _ => rfl
    | 20, _ => rfl
    | n + 21, _ => rfl
theorem u_rl0 (j : Nat) (v : Int64) : x_up (hp N I J P V A B) (16, 0) (.inl (1, 5, .inr (.inl (x_uf (B 0) j v)))) = hp N I J P V A (sj B 0 j v) := by
  funext a
  obtain ⟨c, i⟩ := a
  by_cases hci : (c, i) = (16, 0)
  · cases hci
    rw [x_up_self]
    rfl
  · rw [x_up_ne _ _ hci]
    match c, hci with
    | 0, _ => rfl
    | 1, _ => rfl
    | 2, _ => rfl
    | 3, _ => rfl
    | 4, _ => rfl
    | 5, _ => rfl
    | 6, _ => rfl
    | 7, _ => rfl
    | 8, _ => rfl
    | 9, _ => rfl
    | 10, _ => rfl
    | 11, _ => rfl
    | 12, _ => rfl
    | 13, _ => rfl
    | 14, _ => rfl
    | 15, _ => rfl
    | 16, hci =>
      have hik : ¬ i = 0 := fun q => hci (by rw [q])
      have he : sj B 0 j v i = B i := by simp [e_O, e_A, e_B, e_D, si, sj, sp, x_uf, hik]
      exact congrArg (fun e => if i < 2 then some ((.inl (1, 5, .inr (.inl e))) : xE) else none) he.symm
    | 17, _ => rfl
    | 18, _ => rfl
    | 19, _ => rfl
    | 20, _ => rfl
    | n + 21, _ => rfl
theorem u_rl1 (j : Nat) (v : Int64) : x_up (hp N I J P V A B) (16, 1) (.inl (1, 5, .inr (.inl (x_uf (B 1) j v)))) = hp N I J P V A (sj B 1 j v) := by
  funext a
  obtain ⟨c, i⟩ := a
  by_cases hci : (c, i) = (16, 1)
  · cases hci
    rw [x_up_self]
    rfl
  · rw [x_up_ne _ _ hci]
    match c, hci with
    | 0, _ => rfl
    | 1, _ => rfl
    | 2, _ => rfl
    | 3, _ => rfl
    | 4, _ => rfl
    | 5, _ => rfl
    | 6, _ => rfl
    | 7, _ => rfl
    | 8, _ => rfl
    | 9, _ => rfl
    | 10, _ => rfl
    | 11, _ => rfl
    | 12, _ => rfl
    | 13, _ => rfl
    | 14, _ => rfl
    | 15, _ => rfl
    | 16, hci =>
      have hik : ¬ i = 1 := fun q => hci (by rw [q])
      have he : sj B 1 j v i = B i := by simp [e_O, e_A, e_B, e_D, si, sj, sp, x_uf, hik]
      exact congrArg (fun e => if i < 2 then some ((.inl (1, 5, .inr (.inl e))) : xE) else none) he.symm
    | 17, _ => rfl
    | 18, _ => rfl
    | 19, _ => rfl
    | 20, _ => rfl
    | n + 21, _ => rfl
theorem u_held (j : Nat) (v : Int32) : x_up (hp N I J P V A B) (17, 0) (.inl (0, 10, .inl (x_uf (A 9) j v))) = hp N I J P V (si A 9 j v) B := by
  funext a
  obtain ⟨c, i⟩ := a
  by_cases hci : (c, i) = (17, 0)
  · cases hci
    rw [x_up_self]
    rfl
  · rw [x_up_ne _ _ hci]
    match c, hci with
    | 0, _ => rfl
    | 1, _ => rfl
    | 2, _ => rfl
    | 3, _ => rfl
    | 4, _ => rfl
    | 5, _ => rfl
    | 6, _ => rfl
    | 7, _ => rfl
    | 8, _ => rfl
    | 9, _ => rfl
    | 10, _ => rfl
    | 11, _ => rfl
    | 12, _ => rfl
    | 13, _ => rfl
    | 14, _ => rfl
    | 15, _ =>
      by_cases h9 : i < 9
      · show (if i < 9 then some _ else none) = (if i < 9 then some _ else none)
        rw [if_pos h9, if_pos h9, show si A 9 j v i = A i from if_neg (by omega)]
      · show (if i < 9 then some _ else none) = (if i < 9 then some _ else none)
        rw [if_neg h9, if_neg h9]
    | 16, _ => rfl
    | 17, hci =>
      have hik : ¬ i = 0 := fun q => hci (by rw [q])
      show (if i = 0 then some _ else none) = (if i = 0 then some _ else none)
      rw [if_neg hik, if_neg hik]
    | 18, _ => rfl
    | 19, _ => rfl
    | 20, _ => rfl
    | n + 21, _ => rfl
theorem u_isOpen (j : Nat) (v : Int32) : x_up (hp N I J P V A B) (18, 0) (.inl (2, 2, .inl (x_uf (A 10) j v))) = hp N I J P V (si A 10 j v) B := by
  funext a
  obtain ⟨c, i⟩ := a
  by_cases hci : (c, i) = (18, 0)
  · cases hci
    rw [x_up_self]
    rfl
  · rw [x_up_ne _ _ hci]
    match c, hci with
    | 0, _ => rfl
    | 1, _ => rfl
    | 2, _ => rfl
    | 3, _ => rfl
    | 4, _ => rfl
    | 5, _ => rfl
    | 6, _ => rfl
    | 7, _ => rfl
    | 8, _ => rfl
    | 9, _ => rfl
    | 10, _ => rfl
    | 11, _ => rfl
    | 12, _ => rfl
    | 13, _ => rfl
    | 14, _ => rfl
    | 15, _ =>
      by_cases h9 : i < 9
      · show (if i < 9 then some _ else none) = (if i < 9 then some _ else none)
        rw [if_pos h9, if_pos h9, show si A 10 j v i = A i from if_neg (by omega)]
      · show (if i < 9 then some _ else none) = (if i < 9 then some _ else none)
        rw [if_neg h9, if_neg h9]
    | 16, _ => rfl
    | 17, _ => rfl
    | 18, hci =>
      have hik : ¬ i = 0 := fun q => hci (by rw [q])
      show (if i = 0 then some _ else none) = (if i = 0 then some _ else none)
      rw [if_neg hik, if_neg hik]
    | 19, _ => rfl
    | 20, _ => rfl
    | n + 21, _ => rfl
theorem u_ref (j : Nat) (v : Int32) : x_up (hp N I J P V A B) (19, 0) (.inl (0, 2, .inl (x_uf (A 11) j v))) = hp N I J P V (si A 11 j v) B := by
  funext a
  obtain ⟨c, i⟩ := a
  by_cases hci : (c, i) = (19, 0)
  · cases hci
    rw [x_up_self]
    rfl
  · rw [x_up_ne _ _ hci]
    match c, hci with
    | 0, _ => rfl
    | 1, _ => rfl
    | 2, _ => rfl
    | 3, _ => rfl
    | 4, _ => rfl
    | 5, _ => rfl
    | 6, _ => rfl
    | 7, _ => rfl
    | 8, _ => rfl
    | 9, _ => rfl
    | 10, _ => rfl
    | 11, _ => rfl
    | 12, _ => rfl
    | 13, _ => rfl
    | 14, _ => rfl
    | 15, _ =>
      by_cases h9 : i < 9
      · show (if i < 9 then some _ else none) = (if i < 9 then some _ else none)
        rw [if_pos h9, if_pos h9, show si A 11 j v i = A i from if_neg (by omega)]
      · show (if i < 9 then some _ else none) = (if i < 9 then some _ else none)
        rw [if_neg h9, if_neg h9]
    | 16, _ => rfl
    | 17, _ => rfl
    | 18, _ => rfl
    | 19, hci =>
      have hik : ¬ i = 0 := fun q => hci (by rw [q])
      show (if i = 0 then some _ else none) = (if i = 0 then some _ else none)
      rw [if_neg hik, if_neg hik]
    | 20, _ => rfl
    | n + 21, _ => rfl
theorem u_rec (j : Nat) (v : Int32) : x_up (hp N I J P V A B) (20, 0) (.inl (0, 400, .inl (x_uf (A 12) j v))) = hp N I J P V (si A 12 j v) B := by
  funext a
  obtain ⟨c, i⟩ := a
  by_cases hci : (c, i) = (20, 0)
  · cases hci
    rw [x_up_self]
    rfl
  · rw [x_up_ne _ _ hci]
    match c, hci with
    | 0, _ => rfl
    | 1, _ => rfl
    | 2, _ => rfl
    | 3, _ => rfl
    | 4, _ => rfl
    | 5, _ => rfl
    | 6, _ => rfl
    | 7, _ => rfl
    | 8, _ => rfl
    | 9, _ => rfl
    | 10, _ => rfl
    | 11, _ => rfl
    | 12, _ => rfl
    | 13, _ => rfl
    | 14, _ => rfl
    | 15, _ =>
      by_cases h9 : i < 9
      · show (if i < 9 then some _ else none) = (if i < 9 then some _ else none)
        rw [if_pos h9, if_pos h9, show si A 12 j v i = A i from if_neg (by omega)]
      · show (if i < 9 then some _ else none) = (if i < 9 then some _ else none)
        rw [if_neg h9, if_neg h9]
    | 16, _ => rfl
    | 17, _ => rfl
    | 18, _ => rfl
    | 19, _ => rfl
    | 20, hci =>
      have hik : ¬ i = 0 := fun q => hci (by rw [q])
      show (if i = 0 then some _ else none) = (if i = 0 then some _ else none)
      rw [if_neg hik, if_neg hik]
    | n + 21, _ => rfl
end HP
end
section
theorem fA_15 : x_fl "CallMarket$Account" 15 0 1 := ⟨RA, TA, 3, rfl, uA, by decide, w_at 86 (by decide +kernel) rfl⟩
theorem fA_19 : x_fl "CallMarket$Account" 19 0 2 := ⟨RA, TA, 3, rfl, uA, by decide, w_at 88 (by decide +kernel) rfl⟩
theorem fA_9 : x_fl "CallMarket$Account" 9 0 0 := ⟨RA, TA, 3, rfl, uA, by decide, w_at 84 (by decide +kernel) rfl⟩
theorem fB_12 : x_fl "CallMarket$Book" 12 1 0 := ⟨RB, TB, 4, rfl, uB, by decide, w_at 115 (by decide +kernel) rfl⟩
theorem fB_18 : x_fl "CallMarket$Book" 18 1 1 := ⟨RB, TB, 4, rfl, uB, by decide, w_at 118 (by decide +kernel) rfl⟩
theorem fB_21 : x_fl "CallMarket$Book" 21 1 2 := ⟨RB, TB, 4, rfl, uB, by decide, w_at 121 (by decide +kernel) rfl⟩
theorem fB_25 : x_fl "CallMarket$Book" 25 1 3 := ⟨RB, TB, 4, rfl, uB, by decide, w_at 123 (by decide +kernel) rfl⟩
theorem fB_29 : x_fl "CallMarket$Book" 29 2 3 := ⟨RO, TO, 10, rfl, uO, by decide, w_at 217 (by decide +kernel) rfl⟩
theorem fB_38 : x_fl "CallMarket$Book" 38 2 4 := ⟨RO, TO, 10, rfl, uO, by decide, w_at 220 (by decide +kernel) rfl⟩
theorem fB_41 : x_fl "CallMarket$Book" 41 4 0 := ⟨RD, TD, 1, rfl, uD, by decide, w_at 109 (by decide +kernel) rfl⟩
theorem fB_45 : x_fl "CallMarket$Book" 45 2 5 := ⟨RO, TO, 10, rfl, uO, by decide, w_at 223 (by decide +kernel) rfl⟩
theorem fB_56 : x_fl "CallMarket$Book" 56 2 6 := ⟨RO, TO, 10, rfl, uO, by decide, w_at 229 (by decide +kernel) rfl⟩
theorem fO_15 : x_fl "CallMarket$Order" 15 2 8 := ⟨RO, TO, 10, rfl, uO, by decide, w_at 235 (by decide +kernel) rfl⟩
theorem fO_18 : x_fl "CallMarket$Order" 18 2 9 := ⟨RO, TO, 10, rfl, uO, by decide, w_at 238 (by decide +kernel) rfl⟩
theorem fO_22 : x_fl "CallMarket$Order" 22 2 0 := ⟨RO, TO, 10, rfl, uO, by decide, w_at 209 (by decide +kernel) rfl⟩
theorem fO_25 : x_fl "CallMarket$Order" 25 2 1 := ⟨RO, TO, 10, rfl, uO, by decide, w_at 211 (by decide +kernel) rfl⟩
theorem fO_28 : x_fl "CallMarket$Order" 28 2 2 := ⟨RO, TO, 10, rfl, uO, by decide, w_at 214 (by decide +kernel) rfl⟩
theorem fO_35 : x_fl "CallMarket$Order" 35 2 3 := ⟨RO, TO, 10, rfl, uO, by decide, w_at 216 (by decide +kernel) rfl⟩
theorem fO_41 : x_fl "CallMarket$Order" 41 2 4 := ⟨RO, TO, 10, rfl, uO, by decide, w_at 219 (by decide +kernel) rfl⟩
theorem fO_44 : x_fl "CallMarket$Order" 44 2 5 := ⟨RO, TO, 10, rfl, uO, by decide, w_at 222 (by decide +kernel) rfl⟩
theorem fO_47 : x_fl "CallMarket$Order" 47 2 6 := ⟨RO, TO, 10, rfl, uO, by decide, w_at 227 (by decide +kernel) rfl⟩
theorem fO_9 : x_fl "CallMarket$Order" 9 2 7 := ⟨RO, TO, 10, rfl, uO, by decide, w_at 232 (by decide +kernel) rfl⟩
theorem fS_15 : x_fl "CallMarket$Scale" 15 3 1 := ⟨RS, TS, 2, rfl, uS, by decide, w_at 73 (by decide +kernel) rfl⟩
theorem fS_34 : x_fl "CallMarket$Scale" 34 1 3 := ⟨RB, TB, 4, rfl, uB, by decide, w_at 124 (by decide +kernel) rfl⟩
theorem fS_54 : x_fl "CallMarket$Scale" 54 1 0 := ⟨RB, TB, 4, rfl, uB, by decide, w_at 116 (by decide +kernel) rfl⟩
theorem fS_58 : x_fl "CallMarket$Scale" 58 4 0 := ⟨RD, TD, 1, rfl, uD, by decide, w_at 110 (by decide +kernel) rfl⟩
theorem fS_64 : x_fl "CallMarket$Scale" 64 2 5 := ⟨RO, TO, 10, rfl, uO, by decide, w_at 225 (by decide +kernel) rfl⟩
theorem fS_69 : x_fl "CallMarket$Scale" 69 2 6 := ⟨RO, TO, 10, rfl, uO, by decide, w_at 231 (by decide +kernel) rfl⟩
theorem fS_72 : x_fl "CallMarket$Scale" 72 2 9 := ⟨RO, TO, 10, rfl, uO, by decide, w_at 240 (by decide +kernel) rfl⟩
theorem fS_75 : x_fl "CallMarket$Scale" 75 1 1 := ⟨RB, TB, 4, rfl, uB, by decide, w_at 119 (by decide +kernel) rfl⟩
theorem fS_9 : x_fl "CallMarket$Scale" 9 3 0 := ⟨RS, TS, 2, rfl, uS, by decide, w_at 72 (by decide +kernel) rfl⟩
theorem fD_19 : x_fl "CallMarket$Side" 19 2 9 := ⟨RO, TO, 10, rfl, uO, by decide, w_at 239 (by decide +kernel) rfl⟩
theorem fD_28 : x_fl "CallMarket$Side" 28 2 1 := ⟨RO, TO, 10, rfl, uO, by decide, w_at 212 (by decide +kernel) rfl⟩
theorem fD_32 : x_fl "CallMarket$Side" 32 2 6 := ⟨RO, TO, 10, rfl, uO, by decide, w_at 228 (by decide +kernel) rfl⟩
theorem fD_35 : x_fl "CallMarket$Side" 35 2 5 := ⟨RO, TO, 10, rfl, uO, by decide, w_at 224 (by decide +kernel) rfl⟩
theorem fD_42 : x_fl "CallMarket$Side" 42 2 7 := ⟨RO, TO, 10, rfl, uO, by decide, w_at 234 (by decide +kernel) rfl⟩
theorem fD_45 : x_fl "CallMarket$Side" 45 2 8 := ⟨RO, TO, 10, rfl, uO, by decide, w_at 236 (by decide +kernel) rfl⟩
theorem fD_9 : x_fl "CallMarket$Side" 9 4 0 := ⟨RD, TD, 1, rfl, uD, by decide, w_at 108 (by decide +kernel) rfl⟩
theorem fT_15 : x_fl "CallMarket$Tape" 15 5 1 := ⟨RT, TT, 2, rfl, uT, by decide, w_at 58 (by decide +kernel) rfl⟩
theorem fT_9 : x_fl "CallMarket$Tape" 9 5 0 := ⟨RT, TT, 2, rfl, uT, by decide, w_at 57 (by decide +kernel) rfl⟩
theorem fC_107 : x_fl "CallMarket" 107 2 6 := ⟨RO, TO, 10, rfl, uO, by decide, w_at 230 (by decide +kernel) rfl⟩
theorem fC_11 : x_fl "CallMarket" 11 6 0 := ⟨RC, TC, 6, rfl, uC, by decide, w_at 135 (by decide +kernel) rfl⟩
theorem fC_110 : x_fl "CallMarket" 110 2 7 := ⟨RO, TO, 10, rfl, uO, by decide, w_at 233 (by decide +kernel) rfl⟩
theorem fC_140 : x_fl "CallMarket" 140 4 0 := ⟨RD, TD, 1, rfl, uD, by decide, w_at 111 (by decide +kernel) rfl⟩
theorem fC_146 : x_fl "CallMarket" 146 2 5 := ⟨RO, TO, 10, rfl, uO, by decide, w_at 226 (by decide +kernel) rfl⟩
theorem fC_157 : x_fl "CallMarket" 157 2 8 := ⟨RO, TO, 10, rfl, uO, by decide, w_at 237 (by decide +kernel) rfl⟩
theorem fC_160 : x_fl "CallMarket" 160 2 2 := ⟨RO, TO, 10, rfl, uO, by decide, w_at 215 (by decide +kernel) rfl⟩
theorem fC_163 : x_fl "CallMarket" 163 2 3 := ⟨RO, TO, 10, rfl, uO, by decide, w_at 218 (by decide +kernel) rfl⟩
theorem fC_166 : x_fl "CallMarket" 166 5 1 := ⟨RT, TT, 2, rfl, uT, by decide, w_at 59 (by decide +kernel) rfl⟩
theorem fC_17 : x_fl "CallMarket" 17 6 1 := ⟨RC, TC, 6, rfl, uC, by decide, w_at 136 (by decide +kernel) rfl⟩
theorem fC_175 : x_fl "CallMarket" 175 0 0 := ⟨RA, TA, 3, rfl, uA, by decide, w_at 85 (by decide +kernel) rfl⟩
theorem fC_179 : x_fl "CallMarket" 179 0 2 := ⟨RA, TA, 3, rfl, uA, by decide, w_at 89 (by decide +kernel) rfl⟩
theorem fC_185 : x_fl "CallMarket" 185 2 1 := ⟨RO, TO, 10, rfl, uO, by decide, w_at 213 (by decide +kernel) rfl⟩
theorem fC_188 : x_fl "CallMarket" 188 1 0 := ⟨RB, TB, 4, rfl, uB, by decide, w_at 117 (by decide +kernel) rfl⟩
theorem fC_195 : x_fl "CallMarket" 195 1 1 := ⟨RB, TB, 4, rfl, uB, by decide, w_at 120 (by decide +kernel) rfl⟩
theorem fC_210 : x_fl "CallMarket" 210 2 4 := ⟨RO, TO, 10, rfl, uO, by decide, w_at 221 (by decide +kernel) rfl⟩
theorem fC_23 : x_fl "CallMarket" 23 6 2 := ⟨RC, TC, 6, rfl, uC, by decide, w_at 137 (by decide +kernel) rfl⟩
theorem fC_244 : x_fl "CallMarket" 244 1 3 := ⟨RB, TB, 4, rfl, uB, by decide, w_at 125 (by decide +kernel) rfl⟩
theorem fC_30 : x_fl "CallMarket" 30 6 3 := ⟨RC, TC, 6, rfl, uC, by decide, w_at 138 (by decide +kernel) rfl⟩
theorem fC_37 : x_fl "CallMarket" 37 6 4 := ⟨RC, TC, 6, rfl, uC, by decide, w_at 139 (by decide +kernel) rfl⟩
theorem fC_41 : x_fl "CallMarket" 41 6 5 := ⟨RC, TC, 6, rfl, uC, by decide, w_at 140 (by decide +kernel) rfl⟩
theorem fC_53 : x_fl "CallMarket" 53 0 1 := ⟨RA, TA, 3, rfl, uA, by decide, w_at 87 (by decide +kernel) rfl⟩
theorem fC_74 : x_fl "CallMarket" 74 1 2 := ⟨RB, TB, 4, rfl, uB, by decide, w_at 122 (by decide +kernel) rfl⟩
theorem fC_96 : x_fl "CallMarket" 96 2 0 := ⟨RO, TO, 10, rfl, uO, by decide, w_at 210 (by decide +kernel) rfl⟩
theorem fR_128 : x_fl "CallMarketModel" 128 7 18 := ⟨RR, TR, 21, rfl, uR, by decide, w_at 494 (by decide +kernel) rfl⟩
theorem fR_13 : x_fl "CallMarketModel" 13 7 2 := ⟨RR, TR, 21, rfl, uR, by decide, w_at 478 (by decide +kernel) rfl⟩
theorem fR_131 : x_fl "CallMarketModel" 131 7 19 := ⟨RR, TR, 21, rfl, uR, by decide, w_at 495 (by decide +kernel) rfl⟩
theorem fR_134 : x_fl "CallMarketModel" 134 7 20 := ⟨RR, TR, 21, rfl, uR, by decide, w_at 496 (by decide +kernel) rfl⟩
theorem fR_16 : x_fl "CallMarketModel" 16 7 3 := ⟨RR, TR, 21, rfl, uR, by decide, w_at 479 (by decide +kernel) rfl⟩
theorem fR_19 : x_fl "CallMarketModel" 19 7 4 := ⟨RR, TR, 21, rfl, uR, by decide, w_at 480 (by decide +kernel) rfl⟩
theorem fR_22 : x_fl "CallMarketModel" 22 7 5 := ⟨RR, TR, 21, rfl, uR, by decide, w_at 481 (by decide +kernel) rfl⟩
theorem fR_25 : x_fl "CallMarketModel" 25 7 6 := ⟨RR, TR, 21, rfl, uR, by decide, w_at 482 (by decide +kernel) rfl⟩
theorem fR_28 : x_fl "CallMarketModel" 28 7 7 := ⟨RR, TR, 21, rfl, uR, by decide, w_at 483 (by decide +kernel) rfl⟩
theorem fR_31 : x_fl "CallMarketModel" 31 7 8 := ⟨RR, TR, 21, rfl, uR, by decide, w_at 484 (by decide +kernel) rfl⟩
theorem fR_34 : x_fl "CallMarketModel" 34 7 9 := ⟨RR, TR, 21, rfl, uR, by decide, w_at 485 (by decide +kernel) rfl⟩
theorem fR_37 : x_fl "CallMarketModel" 37 7 11 := ⟨RR, TR, 21, rfl, uR, by decide, w_at 487 (by decide +kernel) rfl⟩
theorem fR_41 : x_fl "CallMarketModel" 41 7 12 := ⟨RR, TR, 21, rfl, uR, by decide, w_at 488 (by decide +kernel) rfl⟩
theorem fR_44 : x_fl "CallMarketModel" 44 7 13 := ⟨RR, TR, 21, rfl, uR, by decide, w_at 489 (by decide +kernel) rfl⟩
theorem fR_47 : x_fl "CallMarketModel" 47 7 14 := ⟨RR, TR, 21, rfl, uR, by decide, w_at 490 (by decide +kernel) rfl⟩
theorem fR_51 : x_fl "CallMarketModel" 51 7 15 := ⟨RR, TR, 21, rfl, uR, by decide, w_at 491 (by decide +kernel) rfl⟩
theorem fR_54 : x_fl "CallMarketModel" 54 7 17 := ⟨RR, TR, 21, rfl, uR, by decide, w_at 493 (by decide +kernel) rfl⟩
theorem fR_57 : x_fl "CallMarketModel" 57 7 0 := ⟨RR, TR, 21, rfl, uR, by decide, w_at 476 (by decide +kernel) rfl⟩
theorem fR_68 : x_fl "CallMarketModel" 68 7 10 := ⟨RR, TR, 21, rfl, uR, by decide, w_at 486 (by decide +kernel) rfl⟩
theorem fR_7 : x_fl "CallMarketModel" 7 7 1 := ⟨RR, TR, 21, rfl, uR, by decide, w_at 477 (by decide +kernel) rfl⟩
theorem fR_71 : x_fl "CallMarketModel" 71 7 16 := ⟨RR, TR, 21, rfl, uR, by decide, w_at 492 (by decide +kernel) rfl⟩
theorem jC_1 : Cond.methodLink "CallMarket" 1 Lib.objectInit ∈ wsA := w_at 42 (by decide +kernel) rfl
theorem aC_init_9 : Cond.classLink mC_init.1.cls 9 "CallMarket$Account" ∈ wsA := w_at 45 (by decide +kernel) rfl
theorem pC_init_11 : x_pl mC_init 11 6 0 (.array (.object "CallMarket$Account")) := ⟨RC, TC, 6, tyC, rfl, uC, by decide, w_at 135 (by decide +kernel) rfl, tyC_ok, nmC, by decide +kernel, Or.inr ⟨rfl, rfl, rfl⟩⟩
theorem aC_init_15 : Cond.classLink mC_init.1.cls 15 "CallMarket$Book" ∈ wsA := w_at 47 (by decide +kernel) rfl
theorem pC_init_17 : x_pl mC_init 17 6 1 (.array (.object "CallMarket$Book")) := ⟨RC, TC, 6, tyC, rfl, uC, by decide, w_at 136 (by decide +kernel) rfl, tyC_ok, nmC, by decide +kernel, Or.inr ⟨rfl, rfl, rfl⟩⟩
theorem aC_init_21 : Cond.classLink mC_init.1.cls 21 "CallMarket$Order" ∈ wsA := w_at 49 (by decide +kernel) rfl
theorem pC_init_23 : x_pl mC_init 23 6 2 (.array (.object "CallMarket$Order")) := ⟨RC, TC, 6, tyC, rfl, uC, by decide, w_at 137 (by decide +kernel) rfl, tyC_ok, nmC, by decide +kernel, Or.inr ⟨rfl, rfl, rfl⟩⟩
theorem nC_init_27 : x_nl mC_init 27 5 2 [xR none, xI 0] := ⟨RT, TT, tyT, rfl, uT, tyT_ok, w_at 51 (by decide +kernel) rfl, w_at 52 (by decide +kernel) rfl, w_at 28 (by decide +kernel) rfl, fun z j hj => by
  match j, hj with
  | 0, _ => rfl
  | 1, _ => rfl⟩
theorem kC_29 : x_kIN "CallMarket" 29 mT_init "CallMarket" := ⟨by decide +kernel, w_at 54 (by decide +kernel) rfl, w_at 28 (by decide +kernel) rfl, rfl, rfl⟩
theorem pC_init_30 : x_pl mC_init 30 6 3 (.object "CallMarket$Tape") := ⟨RC, TC, 6, tyC, rfl, uC, by decide, w_at 138 (by decide +kernel) rfl, tyC_ok, nmC, by decide +kernel, Or.inr ⟨rfl, rfl, rfl⟩⟩
theorem nC_init_34 : x_nl mC_init 34 3 2 [xR none, xR none] := ⟨RS, TS, tyS, rfl, uS, tyS_ok, w_at 66 (by decide +kernel) rfl, w_at 67 (by decide +kernel) rfl, w_at 29 (by decide +kernel) rfl, fun z j hj => by
  match j, hj with
  | 0, _ => rfl
  | 1, _ => rfl⟩
theorem kC_36 : x_kIN "CallMarket" 36 mS_init "CallMarket" := ⟨by decide +kernel, w_at 69 (by decide +kernel) rfl, w_at 29 (by decide +kernel) rfl, rfl, rfl⟩
theorem pC_init_37 : x_pl mC_init 37 6 4 (.object "CallMarket$Scale") := ⟨RC, TC, 6, tyC, rfl, uC, by decide, w_at 139 (by decide +kernel) rfl, tyC_ok, nmC, by decide +kernel, Or.inr ⟨rfl, rfl, rfl⟩⟩
theorem pC_init_41 : x_pl mC_init 41 6 5 (.int) := ⟨RC, TC, 6, tyC, rfl, uC, by decide, w_at 140 (by decide +kernel) rfl, tyC_ok, nmC, by decide +kernel, Or.inl rfl⟩
theorem nC_init_9 : x_nl mC_init 9 0 3 [xR none, xJ 0, xJ 0] := ⟨RA, TA, tyA, rfl, uA, tyA_ok, w_at 45 (by decide +kernel) rfl, w_at 79 (by decide +kernel) rfl, w_at 30 (by decide +kernel) rfl, fun z j hj => by
  match j, hj with
  | 0, _ => rfl
  | 1, _ => rfl
  | 2, _ => rfl⟩
theorem kC_45 : x_kIN "CallMarket" 45 mA_init "CallMarket" := ⟨by decide +kernel, w_at 81 (by decide +kernel) rfl, w_at 30 (by decide +kernel) rfl, rfl, rfl⟩
theorem nC_init_15 : x_nl mC_init 15 1 4 [xR none, xR none, xI 0, xI 0] := ⟨RB, TB, tyB, rfl, uB, tyB_ok, w_at 47 (by decide +kernel) rfl, w_at 97 (by decide +kernel) rfl, w_at 31 (by decide +kernel) rfl, fun z j hj => by
  match j, hj with
  | 0, _ => rfl
  | 1, _ => rfl
  | 2, _ => rfl
  | 3, _ => rfl⟩
theorem kC_46 : x_kIN "CallMarket" 46 mB_init "CallMarket" := ⟨by decide +kernel, w_at 99 (by decide +kernel) rfl, w_at 31 (by decide +kernel) rfl, rfl, rfl⟩
theorem jT_3 : Cond.methodLink "CallMarket$Tape" 3 Lib.objectInit ∈ wsA := w_at 56 (by decide +kernel) rfl
theorem pT_init_9 : x_pl mT_init 9 5 0 (.array .int) := ⟨RT, TT, 2, tyT, rfl, uT, by decide, w_at 57 (by decide +kernel) rfl, tyT_ok, nmT, by decide +kernel, Or.inr ⟨rfl, rfl, rfl⟩⟩
theorem pT_init_15 : x_pl mT_init 15 5 1 (.int) := ⟨RT, TT, 2, tyT, rfl, uT, by decide, w_at 58 (by decide +kernel) rfl, tyT_ok, nmT, by decide +kernel, Or.inl rfl⟩
theorem jS_3 : Cond.methodLink "CallMarket$Scale" 3 Lib.objectInit ∈ wsA := w_at 71 (by decide +kernel) rfl
theorem pS_init_9 : x_pl mS_init 9 3 0 (.array .int) := ⟨RS, TS, 2, tyS, rfl, uS, by decide, w_at 72 (by decide +kernel) rfl, tyS_ok, nmS, by decide +kernel, Or.inr ⟨rfl, rfl, rfl⟩⟩
theorem pS_init_15 : x_pl mS_init 15 3 1 (.array .int) := ⟨RS, TS, 2, tyS, rfl, uS, by decide, w_at 73 (by decide +kernel) rfl, tyS_ok, nmS, by decide +kernel, Or.inr ⟨rfl, rfl, rfl⟩⟩
theorem jA_3 : Cond.methodLink "CallMarket$Account" 3 Lib.objectInit ∈ wsA := w_at 83 (by decide +kernel) rfl
theorem pA_init_9 : x_pl mA_init 9 0 0 (.array .int) := ⟨RA, TA, 3, tyA, rfl, uA, by decide, w_at 84 (by decide +kernel) rfl, tyA_ok, nmA, by decide +kernel, Or.inr ⟨rfl, rfl, rfl⟩⟩
theorem pA_init_15 : x_pl mA_init 15 0 1 (.long) := ⟨RA, TA, 3, tyA, rfl, uA, by decide, w_at 86 (by decide +kernel) rfl, tyA_ok, nmA, by decide +kernel, Or.inl rfl⟩
theorem pA_init_19 : x_pl mA_init 19 0 2 (.long) := ⟨RA, TA, 3, tyA, rfl, uA, by decide, w_at 88 (by decide +kernel) rfl, tyA_ok, nmA, by decide +kernel, Or.inl rfl⟩
theorem jB_3 : Cond.methodLink "CallMarket$Book" 3 Lib.objectInit ∈ wsA := w_at 101 (by decide +kernel) rfl
theorem nB_init_9 : x_nl mB_init 9 4 1 [xR none] := ⟨RD, TD, tyD, rfl, uD, tyD_ok, w_at 102 (by decide +kernel) rfl, w_at 103 (by decide +kernel) rfl, w_at 32 (by decide +kernel) rfl, fun z j hj => by
  match j, hj with
  | 0, _ => rfl⟩
theorem kB_11 : x_kIN "CallMarket$Book" 11 mD_init "CallMarket" := ⟨by decide +kernel, w_at 105 (by decide +kernel) rfl, w_at 32 (by decide +kernel) rfl, rfl, rfl⟩
theorem pB_init_12 : x_pl mB_init 12 1 0 (.object "CallMarket$Side") := ⟨RB, TB, 4, tyB, rfl, uB, by decide, w_at 115 (by decide +kernel) rfl, tyB_ok, nmB, by decide +kernel, Or.inr ⟨rfl, rfl, rfl⟩⟩
theorem pB_init_18 : x_pl mB_init 18 1 1 (.object "CallMarket$Side") := ⟨RB, TB, 4, tyB, rfl, uB, by decide, w_at 118 (by decide +kernel) rfl, tyB_ok, nmB, by decide +kernel, Or.inr ⟨rfl, rfl, rfl⟩⟩
theorem pB_init_21 : x_pl mB_init 21 1 2 (.boolean) := ⟨RB, TB, 4, tyB, rfl, uB, by decide, w_at 121 (by decide +kernel) rfl, tyB_ok, nmB, by decide +kernel, Or.inl rfl⟩
theorem pB_init_25 : x_pl mB_init 25 1 3 (.int) := ⟨RB, TB, 4, tyB, rfl, uB, by decide, w_at 123 (by decide +kernel) rfl, tyB_ok, nmB, by decide +kernel, Or.inl rfl⟩
theorem jD_3 : Cond.methodLink "CallMarket$Side" 3 Lib.objectInit ∈ wsA := w_at 107 (by decide +kernel) rfl
theorem pD_init_9 : x_pl mD_init 9 4 0 (.object "CallMarket$Order") := ⟨RD, TD, 1, tyD, rfl, uD, by decide, w_at 108 (by decide +kernel) rfl, tyD_ok, nmD, by decide +kernel, Or.inl rfl⟩
theorem kC_47 : x_kS "CallMarket" 47 mC_isMember := ⟨w_at 158 (by decide +kernel) rfl, w_at 159 (by decide +kernel) rfl, w_at 27 (by decide +kernel) rfl⟩
theorem cC_deposit_51 : Cond.constant mC_deposit.1.cls 51 (-1000000) ∈ wsA := w_at 161 (by decide +kernel) rfl
theorem cC_deposit_52 : Cond.constant mC_deposit.1.cls 52 (1000000) ∈ wsA := w_at 162 (by decide +kernel) rfl
theorem kC_57 : x_kV "CallMarket" 57 mC_riskOf := ⟨w_at 163 (by decide +kernel) rfl, w_at 165 (by decide +kernel) rfl, w_at 0 (by decide +kernel) rfl, w_at 27 (by decide +kernel) rfl⟩
theorem pC_deposit_53 : x_pl mC_deposit 53 0 1 (.long) := ⟨RA, TA, 3, tyA, rfl, uA, by decide, w_at 87 (by decide +kernel) rfl, tyA_ok, nmA, by decide +kernel, Or.inl rfl⟩
theorem kC_81 : x_kV "CallMarket" 81 mC_riskWith := ⟨w_at 167 (by decide +kernel) rfl, w_at 169 (by decide +kernel) rfl, w_at 1 (by decide +kernel) rfl, w_at 27 (by decide +kernel) rfl⟩
theorem kC_192 : x_kV "CallMarket" 192 mD_leftOf := ⟨w_at 171 (by decide +kernel) rfl, w_at 172 (by decide +kernel) rfl, w_at 173 (by decide +kernel) rfl, w_at 32 (by decide +kernel) rfl⟩
theorem sC_riskWith_198 : Cond.fieldLink mC_riskWith.1.cls 198 "CallMarket" "RISK_RATES" "[I" ∈ wsA := w_at 175 (by decide +kernel) rfl
theorem kC_201 : x_kS "CallMarket" 201 mM_abs := ⟨w_at 177 (by decide +kernel) rfl, w_at 178 (by decide +kernel) rfl, w_at 34 (by decide +kernel) rfl⟩
theorem kC_204 : x_kS "CallMarket" 204 mM_max := ⟨w_at 180 (by decide +kernel) rfl, w_at 181 (by decide +kernel) rfl, w_at 34 (by decide +kernel) rfl⟩
theorem kC_61 : x_kS "CallMarket" 61 mC_isInstrument := ⟨w_at 187 (by decide +kernel) rfl, w_at 188 (by decide +kernel) rfl, w_at 27 (by decide +kernel) rfl⟩
theorem kC_64 : x_kS "CallMarket" 64 mC_isHow := ⟨w_at 190 (by decide +kernel) rfl, w_at 191 (by decide +kernel) rfl, w_at 27 (by decide +kernel) rfl⟩
theorem kC_67 : x_kS "CallMarket" 67 mC_kindOf := ⟨w_at 193 (by decide +kernel) rfl, w_at 194 (by decide +kernel) rfl, w_at 27 (by decide +kernel) rfl⟩
theorem kC_71 : x_kS "CallMarket" 71 mC_isPrice := ⟨w_at 196 (by decide +kernel) rfl, w_at 197 (by decide +kernel) rfl, w_at 27 (by decide +kernel) rfl⟩
theorem kC_78 : x_kS "CallMarket" 78 mC_sideOf := ⟨w_at 199 (by decide +kernel) rfl, w_at 200 (by decide +kernel) rfl, w_at 27 (by decide +kernel) rfl⟩
theorem nC_place_21 : x_nl mC_place 21 2 10 [xI 0, xI 0, xI 0, xI 0, xI 0, xI 0, xI 0, xI 0, xI 0, xR none] := ⟨RO, TO, tyO, rfl, uO, tyO_ok, w_at 49 (by decide +kernel) rfl, w_at 202 (by decide +kernel) rfl, w_at 35 (by decide +kernel) rfl, fun z j hj => by
  match j, hj with
  | 0, _ => rfl
  | 1, _ => rfl
  | 2, _ => rfl
  | 3, _ => rfl
  | 4, _ => rfl
  | 5, _ => rfl
  | 6, _ => rfl
  | 7, _ => rfl
  | 8, _ => rfl
  | 9, _ => rfl⟩
theorem kC_85 : x_kI "CallMarket" 85 mO_init := ⟨w_at 203 (by decide +kernel) rfl, w_at 204 (by decide +kernel) rfl, w_at 35 (by decide +kernel) rfl, rfl, rfl⟩
theorem kC_88 : x_kV "CallMarket" 88 mB_refuses := ⟨w_at 262 (by decide +kernel) rfl, w_at 263 (by decide +kernel) rfl, w_at 264 (by decide +kernel) rfl, w_at 31 (by decide +kernel) rfl⟩
theorem pC_place_41 : x_pl mC_place 41 6 5 (.int) := ⟨RC, TC, 6, tyC, rfl, uC, by decide, w_at 140 (by decide +kernel) rfl, tyC_ok, nmC, by decide +kernel, Or.inl rfl⟩
theorem kC_92 : x_kV "CallMarket" 92 mC_admit := ⟨w_at 279 (by decide +kernel) rfl, w_at 281 (by decide +kernel) rfl, w_at 2 (by decide +kernel) rfl, w_at 27 (by decide +kernel) rfl⟩
theorem jO_3 : Cond.methodLink "CallMarket$Order" 3 Lib.objectInit ∈ wsA := w_at 206 (by decide +kernel) rfl
theorem pO_init_9 : x_pl mO_init 9 2 7 (.int) := ⟨RO, TO, 10, tyO, rfl, uO, by decide, w_at 232 (by decide +kernel) rfl, tyO_ok, nmO, by decide +kernel, Or.inl rfl⟩
theorem pO_init_15 : x_pl mO_init 15 2 8 (.int) := ⟨RO, TO, 10, tyO, rfl, uO, by decide, w_at 235 (by decide +kernel) rfl, tyO_ok, nmO, by decide +kernel, Or.inl rfl⟩
theorem pO_init_18 : x_pl mO_init 18 2 9 (.object "CallMarket$Order") := ⟨RO, TO, 10, tyO, rfl, uO, by decide, w_at 238 (by decide +kernel) rfl, tyO_ok, nmO, by decide +kernel, Or.inl rfl⟩
theorem pO_init_22 : x_pl mO_init 22 2 0 (.int) := ⟨RO, TO, 10, tyO, rfl, uO, by decide, w_at 209 (by decide +kernel) rfl, tyO_ok, nmO, by decide +kernel, Or.inr ⟨rfl, rfl, rfl⟩⟩
theorem pO_init_25 : x_pl mO_init 25 2 1 (.int) := ⟨RO, TO, 10, tyO, rfl, uO, by decide, w_at 211 (by decide +kernel) rfl, tyO_ok, nmO, by decide +kernel, Or.inr ⟨rfl, rfl, rfl⟩⟩
theorem pO_init_28 : x_pl mO_init 28 2 2 (.int) := ⟨RO, TO, 10, tyO, rfl, uO, by decide, w_at 214 (by decide +kernel) rfl, tyO_ok, nmO, by decide +kernel, Or.inr ⟨rfl, rfl, rfl⟩⟩
theorem kO_31 : x_kSN "CallMarket$Order" 31 mC_sideOf "CallMarket" := ⟨by decide +kernel, w_at 200 (by decide +kernel) rfl, w_at 27 (by decide +kernel) rfl⟩
theorem pO_init_35 : x_pl mO_init 35 2 3 (.int) := ⟨RO, TO, 10, tyO, rfl, uO, by decide, w_at 216 (by decide +kernel) rfl, tyO_ok, nmO, by decide +kernel, Or.inr ⟨rfl, rfl, rfl⟩⟩
theorem kO_38 : x_kSN "CallMarket$Order" 38 mC_kindOf "CallMarket" := ⟨by decide +kernel, w_at 194 (by decide +kernel) rfl, w_at 27 (by decide +kernel) rfl⟩
theorem pO_init_41 : x_pl mO_init 41 2 4 (.int) := ⟨RO, TO, 10, tyO, rfl, uO, by decide, w_at 219 (by decide +kernel) rfl, tyO_ok, nmO, by decide +kernel, Or.inr ⟨rfl, rfl, rfl⟩⟩
theorem pO_init_44 : x_pl mO_init 44 2 5 (.int) := ⟨RO, TO, 10, tyO, rfl, uO, by decide, w_at 222 (by decide +kernel) rfl, tyO_ok, nmO, by decide +kernel, Or.inr ⟨rfl, rfl, rfl⟩⟩
theorem pO_init_47 : x_pl mO_init 47 2 6 (.int) := ⟨RO, TO, 10, tyO, rfl, uO, by decide, w_at 227 (by decide +kernel) rfl, tyO_ok, nmO, by decide +kernel, Or.inl rfl⟩
theorem kB_34 : x_kV "CallMarket$Book" 34 mB_facing := ⟨w_at 266 (by decide +kernel) rfl, w_at 267 (by decide +kernel) rfl, w_at 268 (by decide +kernel) rfl, w_at 31 (by decide +kernel) rfl⟩
theorem kB_48 : x_kV "CallMarket$Book" 48 mO_accepts := ⟨w_at 270 (by decide +kernel) rfl, w_at 271 (by decide +kernel) rfl, w_at 272 (by decide +kernel) rfl, w_at 35 (by decide +kernel) rfl⟩
theorem kB_52 : x_kV "CallMarket$Book" 52 mD_leftFor := ⟨w_at 274 (by decide +kernel) rfl, w_at 275 (by decide +kernel) rfl, w_at 276 (by decide +kernel) rfl, w_at 32 (by decide +kernel) rfl⟩
theorem kD_38 : x_kV "CallMarket$Side" 38 mO_accepts := ⟨w_at 278 (by decide +kernel) rfl, w_at 271 (by decide +kernel) rfl, w_at 272 (by decide +kernel) rfl, w_at 35 (by decide +kernel) rfl⟩
theorem kC_207 : x_kV "CallMarket" 207 mC_meet := ⟨w_at 283 (by decide +kernel) rfl, w_at 285 (by decide +kernel) rfl, w_at 3 (by decide +kernel) rfl, w_at 27 (by decide +kernel) rfl⟩
theorem pC_admit_157 : x_pl mC_admit 157 2 8 (.int) := ⟨RO, TO, 10, tyO, rfl, uO, by decide, w_at 237 (by decide +kernel) rfl, tyO_ok, nmO, by decide +kernel, Or.inl rfl⟩
theorem kC_213 : x_kV "CallMarket" 213 mO_showAnew := ⟨w_at 324 (by decide +kernel) rfl, w_at 325 (by decide +kernel) rfl, w_at 326 (by decide +kernel) rfl, w_at 35 (by decide +kernel) rfl⟩
theorem kC_136 : x_kV "CallMarket" 136 mB_on := ⟨w_at 293 (by decide +kernel) rfl, w_at 294 (by decide +kernel) rfl, w_at 295 (by decide +kernel) rfl, w_at 31 (by decide +kernel) rfl⟩
theorem kC_216 : x_kV "CallMarket" 216 mD_join := ⟨w_at 329 (by decide +kernel) rfl, w_at 330 (by decide +kernel) rfl, w_at 331 (by decide +kernel) rfl, w_at 32 (by decide +kernel) rfl⟩
theorem kC_220 : x_kV "CallMarket" 220 mB_facing := ⟨w_at 287 (by decide +kernel) rfl, w_at 267 (by decide +kernel) rfl, w_at 268 (by decide +kernel) rfl, w_at 31 (by decide +kernel) rfl⟩
theorem kC_223 : x_kV "CallMarket" 223 mO_accepts := ⟨w_at 288 (by decide +kernel) rfl, w_at 271 (by decide +kernel) rfl, w_at 272 (by decide +kernel) rfl, w_at 35 (by decide +kernel) rfl⟩
theorem kC_103 : x_kV "CallMarket" 103 mC_takeAway := ⟨w_at 289 (by decide +kernel) rfl, w_at 291 (by decide +kernel) rfl, w_at 4 (by decide +kernel) rfl, w_at 27 (by decide +kernel) rfl⟩
theorem kC_226 : x_kV "CallMarket" 226 mC_tradeWithShown := ⟨w_at 305 (by decide +kernel) rfl, w_at 307 (by decide +kernel) rfl, w_at 6 (by decide +kernel) rfl, w_at 27 (by decide +kernel) rfl⟩
theorem kC_234 : x_kV "CallMarket" 234 mD_leave := ⟨w_at 297 (by decide +kernel) rfl, w_at 298 (by decide +kernel) rfl, w_at 299 (by decide +kernel) rfl, w_at 32 (by decide +kernel) rfl⟩
theorem pC_takeAway_157 : x_pl mC_takeAway 157 2 8 (.int) := ⟨RO, TO, 10, tyO, rfl, uO, by decide, w_at 237 (by decide +kernel) rfl, tyO_ok, nmO, by decide +kernel, Or.inl rfl⟩
theorem kD_24 : x_kV "CallMarket$Side" 24 mD_link := ⟨w_at 301 (by decide +kernel) rfl, w_at 303 (by decide +kernel) rfl, w_at 5 (by decide +kernel) rfl, w_at 32 (by decide +kernel) rfl⟩
theorem pD_leave_19 : x_pl mD_leave 19 2 9 (.object "CallMarket$Order") := ⟨RO, TO, 10, tyO, rfl, uO, by decide, w_at 239 (by decide +kernel) rfl, tyO_ok, nmO, by decide +kernel, Or.inl rfl⟩
theorem pD_link_9 : x_pl mD_link 9 4 0 (.object "CallMarket$Order") := ⟨RD, TD, 1, tyD, rfl, uD, by decide, w_at 108 (by decide +kernel) rfl, tyD_ok, nmD, by decide +kernel, Or.inl rfl⟩
theorem pD_link_19 : x_pl mD_link 19 2 9 (.object "CallMarket$Order") := ⟨RO, TO, 10, tyO, rfl, uO, by decide, w_at 239 (by decide +kernel) rfl, tyO_ok, nmO, by decide +kernel, Or.inl rfl⟩
theorem kC_113 : x_kS "CallMarket" 113 mM_min := ⟨w_at 309 (by decide +kernel) rfl, w_at 310 (by decide +kernel) rfl, w_at 34 (by decide +kernel) rfl⟩
theorem pC_tradeWithShown_110 : x_pl mC_tradeWithShown 110 2 7 (.int) := ⟨RO, TO, 10, tyO, rfl, uO, by decide, w_at 233 (by decide +kernel) rfl, tyO_ok, nmO, by decide +kernel, Or.inl rfl⟩
theorem kC_230 : x_kV "CallMarket" 230 mC_exchange := ⟨w_at 312 (by decide +kernel) rfl, w_at 314 (by decide +kernel) rfl, w_at 7 (by decide +kernel) rfl, w_at 27 (by decide +kernel) rfl⟩
theorem pC_exchange_107 : x_pl mC_exchange 107 2 6 (.int) := ⟨RO, TO, 10, tyO, rfl, uO, by decide, w_at 230 (by decide +kernel) rfl, tyO_ok, nmO, by decide +kernel, Or.inl rfl⟩
theorem kC_240 : x_kV "CallMarket" 240 mA_enter := ⟨w_at 316 (by decide +kernel) rfl, w_at 317 (by decide +kernel) rfl, w_at 318 (by decide +kernel) rfl, w_at 30 (by decide +kernel) rfl⟩
theorem pC_exchange_244 : x_pl mC_exchange 244 1 3 (.int) := ⟨RB, TB, 4, tyB, rfl, uB, by decide, w_at 125 (by decide +kernel) rfl, tyB_ok, nmB, by decide +kernel, Or.inl rfl⟩
theorem kC_247 : x_kV "CallMarket" 247 mT_write := ⟨w_at 320 (by decide +kernel) rfl, w_at 321 (by decide +kernel) rfl, w_at 322 (by decide +kernel) rfl, w_at 28 (by decide +kernel) rfl⟩
theorem pA_enter_19 : x_pl mA_enter 19 0 2 (.long) := ⟨RA, TA, 3, tyA, rfl, uA, by decide, w_at 88 (by decide +kernel) rfl, tyA_ok, nmA, by decide +kernel, Or.inl rfl⟩
theorem pT_write_15 : x_pl mT_write 15 5 1 (.int) := ⟨RT, TT, 2, tyT, rfl, uT, by decide, w_at 58 (by decide +kernel) rfl, tyT_ok, nmT, by decide +kernel, Or.inl rfl⟩
theorem kO_50 : x_kS "CallMarket$Order" 50 mM_min := ⟨w_at 328 (by decide +kernel) rfl, w_at 310 (by decide +kernel) rfl, w_at 34 (by decide +kernel) rfl⟩
theorem pO_showAnew_9 : x_pl mO_showAnew 9 2 7 (.int) := ⟨RO, TO, 10, tyO, rfl, uO, by decide, w_at 232 (by decide +kernel) rfl, tyO_ok, nmO, by decide +kernel, Or.inl rfl⟩
theorem kD_15 : x_kS "CallMarket$Side" 15 mD_isBetter := ⟨w_at 333 (by decide +kernel) rfl, w_at 334 (by decide +kernel) rfl, w_at 32 (by decide +kernel) rfl⟩
theorem pD_join_19 : x_pl mD_join 19 2 9 (.object "CallMarket$Order") := ⟨RO, TO, 10, tyO, rfl, uO, by decide, w_at 239 (by decide +kernel) rfl, tyO_ok, nmO, by decide +kernel, Or.inl rfl⟩
theorem kC_99 : x_kV "CallMarket" 99 mC_findResting := ⟨w_at 340 (by decide +kernel) rfl, w_at 342 (by decide +kernel) rfl, w_at 8 (by decide +kernel) rfl, w_at 27 (by decide +kernel) rfl⟩
theorem kC_153 : x_kV "CallMarket" 153 mC_find := ⟨w_at 344 (by decide +kernel) rfl, w_at 346 (by decide +kernel) rfl, w_at 9 (by decide +kernel) rfl, w_at 27 (by decide +kernel) rfl⟩
theorem pC_amend_107 : x_pl mC_amend 107 2 6 (.int) := ⟨RO, TO, 10, tyO, rfl, uO, by decide, w_at 230 (by decide +kernel) rfl, tyO_ok, nmO, by decide +kernel, Or.inl rfl⟩
theorem pC_amend_110 : x_pl mC_amend 110 2 7 (.int) := ⟨RO, TO, 10, tyO, rfl, uO, by decide, w_at 233 (by decide +kernel) rfl, tyO_ok, nmO, by decide +kernel, Or.inl rfl⟩
theorem kC_119 : x_kV "CallMarket" 119 mS_findCallPrice := ⟨w_at 356 (by decide +kernel) rfl, w_at 357 (by decide +kernel) rfl, w_at 358 (by decide +kernel) rfl, w_at 29 (by decide +kernel) rfl⟩
theorem pC_open_74 : x_pl mC_open 74 1 2 (.boolean) := ⟨RB, TB, 4, tyB, rfl, uB, by decide, w_at 122 (by decide +kernel) rfl, tyB_ok, nmB, by decide +kernel, Or.inl rfl⟩
theorem kC_123 : x_kV "CallMarket" 123 mC_tradeAll := ⟨w_at 381 (by decide +kernel) rfl, w_at 383 (by decide +kernel) rfl, w_at 12 (by decide +kernel) rfl, w_at 27 (by decide +kernel) rfl⟩
theorem kS_18 : x_kV "CallMarket$Scale" 18 mS_weigh := ⟨w_at 360 (by decide +kernel) rfl, w_at 362 (by decide +kernel) rfl, w_at 10 (by decide +kernel) rfl, w_at 29 (by decide +kernel) rfl⟩
theorem kS_22 : x_kV "CallMarket$Scale" 22 mS_volumeAt := ⟨w_at 367 (by decide +kernel) rfl, w_at 368 (by decide +kernel) rfl, w_at 369 (by decide +kernel) rfl, w_at 29 (by decide +kernel) rfl⟩
theorem kS_26 : x_kV "CallMarket$Scale" 26 mS_surplusAt := ⟨w_at 372 (by decide +kernel) rfl, w_at 373 (by decide +kernel) rfl, w_at 374 (by decide +kernel) rfl, w_at 29 (by decide +kernel) rfl⟩
theorem kS_29 : x_kS "CallMarket$Scale" 29 mM_abs := ⟨w_at 376 (by decide +kernel) rfl, w_at 178 (by decide +kernel) rfl, w_at 34 (by decide +kernel) rfl⟩
theorem kS_40 : x_kV "CallMarket$Scale" 40 mS_choose := ⟨w_at 377 (by decide +kernel) rfl, w_at 379 (by decide +kernel) rfl, w_at 11 (by decide +kernel) rfl, w_at 29 (by decide +kernel) rfl⟩
theorem kS_48 : x_kS "CallMarket$Scale" 48 mY_fill := ⟨w_at 364 (by decide +kernel) rfl, w_at 365 (by decide +kernel) rfl, w_at 36 (by decide +kernel) rfl⟩
theorem kS_44 : x_kS "CallMarket$Scale" 44 mM_min := ⟨w_at 371 (by decide +kernel) rfl, w_at 310 (by decide +kernel) rfl, w_at 34 (by decide +kernel) rfl⟩
theorem kC_237 : x_kV "CallMarket" 237 mC_keepOrFill := ⟨w_at 385 (by decide +kernel) rfl, w_at 387 (by decide +kernel) rfl, w_at 13 (by decide +kernel) rfl, w_at 27 (by decide +kernel) rfl⟩
theorem pC_close_74 : x_pl mC_close 74 1 2 (.boolean) := ⟨RB, TB, 4, tyB, rfl, uB, by decide, w_at 122 (by decide +kernel) rfl, tyB_ok, nmB, by decide +kernel, Or.inl rfl⟩
theorem kC_127 : x_kV "CallMarket" 127 mS_volumeAt := ⟨w_at 397 (by decide +kernel) rfl, w_at 368 (by decide +kernel) rfl, w_at 369 (by decide +kernel) rfl, w_at 29 (by decide +kernel) rfl⟩
theorem kC_130 : x_kV "CallMarket" 130 mS_surplusAt := ⟨w_at 398 (by decide +kernel) rfl, w_at 373 (by decide +kernel) rfl, w_at 374 (by decide +kernel) rfl, w_at 29 (by decide +kernel) rfl⟩
theorem kC_133 : x_kS "CallMarket" 133 mC_isSide := ⟨w_at 403 (by decide +kernel) rfl, w_at 404 (by decide +kernel) rfl, w_at 27 (by decide +kernel) rfl⟩
theorem kC_149 : x_kV "CallMarket" 149 mD_shownInQueue := ⟨w_at 410 (by decide +kernel) rfl, w_at 411 (by decide +kernel) rfl, w_at 412 (by decide +kernel) rfl, w_at 32 (by decide +kernel) rfl⟩
theorem kC_169 : x_kV "CallMarket" 169 mT_holds := ⟨w_at 434 (by decide +kernel) rfl, w_at 435 (by decide +kernel) rfl, w_at 436 (by decide +kernel) rfl, w_at 28 (by decide +kernel) rfl⟩
theorem kC_172 : x_kV "CallMarket" 172 mT_read := ⟨w_at 438 (by decide +kernel) rfl, w_at 439 (by decide +kernel) rfl, w_at 440 (by decide +kernel) rfl, w_at 28 (by decide +kernel) rfl⟩
theorem kC_182 : x_kV "CallMarket" 182 mB_endDay := ⟨w_at 462 (by decide +kernel) rfl, w_at 463 (by decide +kernel) rfl, w_at 464 (by decide +kernel) rfl, w_at 31 (by decide +kernel) rfl⟩
theorem pC_settle_53 : x_pl mC_settle 53 0 1 (.long) := ⟨RA, TA, 3, tyA, rfl, uA, by decide, w_at 87 (by decide +kernel) rfl, tyA_ok, nmA, by decide +kernel, Or.inl rfl⟩
theorem pC_settle_179 : x_pl mC_settle 179 0 2 (.long) := ⟨RA, TA, 3, tyA, rfl, uA, by decide, w_at 89 (by decide +kernel) rfl, tyA_ok, nmA, by decide +kernel, Or.inl rfl⟩
theorem kB_59 : x_kV "CallMarket$Book" 59 mD_withdrawAll := ⟨w_at 466 (by decide +kernel) rfl, w_at 467 (by decide +kernel) rfl, w_at 468 (by decide +kernel) rfl, w_at 32 (by decide +kernel) rfl⟩
theorem pB_endDay_21 : x_pl mB_endDay 21 1 2 (.boolean) := ⟨RB, TB, 4, tyB, rfl, uB, by decide, w_at 121 (by decide +kernel) rfl, tyB_ok, nmB, by decide +kernel, Or.inl rfl⟩
theorem pD_withdrawAll_45 : x_pl mD_withdrawAll 45 2 8 (.int) := ⟨RO, TO, 10, tyO, rfl, uO, by decide, w_at 236 (by decide +kernel) rfl, tyO_ok, nmO, by decide +kernel, Or.inl rfl⟩
theorem pD_withdrawAll_9 : x_pl mD_withdrawAll 9 4 0 (.object "CallMarket$Order") := ⟨RD, TD, 1, tyD, rfl, uD, by decide, w_at 108 (by decide +kernel) rfl, tyD_ok, nmD, by decide +kernel, Or.inl rfl⟩
theorem jR_1 : Cond.methodLink "CallMarketModel" 1 Lib.objectInit ∈ wsA := w_at 475 (by decide +kernel) rfl
theorem pR_init_7 : x_pl mR_init 7 7 1 (.array .int) := ⟨RR, TR, 21, tyR, rfl, uR, by decide, w_at 477 (by decide +kernel) rfl, tyR_ok, nmR, by decide +kernel, Or.inr ⟨rfl, rfl, rfl⟩⟩
theorem pR_init_13 : x_pl mR_init 13 7 2 (.array .int) := ⟨RR, TR, 21, tyR, rfl, uR, by decide, w_at 478 (by decide +kernel) rfl, tyR_ok, nmR, by decide +kernel, Or.inr ⟨rfl, rfl, rfl⟩⟩
theorem pR_init_16 : x_pl mR_init 16 7 3 (.array .int) := ⟨RR, TR, 21, tyR, rfl, uR, by decide, w_at 479 (by decide +kernel) rfl, tyR_ok, nmR, by decide +kernel, Or.inr ⟨rfl, rfl, rfl⟩⟩
theorem pR_init_19 : x_pl mR_init 19 7 4 (.array .int) := ⟨RR, TR, 21, tyR, rfl, uR, by decide, w_at 480 (by decide +kernel) rfl, tyR_ok, nmR, by decide +kernel, Or.inr ⟨rfl, rfl, rfl⟩⟩
theorem pR_init_22 : x_pl mR_init 22 7 5 (.array .int) := ⟨RR, TR, 21, tyR, rfl, uR, by decide, w_at 481 (by decide +kernel) rfl, tyR_ok, nmR, by decide +kernel, Or.inr ⟨rfl, rfl, rfl⟩⟩
theorem pR_init_25 : x_pl mR_init 25 7 6 (.array .int) := ⟨RR, TR, 21, tyR, rfl, uR, by decide, w_at 482 (by decide +kernel) rfl, tyR_ok, nmR, by decide +kernel, Or.inr ⟨rfl, rfl, rfl⟩⟩
theorem pR_init_28 : x_pl mR_init 28 7 7 (.array .int) := ⟨RR, TR, 21, tyR, rfl, uR, by decide, w_at 483 (by decide +kernel) rfl, tyR_ok, nmR, by decide +kernel, Or.inr ⟨rfl, rfl, rfl⟩⟩
theorem pR_init_31 : x_pl mR_init 31 7 8 (.array .int) := ⟨RR, TR, 21, tyR, rfl, uR, by decide, w_at 484 (by decide +kernel) rfl, tyR_ok, nmR, by decide +kernel, Or.inr ⟨rfl, rfl, rfl⟩⟩
theorem pR_init_34 : x_pl mR_init 34 7 9 (.array .int) := ⟨RR, TR, 21, tyR, rfl, uR, by decide, w_at 485 (by decide +kernel) rfl, tyR_ok, nmR, by decide +kernel, Or.inr ⟨rfl, rfl, rfl⟩⟩
theorem pR_init_37 : x_pl mR_init 37 7 11 (.array .long) := ⟨RR, TR, 21, tyR, rfl, uR, by decide, w_at 487 (by decide +kernel) rfl, tyR_ok, nmR, by decide +kernel, Or.inr ⟨rfl, rfl, rfl⟩⟩
theorem pR_init_41 : x_pl mR_init 41 7 12 (.array .long) := ⟨RR, TR, 21, tyR, rfl, uR, by decide, w_at 488 (by decide +kernel) rfl, tyR_ok, nmR, by decide +kernel, Or.inr ⟨rfl, rfl, rfl⟩⟩
theorem pR_init_44 : x_pl mR_init 44 7 13 (.array .int) := ⟨RR, TR, 21, tyR, rfl, uR, by decide, w_at 489 (by decide +kernel) rfl, tyR_ok, nmR, by decide +kernel, Or.inr ⟨rfl, rfl, rfl⟩⟩
theorem pR_init_47 : x_pl mR_init 47 7 14 (.array .boolean) := ⟨RR, TR, 21, tyR, rfl, uR, by decide, w_at 490 (by decide +kernel) rfl, tyR_ok, nmR, by decide +kernel, Or.inr ⟨rfl, rfl, rfl⟩⟩
theorem pR_init_51 : x_pl mR_init 51 7 15 (.array .int) := ⟨RR, TR, 21, tyR, rfl, uR, by decide, w_at 491 (by decide +kernel) rfl, tyR_ok, nmR, by decide +kernel, Or.inr ⟨rfl, rfl, rfl⟩⟩
theorem pR_init_54 : x_pl mR_init 54 7 17 (.array .int) := ⟨RR, TR, 21, tyR, rfl, uR, by decide, w_at 493 (by decide +kernel) rfl, tyR_ok, nmR, by decide +kernel, Or.inr ⟨rfl, rfl, rfl⟩⟩
theorem kR_101 : x_kS "CallMarketModel" 101 mR_noMember := ⟨w_at 546 (by decide +kernel) rfl, w_at 547 (by decide +kernel) rfl, w_at 33 (by decide +kernel) rfl⟩
theorem cR_deposit_105 : Cond.constant mR_deposit.1.cls 105 (-1000000) ∈ wsA := w_at 552 (by decide +kernel) rfl
theorem cR_deposit_106 : Cond.constant mR_deposit.1.cls 106 (1000000) ∈ wsA := w_at 553 (by decide +kernel) rfl
theorem kR_98 : x_kS "CallMarketModel" 98 mR_outside := ⟨w_at 549 (by decide +kernel) rfl, w_at 550 (by decide +kernel) rfl, w_at 33 (by decide +kernel) rfl⟩
theorem kR_107 : x_kV "CallMarketModel" 107 mR_riskWith := ⟨w_at 554 (by decide +kernel) rfl, w_at 556 (by decide +kernel) rfl, w_at 14 (by decide +kernel) rfl, w_at 33 (by decide +kernel) rfl⟩
theorem kR_94 : x_kS "CallMarketModel" 94 mR_size := ⟨w_at 558 (by decide +kernel) rfl, w_at 559 (by decide +kernel) rfl, w_at 33 (by decide +kernel) rfl⟩
theorem kR_111 : x_kV "CallMarketModel" 111 mR_unfit := ⟨w_at 565 (by decide +kernel) rfl, w_at 567 (by decide +kernel) rfl, w_at 15 (by decide +kernel) rfl, w_at 33 (by decide +kernel) rfl⟩
theorem pR_place_57 : x_pl mR_place 57 7 0 (.int) := ⟨RR, TR, 21, tyR, rfl, uR, by decide, w_at 476 (by decide +kernel) rfl, tyR_ok, nmR, by decide +kernel, Or.inl rfl⟩
theorem kR_115 : x_kV "CallMarketModel" 115 mR_meet := ⟨w_at 576 (by decide +kernel) rfl, w_at 578 (by decide +kernel) rfl, w_at 17 (by decide +kernel) rfl, w_at 33 (by decide +kernel) rfl⟩
theorem kR_90 : x_kV "CallMarketModel" 90 mR_queue := ⟨w_at 595 (by decide +kernel) rfl, w_at 597 (by decide +kernel) rfl, w_at 21 (by decide +kernel) rfl, w_at 33 (by decide +kernel) rfl⟩
theorem kR_61 : x_kV "CallMarketModel" 61 mR_waits := ⟨w_at 569 (by decide +kernel) rfl, w_at 571 (by decide +kernel) rfl, w_at 16 (by decide +kernel) rfl, w_at 33 (by decide +kernel) rfl⟩
theorem kR_78 : x_kS "CallMarketModel" 78 mR_good := ⟨w_at 573 (by decide +kernel) rfl, w_at 574 (by decide +kernel) rfl, w_at 33 (by decide +kernel) rfl⟩
theorem kR_74 : x_kV "CallMarketModel" 74 mR_front := ⟨w_at 580 (by decide +kernel) rfl, w_at 582 (by decide +kernel) rfl, w_at 18 (by decide +kernel) rfl, w_at 33 (by decide +kernel) rfl⟩
theorem kR_82 : x_kV "CallMarketModel" 82 mR_shows := ⟨w_at 587 (by decide +kernel) rfl, w_at 589 (by decide +kernel) rfl, w_at 19 (by decide +kernel) rfl, w_at 33 (by decide +kernel) rfl⟩
theorem kR_86 : x_kV "CallMarketModel" 86 mR_swap := ⟨w_at 591 (by decide +kernel) rfl, w_at 593 (by decide +kernel) rfl, w_at 20 (by decide +kernel) rfl, w_at 33 (by decide +kernel) rfl⟩
theorem kR_65 : x_kS "CallMarketModel" 65 mR_better := ⟨w_at 584 (by decide +kernel) rfl, w_at 585 (by decide +kernel) rfl, w_at 33 (by decide +kernel) rfl⟩
theorem pR_swap_71 : x_pl mR_swap 71 7 16 (.int) := ⟨RR, TR, 21, tyR, rfl, uR, by decide, w_at 492 (by decide +kernel) rfl, tyR_ok, nmR, by decide +kernel, Or.inl rfl⟩
theorem pR_queue_68 : x_pl mR_queue 68 7 10 (.int) := ⟨RR, TR, 21, tyR, rfl, uR, by decide, w_at 486 (by decide +kernel) rfl, tyR_ok, nmR, by decide +kernel, Or.inl rfl⟩
theorem kR_118 : x_kV "CallMarketModel" 118 mR_isResting := ⟨w_at 603 (by decide +kernel) rfl, w_at 605 (by decide +kernel) rfl, w_at 22 (by decide +kernel) rfl, w_at 33 (by decide +kernel) rfl⟩
theorem kR_137 : x_kV "CallMarketModel" 137 mR_look := ⟨w_at 615 (by decide +kernel) rfl, w_at 617 (by decide +kernel) rfl, w_at 23 (by decide +kernel) rfl, w_at 33 (by decide +kernel) rfl⟩
theorem kR_140 : x_kV "CallMarketModel" 140 mR_after := ⟨w_at 626 (by decide +kernel) rfl, w_at 628 (by decide +kernel) rfl, w_at 25 (by decide +kernel) rfl, w_at 33 (by decide +kernel) rfl⟩
theorem kR_121 : x_kV "CallMarketModel" 121 mR_willing := ⟨w_at 619 (by decide +kernel) rfl, w_at 621 (by decide +kernel) rfl, w_at 24 (by decide +kernel) rfl, w_at 33 (by decide +kernel) rfl⟩
theorem kR_125 : x_kS "CallMarketModel" 125 mR_distance := ⟨w_at 623 (by decide +kernel) rfl, w_at 624 (by decide +kernel) rfl, w_at 33 (by decide +kernel) rfl⟩
theorem pR_look_128 : x_pl mR_look 128 7 18 (.int) := ⟨RR, TR, 21, tyR, rfl, uR, by decide, w_at 494 (by decide +kernel) rfl, tyR_ok, nmR, by decide +kernel, Or.inl rfl⟩
theorem pR_look_131 : x_pl mR_look 131 7 19 (.int) := ⟨RR, TR, 21, tyR, rfl, uR, by decide, w_at 495 (by decide +kernel) rfl, tyR_ok, nmR, by decide +kernel, Or.inl rfl⟩
theorem pR_look_134 : x_pl mR_look 134 7 20 (.int) := ⟨RR, TR, 21, tyR, rfl, uR, by decide, w_at 496 (by decide +kernel) rfl, tyR_ok, nmR, by decide +kernel, Or.inl rfl⟩
theorem nL_law_7 : x_nl mL_law 7 6 6 [xR none, xR none, xR none, xR none, xR none, xI 0] := ⟨RC, TC, tyC, rfl, uC, tyC_ok, w_at 37 (by decide +kernel) rfl, w_at 38 (by decide +kernel) rfl, w_at 27 (by decide +kernel) rfl, fun z j hj => by
  match j, hj with
  | 0, _ => rfl
  | 1, _ => rfl
  | 2, _ => rfl
  | 3, _ => rfl
  | 4, _ => rfl
  | 5, _ => rfl⟩
theorem kL_9 : x_kI "CallMarketLaw" 9 mC_init := ⟨w_at 39 (by decide +kernel) rfl, w_at 40 (by decide +kernel) rfl, w_at 27 (by decide +kernel) rfl, rfl, rfl⟩
theorem nL_law_10 : x_nl mL_law 10 7 21 [xI 0, xR none, xR none, xR none, xR none, xR none, xR none, xR none, xR none, xR none, xI 0, xR none, xR none, xR none, xR none, xR none, xI 0, xR none, xI 0, xI 0, xI 0] := ⟨RR, TR, tyR, rfl, uR, tyR_ok, w_at 470 (by decide +kernel) rfl, w_at 471 (by decide +kernel) rfl, w_at 33 (by decide +kernel) rfl, fun z j hj => by
  match j, hj with
  | 0, _ => rfl
  | 1, _ => rfl
  | 2, _ => rfl
  | 3, _ => rfl
  | 4, _ => rfl
  | 5, _ => rfl
  | 6, _ => rfl
  | 7, _ => rfl
  | 8, _ => rfl
  | 9, _ => rfl
  | 10, _ => rfl
  | 11, _ => rfl
  | 12, _ => rfl
  | 13, _ => rfl
  | 14, _ => rfl
  | 15, _ => rfl
  | 16, _ => rfl
  | 17, _ => rfl
  | 18, _ => rfl
  | 19, _ => rfl
  | 20, _ => rfl
  | q + 21, h => exact absurd h (by omega)⟩
theorem kL_12 : x_kI "CallMarketLaw" 12 mR_init := ⟨w_at 472 (by decide +kernel) rfl, w_at 473 (by decide +kernel) rfl, w_at 33 (by decide +kernel) rfl, rfl, rfl⟩
theorem kL_13 : x_kV "CallMarketLaw" 13 mC_deposit := ⟨w_at 154 (by decide +kernel) rfl, w_at 155 (by decide +kernel) rfl, w_at 156 (by decide +kernel) rfl, w_at 27 (by decide +kernel) rfl⟩
theorem kL_17 : x_kV "CallMarketLaw" 17 mR_deposit := ⟨w_at 542 (by decide +kernel) rfl, w_at 543 (by decide +kernel) rfl, w_at 544 (by decide +kernel) rfl, w_at 33 (by decide +kernel) rfl⟩
theorem kL_18 : x_kV "CallMarketLaw" 18 mC_place := ⟨w_at 183 (by decide +kernel) rfl, w_at 184 (by decide +kernel) rfl, w_at 185 (by decide +kernel) rfl, w_at 27 (by decide +kernel) rfl⟩
theorem kL_22 : x_kV "CallMarketLaw" 22 mR_place := ⟨w_at 561 (by decide +kernel) rfl, w_at 562 (by decide +kernel) rfl, w_at 563 (by decide +kernel) rfl, w_at 33 (by decide +kernel) rfl⟩
theorem kL_23 : x_kV "CallMarketLaw" 23 mC_cancel := ⟨w_at 336 (by decide +kernel) rfl, w_at 337 (by decide +kernel) rfl, w_at 338 (by decide +kernel) rfl, w_at 27 (by decide +kernel) rfl⟩
theorem kL_26 : x_kV "CallMarketLaw" 26 mR_cancel := ⟨w_at 599 (by decide +kernel) rfl, w_at 600 (by decide +kernel) rfl, w_at 601 (by decide +kernel) rfl, w_at 33 (by decide +kernel) rfl⟩
theorem kL_27 : x_kV "CallMarketLaw" 27 mC_amend := ⟨w_at 348 (by decide +kernel) rfl, w_at 349 (by decide +kernel) rfl, w_at 350 (by decide +kernel) rfl, w_at 27 (by decide +kernel) rfl⟩
theorem kL_31 : x_kV "CallMarketLaw" 31 mR_amend := ⟨w_at 607 (by decide +kernel) rfl, w_at 608 (by decide +kernel) rfl, w_at 609 (by decide +kernel) rfl, w_at 33 (by decide +kernel) rfl⟩
theorem kL_32 : x_kV "CallMarketLaw" 32 mC_open := ⟨w_at 352 (by decide +kernel) rfl, w_at 353 (by decide +kernel) rfl, w_at 354 (by decide +kernel) rfl, w_at 27 (by decide +kernel) rfl⟩
theorem kL_36 : x_kV "CallMarketLaw" 36 mR_open := ⟨w_at 611 (by decide +kernel) rfl, w_at 612 (by decide +kernel) rfl, w_at 613 (by decide +kernel) rfl, w_at 33 (by decide +kernel) rfl⟩
theorem kL_37 : x_kV "CallMarketLaw" 37 mC_close := ⟨w_at 389 (by decide +kernel) rfl, w_at 390 (by decide +kernel) rfl, w_at 391 (by decide +kernel) rfl, w_at 27 (by decide +kernel) rfl⟩
theorem kL_40 : x_kV "CallMarketLaw" 40 mR_close := ⟨w_at 630 (by decide +kernel) rfl, w_at 631 (by decide +kernel) rfl, w_at 632 (by decide +kernel) rfl, w_at 33 (by decide +kernel) rfl⟩
theorem kL_41 : x_kV "CallMarketLaw" 41 mC_indication := ⟨w_at 393 (by decide +kernel) rfl, w_at 394 (by decide +kernel) rfl, w_at 395 (by decide +kernel) rfl, w_at 27 (by decide +kernel) rfl⟩
theorem kL_45 : x_kV "CallMarketLaw" 45 mR_indication := ⟨w_at 634 (by decide +kernel) rfl, w_at 635 (by decide +kernel) rfl, w_at 636 (by decide +kernel) rfl, w_at 33 (by decide +kernel) rfl⟩
theorem kL_46 : x_kV "CallMarketLaw" 46 mC_best := ⟨w_at 399 (by decide +kernel) rfl, w_at 400 (by decide +kernel) rfl, w_at 401 (by decide +kernel) rfl, w_at 27 (by decide +kernel) rfl⟩
theorem kL_49 : x_kV "CallMarketLaw" 49 mR_best := ⟨w_at 638 (by decide +kernel) rfl, w_at 639 (by decide +kernel) rfl, w_at 640 (by decide +kernel) rfl, w_at 33 (by decide +kernel) rfl⟩
theorem kL_50 : x_kV "CallMarketLaw" 50 mC_depth := ⟨w_at 406 (by decide +kernel) rfl, w_at 407 (by decide +kernel) rfl, w_at 408 (by decide +kernel) rfl, w_at 27 (by decide +kernel) rfl⟩
theorem kL_53 : x_kV "CallMarketLaw" 53 mR_depth := ⟨w_at 642 (by decide +kernel) rfl, w_at 643 (by decide +kernel) rfl, w_at 644 (by decide +kernel) rfl, w_at 33 (by decide +kernel) rfl⟩
theorem kL_54 : x_kV "CallMarketLaw" 54 mC_ahead := ⟨w_at 414 (by decide +kernel) rfl, w_at 415 (by decide +kernel) rfl, w_at 416 (by decide +kernel) rfl, w_at 27 (by decide +kernel) rfl⟩
theorem kL_57 : x_kV "CallMarketLaw" 57 mR_ahead := ⟨w_at 646 (by decide +kernel) rfl, w_at 647 (by decide +kernel) rfl, w_at 648 (by decide +kernel) rfl, w_at 33 (by decide +kernel) rfl⟩
theorem kL_58 : x_kV "CallMarketLaw" 58 mC_left := ⟨w_at 418 (by decide +kernel) rfl, w_at 419 (by decide +kernel) rfl, w_at 420 (by decide +kernel) rfl, w_at 27 (by decide +kernel) rfl⟩
theorem kL_61 : x_kV "CallMarketLaw" 61 mR_left := ⟨w_at 650 (by decide +kernel) rfl, w_at 651 (by decide +kernel) rfl, w_at 652 (by decide +kernel) rfl, w_at 33 (by decide +kernel) rfl⟩
theorem kL_62 : x_kV "CallMarketLaw" 62 mC_state := ⟨w_at 422 (by decide +kernel) rfl, w_at 423 (by decide +kernel) rfl, w_at 424 (by decide +kernel) rfl, w_at 27 (by decide +kernel) rfl⟩
theorem kL_65 : x_kV "CallMarketLaw" 65 mR_state := ⟨w_at 654 (by decide +kernel) rfl, w_at 655 (by decide +kernel) rfl, w_at 656 (by decide +kernel) rfl, w_at 33 (by decide +kernel) rfl⟩
theorem kL_66 : x_kV "CallMarketLaw" 66 mC_trades := ⟨w_at 426 (by decide +kernel) rfl, w_at 427 (by decide +kernel) rfl, w_at 428 (by decide +kernel) rfl, w_at 27 (by decide +kernel) rfl⟩
theorem kL_70 : x_kV "CallMarketLaw" 70 mR_trades := ⟨w_at 658 (by decide +kernel) rfl, w_at 659 (by decide +kernel) rfl, w_at 660 (by decide +kernel) rfl, w_at 33 (by decide +kernel) rfl⟩
theorem kL_71 : x_kV "CallMarketLaw" 71 mC_trade := ⟨w_at 430 (by decide +kernel) rfl, w_at 431 (by decide +kernel) rfl, w_at 432 (by decide +kernel) rfl, w_at 27 (by decide +kernel) rfl⟩
theorem kL_74 : x_kV "CallMarketLaw" 74 mR_trade := ⟨w_at 662 (by decide +kernel) rfl, w_at 663 (by decide +kernel) rfl, w_at 664 (by decide +kernel) rfl, w_at 33 (by decide +kernel) rfl⟩
theorem kL_75 : x_kV "CallMarketLaw" 75 mC_position := ⟨w_at 442 (by decide +kernel) rfl, w_at 443 (by decide +kernel) rfl, w_at 444 (by decide +kernel) rfl, w_at 27 (by decide +kernel) rfl⟩
theorem kL_78 : x_kV "CallMarketLaw" 78 mR_position := ⟨w_at 666 (by decide +kernel) rfl, w_at 667 (by decide +kernel) rfl, w_at 668 (by decide +kernel) rfl, w_at 33 (by decide +kernel) rfl⟩
theorem kL_79 : x_kV "CallMarketLaw" 79 mC_money := ⟨w_at 446 (by decide +kernel) rfl, w_at 447 (by decide +kernel) rfl, w_at 448 (by decide +kernel) rfl, w_at 27 (by decide +kernel) rfl⟩
theorem kL_83 : x_kV "CallMarketLaw" 83 mR_money := ⟨w_at 670 (by decide +kernel) rfl, w_at 671 (by decide +kernel) rfl, w_at 672 (by decide +kernel) rfl, w_at 33 (by decide +kernel) rfl⟩
theorem kL_84 : x_kV "CallMarketLaw" 84 mC_owed := ⟨w_at 450 (by decide +kernel) rfl, w_at 451 (by decide +kernel) rfl, w_at 452 (by decide +kernel) rfl, w_at 27 (by decide +kernel) rfl⟩
theorem kL_87 : x_kV "CallMarketLaw" 87 mR_owed := ⟨w_at 674 (by decide +kernel) rfl, w_at 675 (by decide +kernel) rfl, w_at 676 (by decide +kernel) rfl, w_at 33 (by decide +kernel) rfl⟩
theorem kL_88 : x_kV "CallMarketLaw" 88 mC_risk := ⟨w_at 454 (by decide +kernel) rfl, w_at 455 (by decide +kernel) rfl, w_at 456 (by decide +kernel) rfl, w_at 27 (by decide +kernel) rfl⟩
theorem kL_91 : x_kV "CallMarketLaw" 91 mR_risk := ⟨w_at 678 (by decide +kernel) rfl, w_at 679 (by decide +kernel) rfl, w_at 680 (by decide +kernel) rfl, w_at 33 (by decide +kernel) rfl⟩
theorem kL_92 : x_kV "CallMarketLaw" 92 mC_settle := ⟨w_at 458 (by decide +kernel) rfl, w_at 459 (by decide +kernel) rfl, w_at 460 (by decide +kernel) rfl, w_at 27 (by decide +kernel) rfl⟩
theorem kL_95 : x_kV "CallMarketLaw" 95 mR_settle := ⟨w_at 682 (by decide +kernel) rfl, w_at 683 (by decide +kernel) rfl, w_at 684 (by decide +kernel) rfl, w_at 33 (by decide +kernel) rfl⟩
theorem j_i : Cond.instanceMethod Lib.objectInit ∈ wsA := w_at 43 (by decide +kernel) rfl
theorem j_c : Cond.code Lib.objectInit ⟨#[0xb1]⟩ 1 none ∈ wsA := w_at 44 (by decide +kernel) rfl
theorem oC_init : x_ok1 mC_init 0 := ⟨w_at 41 (by decide +kernel) rfl, by decide +kernel, by decide⟩
theorem oT_init : x_ok1 mT_init 0 := ⟨w_at 55 (by decide +kernel) rfl, by decide +kernel, by decide⟩
theorem oS_init : x_ok1 mS_init 0 := ⟨w_at 70 (by decide +kernel) rfl, by decide +kernel, by decide⟩
theorem oA_init : x_ok1 mA_init 0 := ⟨w_at 82 (by decide +kernel) rfl, by decide +kernel, by decide⟩
theorem oB_init : x_ok1 mB_init 0 := ⟨w_at 100 (by decide +kernel) rfl, by decide +kernel, by decide⟩
theorem oD_init : x_ok1 mD_init 0 := ⟨w_at 106 (by decide +kernel) rfl, by decide +kernel, by decide⟩
theorem oC_deposit : x_ok1 mC_deposit 2 := ⟨w_at 157 (by decide +kernel) rfl, by decide +kernel, by decide⟩
theorem oC_isMember : x_ok1 mC_isMember 1 := ⟨w_at 160 (by decide +kernel) rfl, by decide +kernel, by decide⟩
theorem oC_riskOf : x_ok1 mC_riskOf 1 := ⟨w_at 166 (by decide +kernel) rfl, by decide +kernel, by decide⟩
theorem oC_riskWith : x_ok1 mC_riskWith 4 := ⟨w_at 170 (by decide +kernel) rfl, by decide +kernel, by decide⟩
theorem oD_leftOf : x_ok1 mD_leftOf 1 := ⟨w_at 174 (by decide +kernel) rfl, by decide +kernel, by decide⟩
theorem oM_abs : x_ok1 mM_abs 1 := ⟨w_at 179 (by decide +kernel) rfl, by decide +kernel, by decide⟩
theorem oM_max : x_ok1 mM_max 2 := ⟨w_at 182 (by decide +kernel) rfl, by decide +kernel, by decide⟩
theorem oC_place : x_ok1 mC_place 5 := ⟨w_at 186 (by decide +kernel) rfl, by decide +kernel, by decide⟩
theorem oC_isInstrument : x_ok1 mC_isInstrument 1 := ⟨w_at 189 (by decide +kernel) rfl, by decide +kernel, by decide⟩
theorem oC_isHow : x_ok1 mC_isHow 1 := ⟨w_at 192 (by decide +kernel) rfl, by decide +kernel, by decide⟩
theorem oC_kindOf : x_ok1 mC_kindOf 1 := ⟨w_at 195 (by decide +kernel) rfl, by decide +kernel, by decide⟩
theorem oC_isPrice : x_ok1 mC_isPrice 1 := ⟨w_at 198 (by decide +kernel) rfl, by decide +kernel, by decide⟩
theorem oC_sideOf : x_ok1 mC_sideOf 1 := ⟨w_at 201 (by decide +kernel) rfl, by decide +kernel, by decide⟩
theorem oO_init : x_ok1 mO_init 6 := ⟨w_at 205 (by decide +kernel) rfl, by decide +kernel, by decide⟩
theorem oB_refuses : x_ok1 mB_refuses 1 := ⟨w_at 265 (by decide +kernel) rfl, by decide +kernel, by decide⟩
theorem oB_facing : x_ok1 mB_facing 1 := ⟨w_at 269 (by decide +kernel) rfl, by decide +kernel, by decide⟩
theorem oO_accepts : x_ok1 mO_accepts 1 := ⟨w_at 273 (by decide +kernel) rfl, by decide +kernel, by decide⟩
theorem oD_leftFor : x_ok1 mD_leftFor 1 := ⟨w_at 277 (by decide +kernel) rfl, by decide +kernel, by decide⟩
theorem oC_admit : x_ok1 mC_admit 2 := ⟨w_at 282 (by decide +kernel) rfl, by decide +kernel, by decide⟩
theorem oC_meet : x_ok1 mC_meet 2 := ⟨w_at 286 (by decide +kernel) rfl, by decide +kernel, by decide⟩
theorem oC_takeAway : x_ok1 mC_takeAway 2 := ⟨w_at 292 (by decide +kernel) rfl, by decide +kernel, by decide⟩
theorem oB_on : x_ok1 mB_on 1 := ⟨w_at 296 (by decide +kernel) rfl, by decide +kernel, by decide⟩
theorem oD_leave : x_ok1 mD_leave 1 := ⟨w_at 300 (by decide +kernel) rfl, by decide +kernel, by decide⟩
theorem oD_link : x_ok1 mD_link 2 := ⟨w_at 304 (by decide +kernel) rfl, by decide +kernel, by decide⟩
theorem oC_tradeWithShown : x_ok1 mC_tradeWithShown 3 := ⟨w_at 308 (by decide +kernel) rfl, by decide +kernel, by decide⟩
theorem oM_min : x_ok1 mM_min 2 := ⟨w_at 311 (by decide +kernel) rfl, by decide +kernel, by decide⟩
theorem oC_exchange : x_ok1 mC_exchange 4 := ⟨w_at 315 (by decide +kernel) rfl, by decide +kernel, by decide⟩
theorem oA_enter : x_ok1 mA_enter 3 := ⟨w_at 319 (by decide +kernel) rfl, by decide +kernel, by decide⟩
theorem oT_write : x_ok1 mT_write 4 := ⟨w_at 323 (by decide +kernel) rfl, by decide +kernel, by decide⟩
theorem oO_showAnew : x_ok1 mO_showAnew 0 := ⟨w_at 327 (by decide +kernel) rfl, by decide +kernel, by decide⟩
theorem oD_join : x_ok1 mD_join 1 := ⟨w_at 332 (by decide +kernel) rfl, by decide +kernel, by decide⟩
theorem oD_isBetter : x_ok1 mD_isBetter 2 := ⟨w_at 335 (by decide +kernel) rfl, by decide +kernel, by decide⟩
theorem oC_cancel : x_ok1 mC_cancel 2 := ⟨w_at 339 (by decide +kernel) rfl, by decide +kernel, by decide⟩
theorem oC_findResting : x_ok1 mC_findResting 2 := ⟨w_at 343 (by decide +kernel) rfl, by decide +kernel, by decide⟩
theorem oC_find : x_ok1 mC_find 1 := ⟨w_at 347 (by decide +kernel) rfl, by decide +kernel, by decide⟩
theorem oC_amend : x_ok1 mC_amend 3 := ⟨w_at 351 (by decide +kernel) rfl, by decide +kernel, by decide⟩
theorem oC_open : x_ok1 mC_open 1 := ⟨w_at 355 (by decide +kernel) rfl, by decide +kernel, by decide⟩
theorem oS_findCallPrice : x_ok1 mS_findCallPrice 1 := ⟨w_at 359 (by decide +kernel) rfl, by decide +kernel, by decide⟩
theorem oS_weigh : x_ok1 mS_weigh 1 := ⟨w_at 363 (by decide +kernel) rfl, by decide +kernel, by decide⟩
theorem oY_fill : x_ok1 mY_fill 2 := ⟨w_at 366 (by decide +kernel) rfl, by decide +kernel, by decide⟩
theorem oS_volumeAt : x_ok1 mS_volumeAt 1 := ⟨w_at 370 (by decide +kernel) rfl, by decide +kernel, by decide⟩
theorem oS_surplusAt : x_ok1 mS_surplusAt 1 := ⟨w_at 375 (by decide +kernel) rfl, by decide +kernel, by decide⟩
theorem oS_choose : x_ok1 mS_choose 3 := ⟨w_at 380 (by decide +kernel) rfl, by decide +kernel, by decide⟩
theorem oC_tradeAll : x_ok1 mC_tradeAll 2 := ⟨w_at 384 (by decide +kernel) rfl, by decide +kernel, by decide⟩
theorem oC_keepOrFill : x_ok1 mC_keepOrFill 1 := ⟨w_at 388 (by decide +kernel) rfl, by decide +kernel, by decide⟩
theorem oC_close : x_ok1 mC_close 1 := ⟨w_at 392 (by decide +kernel) rfl, by decide +kernel, by decide⟩
theorem oC_indication : x_ok1 mC_indication 2 := ⟨w_at 396 (by decide +kernel) rfl, by decide +kernel, by decide⟩
theorem oC_best : x_ok1 mC_best 2 := ⟨w_at 402 (by decide +kernel) rfl, by decide +kernel, by decide⟩
theorem oC_isSide : x_ok1 mC_isSide 1 := ⟨w_at 405 (by decide +kernel) rfl, by decide +kernel, by decide⟩
theorem oC_depth : x_ok1 mC_depth 3 := ⟨w_at 409 (by decide +kernel) rfl, by decide +kernel, by decide⟩
theorem oD_shownInQueue : x_ok1 mD_shownInQueue 2 := ⟨w_at 413 (by decide +kernel) rfl, by decide +kernel, by decide⟩
theorem oC_ahead : x_ok1 mC_ahead 1 := ⟨w_at 417 (by decide +kernel) rfl, by decide +kernel, by decide⟩
theorem oC_left : x_ok1 mC_left 1 := ⟨w_at 421 (by decide +kernel) rfl, by decide +kernel, by decide⟩
theorem oC_state : x_ok1 mC_state 1 := ⟨w_at 425 (by decide +kernel) rfl, by decide +kernel, by decide⟩
theorem oC_trades : x_ok1 mC_trades 0 := ⟨w_at 429 (by decide +kernel) rfl, by decide +kernel, by decide⟩
theorem oC_trade : x_ok1 mC_trade 2 := ⟨w_at 433 (by decide +kernel) rfl, by decide +kernel, by decide⟩
theorem oT_holds : x_ok1 mT_holds 1 := ⟨w_at 437 (by decide +kernel) rfl, by decide +kernel, by decide⟩
theorem oT_read : x_ok1 mT_read 2 := ⟨w_at 441 (by decide +kernel) rfl, by decide +kernel, by decide⟩
theorem oC_position : x_ok1 mC_position 2 := ⟨w_at 445 (by decide +kernel) rfl, by decide +kernel, by decide⟩
theorem oC_money : x_ok1 mC_money 1 := ⟨w_at 449 (by decide +kernel) rfl, by decide +kernel, by decide⟩
theorem oC_owed : x_ok1 mC_owed 1 := ⟨w_at 453 (by decide +kernel) rfl, by decide +kernel, by decide⟩
theorem oC_risk : x_ok1 mC_risk 1 := ⟨w_at 457 (by decide +kernel) rfl, by decide +kernel, by decide⟩
theorem oC_settle : x_ok1 mC_settle 0 := ⟨w_at 461 (by decide +kernel) rfl, by decide +kernel, by decide⟩
theorem oB_endDay : x_ok1 mB_endDay 0 := ⟨w_at 465 (by decide +kernel) rfl, by decide +kernel, by decide⟩
theorem oD_withdrawAll : x_ok1 mD_withdrawAll 0 := ⟨w_at 469 (by decide +kernel) rfl, by decide +kernel, by decide⟩
theorem oR_init : x_ok1 mR_init 0 := ⟨w_at 474 (by decide +kernel) rfl, by decide +kernel, by decide⟩
theorem oR_deposit : x_ok1 mR_deposit 2 := ⟨w_at 545 (by decide +kernel) rfl, by decide +kernel, by decide⟩
theorem oR_noMember : x_ok1 mR_noMember 1 := ⟨w_at 548 (by decide +kernel) rfl, by decide +kernel, by decide⟩
theorem oR_outside : x_ok1 mR_outside 3 := ⟨w_at 551 (by decide +kernel) rfl, by decide +kernel, by decide⟩
theorem oR_riskWith : x_ok1 mR_riskWith 4 := ⟨w_at 557 (by decide +kernel) rfl, by decide +kernel, by decide⟩
theorem oR_size : x_ok1 mR_size 1 := ⟨w_at 560 (by decide +kernel) rfl, by decide +kernel, by decide⟩
theorem oR_place : x_ok1 mR_place 5 := ⟨w_at 564 (by decide +kernel) rfl, by decide +kernel, by decide⟩
theorem oR_unfit : x_ok1 mR_unfit 6 := ⟨w_at 568 (by decide +kernel) rfl, by decide +kernel, by decide⟩
theorem oR_waits : x_ok1 mR_waits 3 := ⟨w_at 572 (by decide +kernel) rfl, by decide +kernel, by decide⟩
theorem oR_good : x_ok1 mR_good 4 := ⟨w_at 575 (by decide +kernel) rfl, by decide +kernel, by decide⟩
theorem oR_meet : x_ok1 mR_meet 1 := ⟨w_at 579 (by decide +kernel) rfl, by decide +kernel, by decide⟩
theorem oR_front : x_ok1 mR_front 2 := ⟨w_at 583 (by decide +kernel) rfl, by decide +kernel, by decide⟩
theorem oR_better : x_ok1 mR_better 3 := ⟨w_at 586 (by decide +kernel) rfl, by decide +kernel, by decide⟩
theorem oR_shows : x_ok1 mR_shows 1 := ⟨w_at 590 (by decide +kernel) rfl, by decide +kernel, by decide⟩
theorem oR_swap : x_ok1 mR_swap 4 := ⟨w_at 594 (by decide +kernel) rfl, by decide +kernel, by decide⟩
theorem oR_queue : x_ok1 mR_queue 1 := ⟨w_at 598 (by decide +kernel) rfl, by decide +kernel, by decide⟩
theorem oR_cancel : x_ok1 mR_cancel 2 := ⟨w_at 602 (by decide +kernel) rfl, by decide +kernel, by decide⟩
theorem oR_isResting : x_ok1 mR_isResting 1 := ⟨w_at 606 (by decide +kernel) rfl, by decide +kernel, by decide⟩
theorem oR_amend : x_ok1 mR_amend 3 := ⟨w_at 610 (by decide +kernel) rfl, by decide +kernel, by decide⟩
theorem oR_open : x_ok1 mR_open 1 := ⟨w_at 614 (by decide +kernel) rfl, by decide +kernel, by decide⟩
theorem oR_look : x_ok1 mR_look 1 := ⟨w_at 618 (by decide +kernel) rfl, by decide +kernel, by decide⟩
theorem oR_willing : x_ok1 mR_willing 3 := ⟨w_at 622 (by decide +kernel) rfl, by decide +kernel, by decide⟩
theorem oR_distance : x_ok1 mR_distance 2 := ⟨w_at 625 (by decide +kernel) rfl, by decide +kernel, by decide⟩
theorem oR_after : x_ok1 mR_after 1 := ⟨w_at 629 (by decide +kernel) rfl, by decide +kernel, by decide⟩
theorem oR_close : x_ok1 mR_close 1 := ⟨w_at 633 (by decide +kernel) rfl, by decide +kernel, by decide⟩
theorem oR_indication : x_ok1 mR_indication 2 := ⟨w_at 637 (by decide +kernel) rfl, by decide +kernel, by decide⟩
theorem oR_best : x_ok1 mR_best 2 := ⟨w_at 641 (by decide +kernel) rfl, by decide +kernel, by decide⟩
theorem oR_depth : x_ok1 mR_depth 3 := ⟨w_at 645 (by decide +kernel) rfl, by decide +kernel, by decide⟩
theorem oR_ahead : x_ok1 mR_ahead 1 := ⟨w_at 649 (by decide +kernel) rfl, by decide +kernel, by decide⟩
theorem oR_left : x_ok1 mR_left 1 := ⟨w_at 653 (by decide +kernel) rfl, by decide +kernel, by decide⟩
theorem oR_state : x_ok1 mR_state 1 := ⟨w_at 657 (by decide +kernel) rfl, by decide +kernel, by decide⟩
theorem oR_trades : x_ok1 mR_trades 0 := ⟨w_at 661 (by decide +kernel) rfl, by decide +kernel, by decide⟩
theorem oR_trade : x_ok1 mR_trade 2 := ⟨w_at 665 (by decide +kernel) rfl, by decide +kernel, by decide⟩
theorem oR_position : x_ok1 mR_position 2 := ⟨w_at 669 (by decide +kernel) rfl, by decide +kernel, by decide⟩
theorem oR_money : x_ok1 mR_money 1 := ⟨w_at 673 (by decide +kernel) rfl, by decide +kernel, by decide⟩
theorem oR_owed : x_ok1 mR_owed 1 := ⟨w_at 677 (by decide +kernel) rfl, by decide +kernel, by decide⟩
theorem oR_risk : x_ok1 mR_risk 1 := ⟨w_at 681 (by decide +kernel) rfl, by decide +kernel, by decide⟩
theorem oR_settle : x_ok1 mR_settle 0 := ⟨w_at 685 (by decide +kernel) rfl, by decide +kernel, by decide⟩
end
section
def x_is (r : Option xV) (h : xH) : Option xV → xH → Prop := fun r' h' => r' = r ∧ h' = h
section XF
variable {l : Launch} {G : xG} {M M' : xM} {d kc ks d' : Nat} {nk : List xQ} {Q : Option xV → xH → Prop} {pc index : Nat} {L : List (Option xV)} {st st0 As : List xV} {h h' : xH} {v : xV}
theorem x_fVv {ci : Nat} {b : xQ} {fs : List xV} {T : u_T} {n : Nat} (t : Nat) (hM : x_C l G M' d' 0 0 (xR (some b) :: As) h [] (x_is (some v) h')) (hg : x_kV M.1.cls index M') (ho : x_ok1 M' As.length) (hcl : vwCl[ci]? = some (M'.1.cls, T, n)) (he : h b = some (.inr (ci, fs))) (hd : decode M.2.1 pc = .ok (.invokevirtual index, 3)) (ht : pc + 3 = t) (hst : st0 = As.reverse ++ xR (some b) :: st) (hdd : d' + 1 ≤ d) (h8 : (st.map x_cat).sum ≤ 8) (kk : x_X l G M d kc ks nk Q t L (v :: st) h') : x_X l G M d kc ks nk Q pc L st0 h :=
  x_callV t hM hg ho hcl he hd ht hst hdd (Nat.zero_le _) (Nat.zero_le _) h8 (fun _ q => nomatch q) (fun _ _ _ q => nomatch q) (fun _ _ _ q => nomatch q) (fun r h1 hq => by obtain ⟨rfl, rfl⟩ := hq; exact kk)
theorem x_fSv (t : Nat) (hM : x_C l G M' d' 0 0 As h [] (x_is (some v) h')) (hg : x_kS M.1.cls index M') (ho : x_ok1 M' As.length) (hd : decode M.2.1 pc = .ok (.invokestatic index, 3)) (ht : pc + 3 = t) (hst : st0 = As.reverse ++ st) (hdd : d' + 1 ≤ d) (h8 : (st.map x_cat).sum ≤ 8) (kk : x_X l G M d kc ks nk Q t L (v :: st) h') : x_X l G M d kc ks nk Q pc L st0 h :=
  x_callS t hM hg ho hd ht hst hdd (Nat.zero_le _) (Nat.zero_le _) h8 (fun _ q => nomatch q) (fun _ _ _ q => nomatch q) (fun _ _ _ q => nomatch q) (fun r h1 hq => by obtain ⟨rfl, rfl⟩ := hq; exact kk)
theorem x_fVn {ci : Nat} {b : xQ} {fs : List xV} {T : u_T} {n : Nat} (t : Nat) (hM : x_C l G M' d' 0 0 (xR (some b) :: As) h [] (x_is none h')) (hg : x_kV M.1.cls index M') (ho : x_ok1 M' As.length) (hcl : vwCl[ci]? = some (M'.1.cls, T, n)) (he : h b = some (.inr (ci, fs))) (hd : decode M.2.1 pc = .ok (.invokevirtual index, 3)) (ht : pc + 3 = t) (hst : st0 = As.reverse ++ xR (some b) :: st) (hdd : d' + 1 ≤ d) (h8 : (st.map x_cat).sum ≤ 8) (kk : x_X l G M d kc ks nk Q t L st h') : x_X l G M d kc ks nk Q pc L st0 h :=
  x_callV t hM hg ho hcl he hd ht hst hdd (Nat.zero_le _) (Nat.zero_le _) h8 (fun _ q => nomatch q) (fun _ _ _ q => nomatch q) (fun _ _ _ q => nomatch q) (fun r h1 hq => by obtain ⟨rfl, rfl⟩ := hq; exact kk)
theorem x_fSn (t : Nat) (hM : x_C l G M' d' 0 0 As h [] (x_is none h')) (hg : x_kS M.1.cls index M') (ho : x_ok1 M' As.length) (hd : decode M.2.1 pc = .ok (.invokestatic index, 3)) (ht : pc + 3 = t) (hst : st0 = As.reverse ++ st) (hdd : d' + 1 ≤ d) (h8 : (st.map x_cat).sum ≤ 8) (kk : x_X l G M d kc ks nk Q t L st h') : x_X l G M d kc ks nk Q pc L st0 h :=
  x_callS t hM hg ho hd ht hst hdd (Nat.zero_le _) (Nat.zero_le _) h8 (fun _ q => nomatch q) (fun _ _ _ q => nomatch q) (fun _ _ _ q => nomatch q) (fun r h1 hq => by obtain ⟨rfl, rfl⟩ := hq; exact kk)
theorem x_fSNv {host : String} (t : Nat) (hM : x_C l G M' d' 0 0 As h [] (x_is (some v) h')) (hg : x_kSN M.1.cls index M' host) (ho : x_ok1 M' As.length) (hd : decode M.2.1 pc = .ok (.invokestatic index, 3)) (ht : pc + 3 = t) (hst : st0 = As.reverse ++ st) (hdd : d' + 1 ≤ d) (h8 : (st.map x_cat).sum ≤ 8) (kk : x_X l G M d kc ks nk Q t L (v :: st) h') : x_X l G M d kc ks nk Q pc L st0 h :=
  x_callSN t hM hg ho hd ht hst hdd (Nat.zero_le _) (Nat.zero_le _) h8 (fun _ q => nomatch q) (fun _ _ _ q => nomatch q) (fun _ _ _ q => nomatch q) (fun r h1 hq => by obtain ⟨rfl, rfl⟩ := hq; exact kk)
theorem x_ifnull_n {off : Int} (tgt t : Nat) (hd : decode M.2.1 pc = .ok (.ifnull off, 3)) (hg : (pc : Int) + off = (tgt : Int)) (ht : pc + 3 = t) (kk : x_X l G M d kc ks nk Q tgt L st h) : x_X l G M d kc ks nk Q pc L (xR none :: st) h :=
  x_ifnull tgt t hd hg ht (fun _ => kk) (fun _ q => by cases q)
theorem x_ifnull_s {a : xQ} {off : Int} (tgt t : Nat) (hd : decode M.2.1 pc = .ok (.ifnull off, 3)) (hg : (pc : Int) + off = (tgt : Int)) (ht : pc + 3 = t) (kk : x_X l G M d kc ks nk Q t L st h) : x_X l G M d kc ks nk Q pc L (xR (some a) :: st) h :=
  x_ifnull tgt t hd hg ht (fun q => by cases q) (fun _ _ => kk)
theorem x_ifnonnull_n {off : Int} (tgt t : Nat) (hd : decode M.2.1 pc = .ok (.ifnonnull off, 3)) (hg : (pc : Int) + off = (tgt : Int)) (ht : pc + 3 = t) (kk : x_X l G M d kc ks nk Q t L st h) : x_X l G M d kc ks nk Q pc L (xR none :: st) h :=
  x_ifnonnull tgt t hd hg ht (fun _ q => by cases q) (fun _ => kk)
theorem x_ifnonnull_s {a : xQ} {off : Int} (tgt t : Nat) (hd : decode M.2.1 pc = .ok (.ifnonnull off, 3)) (hg : (pc : Int) + off = (tgt : Int)) (ht : pc + 3 = t) (kk : x_X l G M d kc ks nk Q tgt L st h) : x_X l G M d kc ks nk Q pc L (xR (some a) :: st) h :=
  x_ifnonnull tgt t hd hg ht (fun _ _ => kk) (fun q => by cases q)
end XF
section XY
variable {l : Launch} {G : xG} {M : xM} {d kc ks : Nat} {nk : List xQ} {Q : Option xV → xH → Prop} {pc index : Nat} {L : List (Option xV)} {st : List xV} {N : Nat} {I : Nat → Nat → Int32} {J : Nat → Nat → Int64} {P : Nat → Nat → Option xQ} {V : Nat → Nat → Int32} {A : Nat → Nat → Int32} {B : Nat → Nat → Int64}
theorem y_O0 {k : Nat} {v : Int32} (t : Nat) (hf : x_pl M index 2 0 .int) (hd : decode M.2.1 pc = .ok (.putfield index, 3)) (ht : pc + 3 = t) (hk : k < N) (kk : x_X l G M d kc ks nk Q t L st (hp N (si I 0 k v) J P V A B)) : x_X l G M d kc ks nk Q pc L (xI v :: xR (some (0, k)) :: st) (hp N I J P V A B) :=
  x_put t hf hd ht (h_O hk) (x_fit_i v) (Nat.le_of_ble_eq_true rfl) (by rw [u_O0 hk]; exact kk)
theorem y_O1 {k : Nat} {v : Int32} (t : Nat) (hf : x_pl M index 2 1 .int) (hd : decode M.2.1 pc = .ok (.putfield index, 3)) (ht : pc + 3 = t) (hk : k < N) (kk : x_X l G M d kc ks nk Q t L st (hp N (si I 1 k v) J P V A B)) : x_X l G M d kc ks nk Q pc L (xI v :: xR (some (0, k)) :: st) (hp N I J P V A B) :=
  x_put t hf hd ht (h_O hk) (x_fit_i v) (Nat.le_of_ble_eq_true rfl) (by rw [u_O1 hk]; exact kk)
theorem y_O2 {k : Nat} {v : Int32} (t : Nat) (hf : x_pl M index 2 2 .int) (hd : decode M.2.1 pc = .ok (.putfield index, 3)) (ht : pc + 3 = t) (hk : k < N) (kk : x_X l G M d kc ks nk Q t L st (hp N (si I 2 k v) J P V A B)) : x_X l G M d kc ks nk Q pc L (xI v :: xR (some (0, k)) :: st) (hp N I J P V A B) :=
  x_put t hf hd ht (h_O hk) (x_fit_i v) (Nat.le_of_ble_eq_true rfl) (by rw [u_O2 hk]; exact kk)
theorem y_O3 {k : Nat} {v : Int32} (t : Nat) (hf : x_pl M index 2 3 .int) (hd : decode M.2.1 pc = .ok (.putfield index, 3)) (ht : pc + 3 = t) (hk : k < N) (kk : x_X l G M d kc ks nk Q t L st (hp N (si I 3 k v) J P V A B)) : x_X l G M d kc ks nk Q pc L (xI v :: xR (some (0, k)) :: st) (hp N I J P V A B) :=
  x_put t hf hd ht (h_O hk) (x_fit_i v) (Nat.le_of_ble_eq_true rfl) (by rw [u_O3 hk]; exact kk)
theorem y_O4 {k : Nat} {v : Int32} (t : Nat) (hf : x_pl M index 2 4 .int) (hd : decode M.2.1 pc = .ok (.putfield index, 3)) (ht : pc + 3 = t) (hk : k < N) (kk : x_X l G M d kc ks nk Q t L st (hp N (si I 4 k v) J P V A B)) : x_X l G M d kc ks nk Q pc L (xI v :: xR (some (0, k)) :: st) (hp N I J P V A B) :=
  x_put t hf hd ht (h_O hk) (x_fit_i v) (Nat.le_of_ble_eq_true rfl) (by rw [u_O4 hk]; exact kk)
theorem y_O5 {k : Nat} {v : Int32} (t : Nat) (hf : x_pl M index 2 5 .int) (hd : decode M.2.1 pc = .ok (.putfield index, 3)) (ht : pc + 3 = t) (hk : k < N) (kk : x_X l G M d kc ks nk Q t L st (hp N (si I 5 k v) J P V A B)) : x_X l G M d kc ks nk Q pc L (xI v :: xR (some (0, k)) :: st) (hp N I J P V A B) :=
  x_put t hf hd ht (h_O hk) (x_fit_i v) (Nat.le_of_ble_eq_true rfl) (by rw [u_O5 hk]; exact kk)
theorem y_O6 {k : Nat} {v : Int32} (t : Nat) (hf : x_pl M index 2 6 .int) (hd : decode M.2.1 pc = .ok (.putfield index, 3)) (ht : pc + 3 = t) (hk : k < N) (kk : x_X l G M d kc ks nk Q t L st (hp N (si I 6 k v) J P V A B)) : x_X l G M d kc ks nk Q pc L (xI v :: xR (some (0, k)) :: st) (hp N I J P V A B) :=
  x_put t hf hd ht (h_O hk) (x_fit_i v) (Nat.le_of_ble_eq_true rfl) (by rw [u_O6 hk]; exact kk)
theorem y_O7 {k : Nat} {v : Int32} (t : Nat) (hf : x_pl M index 2 7 .int) (hd : decode M.2.1 pc = .ok (.putfield index, 3)) (ht : pc + 3 = t) (hk : k < N) (kk : x_X l G M d kc ks nk Q t L st (hp N (si I 7 k v) J P V A B)) : x_X l G M d kc ks nk Q pc L (xI v :: xR (some (0, k)) :: st) (hp N I J P V A B) :=
  x_put t hf hd ht (h_O hk) (x_fit_i v) (Nat.le_of_ble_eq_true rfl) (by rw [u_O7 hk]; exact kk)
theorem y_O8 {k : Nat} {v : Int32} (t : Nat) (hf : x_pl M index 2 8 .int) (hd : decode M.2.1 pc = .ok (.putfield index, 3)) (ht : pc + 3 = t) (hk : k < N) (kk : x_X l G M d kc ks nk Q t L st (hp N (si I 8 k v) J P V A B)) : x_X l G M d kc ks nk Q pc L (xI v :: xR (some (0, k)) :: st) (hp N I J P V A B) :=
  x_put t hf hd ht (h_O hk) (x_fit_i v) (Nat.le_of_ble_eq_true rfl) (by rw [u_O8 hk]; exact kk)
theorem y_O9 {k : Nat} {v : Option xQ} (t : Nat) (hf : x_pl M index 2 9 (.object "CallMarket$Order")) (hd : decode M.2.1 pc = .ok (.putfield index, 3)) (ht : pc + 3 = t) (hk : k < N) (kk : x_X l G M d kc ks nk Q t L st (hp N I J (sp P 0 k v) V A B)) : x_X l G M d kc ks nk Q pc L (xR v :: xR (some (0, k)) :: st) (hp N I J P V A B) :=
  x_put t hf hd ht (h_O hk) (x_fit_o _ v) (Nat.le_of_ble_eq_true rfl) (by rw [u_O9 hk]; exact kk)
theorem y_A1 {k : Nat} {v : Int64} (t : Nat) (hf : x_pl M index 0 1 .long) (hd : decode M.2.1 pc = .ok (.putfield index, 3)) (ht : pc + 3 = t) (hk : k < 5) (kk : x_X l G M d kc ks nk Q t L st (hp N I (sj J 0 k v) P V A B)) : x_X l G M d kc ks nk Q pc L (xJ v :: xR (some (1, k)) :: st) (hp N I J P V A B) :=
  x_put t hf hd ht (h_A hk) (x_fit_l v) (Nat.le_of_ble_eq_true rfl) (by rw [u_A1 hk]; exact kk)
theorem y_A2 {k : Nat} {v : Int64} (t : Nat) (hf : x_pl M index 0 2 .long) (hd : decode M.2.1 pc = .ok (.putfield index, 3)) (ht : pc + 3 = t) (hk : k < 5) (kk : x_X l G M d kc ks nk Q t L st (hp N I (sj J 1 k v) P V A B)) : x_X l G M d kc ks nk Q pc L (xJ v :: xR (some (1, k)) :: st) (hp N I J P V A B) :=
  x_put t hf hd ht (h_A hk) (x_fit_l v) (Nat.le_of_ble_eq_true rfl) (by rw [u_A2 hk]; exact kk)
theorem y_B2 {k : Nat} {v : Int32} (t : Nat) (hf : x_pl M index 1 2 .boolean) (hd : decode M.2.1 pc = .ok (.putfield index, 3)) (ht : pc + 3 = t) (hk : k < 2) (h01 : x_fit .boolean (xI v)) (kk : x_X l G M d kc ks nk Q t L st (hp N (si I 10 k v) J P V A B)) : x_X l G M d kc ks nk Q pc L (xI v :: xR (some (3, k)) :: st) (hp N I J P V A B) :=
  x_put t hf hd ht (h_B hk) h01 (Nat.le_of_ble_eq_true rfl) (by rw [u_B2 hk]; exact kk)
theorem y_B3 {k : Nat} {v : Int32} (t : Nat) (hf : x_pl M index 1 3 .int) (hd : decode M.2.1 pc = .ok (.putfield index, 3)) (ht : pc + 3 = t) (hk : k < 2) (kk : x_X l G M d kc ks nk Q t L st (hp N (si I 11 k v) J P V A B)) : x_X l G M d kc ks nk Q pc L (xI v :: xR (some (3, k)) :: st) (hp N I J P V A B) :=
  x_put t hf hd ht (h_B hk) (x_fit_i v) (Nat.le_of_ble_eq_true rfl) (by rw [u_B3 hk]; exact kk)
theorem y_D0 {k : Nat} {v : Option xQ} (t : Nat) (hf : x_pl M index 4 0 (.object "CallMarket$Order")) (hd : decode M.2.1 pc = .ok (.putfield index, 3)) (ht : pc + 3 = t) (hk : k < 4) (kk : x_X l G M d kc ks nk Q t L st (hp N I J (sp P 1 k v) V A B)) : x_X l G M d kc ks nk Q pc L (xR v :: xR (some (4, k)) :: st) (hp N I J P V A B) :=
  x_put t hf hd ht (h_D hk) (x_fit_o _ v) (Nat.le_of_ble_eq_true rfl) (by rw [u_D0 hk]; exact kk)
theorem y_C5 {v : Int32} (t : Nat) (hf : x_pl M index 6 5 .int) (hd : decode M.2.1 pc = .ok (.putfield index, 3)) (ht : pc + 3 = t) (kk : x_X l G M d kc ks nk Q t L st (hp N (si I 12 0 v) J P V A B)) : x_X l G M d kc ks nk Q pc L (xI v :: xR (some (5, 0)) :: st) (hp N I J P V A B) :=
  x_put t hf hd ht rfl (x_fit_i v) (Nat.le_of_ble_eq_true rfl) (by rw [u_C5]; exact kk)
theorem y_T1 {v : Int32} (t : Nat) (hf : x_pl M index 5 1 .int) (hd : decode M.2.1 pc = .ok (.putfield index, 3)) (ht : pc + 3 = t) (kk : x_X l G M d kc ks nk Q t L st (hp N (si I 13 0 v) J P V A B)) : x_X l G M d kc ks nk Q pc L (xI v :: xR (some (9, 0)) :: st) (hp N I J P V A B) :=
  x_put t hf hd ht rfl (x_fit_i v) (Nat.le_of_ble_eq_true rfl) (by rw [u_T1]; exact kk)
theorem y_R0 {v : Int32} (t : Nat) (hf : x_pl M index 7 0 .int) (hd : decode M.2.1 pc = .ok (.putfield index, 3)) (ht : pc + 3 = t) (kk : x_X l G M d kc ks nk Q t L st (hp N I J P V (si A 13 0 v) B)) : x_X l G M d kc ks nk Q pc L (xI v :: xR (some (14, 0)) :: st) (hp N I J P V A B) :=
  x_put t hf hd ht rfl (x_fit_i v) (Nat.le_of_ble_eq_true rfl) (by rw [u_R0]; exact kk)
theorem y_R10 {v : Int32} (t : Nat) (hf : x_pl M index 7 10 .int) (hd : decode M.2.1 pc = .ok (.putfield index, 3)) (ht : pc + 3 = t) (kk : x_X l G M d kc ks nk Q t L st (hp N I J P V (si A 14 0 v) B)) : x_X l G M d kc ks nk Q pc L (xI v :: xR (some (14, 0)) :: st) (hp N I J P V A B) :=
  x_put t hf hd ht rfl (x_fit_i v) (Nat.le_of_ble_eq_true rfl) (by rw [u_R10]; exact kk)
theorem y_R16 {v : Int32} (t : Nat) (hf : x_pl M index 7 16 .int) (hd : decode M.2.1 pc = .ok (.putfield index, 3)) (ht : pc + 3 = t) (kk : x_X l G M d kc ks nk Q t L st (hp N I J P V (si A 15 0 v) B)) : x_X l G M d kc ks nk Q pc L (xI v :: xR (some (14, 0)) :: st) (hp N I J P V A B) :=
  x_put t hf hd ht rfl (x_fit_i v) (Nat.le_of_ble_eq_true rfl) (by rw [u_R16]; exact kk)
theorem y_R18 {v : Int32} (t : Nat) (hf : x_pl M index 7 18 .int) (hd : decode M.2.1 pc = .ok (.putfield index, 3)) (ht : pc + 3 = t) (kk : x_X l G M d kc ks nk Q t L st (hp N I J P V (si A 16 0 v) B)) : x_X l G M d kc ks nk Q pc L (xI v :: xR (some (14, 0)) :: st) (hp N I J P V A B) :=
  x_put t hf hd ht rfl (x_fit_i v) (Nat.le_of_ble_eq_true rfl) (by rw [u_R18]; exact kk)
theorem y_R19 {v : Int32} (t : Nat) (hf : x_pl M index 7 19 .int) (hd : decode M.2.1 pc = .ok (.putfield index, 3)) (ht : pc + 3 = t) (kk : x_X l G M d kc ks nk Q t L st (hp N I J P V (si A 17 0 v) B)) : x_X l G M d kc ks nk Q pc L (xI v :: xR (some (14, 0)) :: st) (hp N I J P V A B) :=
  x_put t hf hd ht rfl (x_fit_i v) (Nat.le_of_ble_eq_true rfl) (by rw [u_R19]; exact kk)
theorem y_R20 {v : Int32} (t : Nat) (hf : x_pl M index 7 20 .int) (hd : decode M.2.1 pc = .ok (.putfield index, 3)) (ht : pc + 3 = t) (kk : x_X l G M d kc ks nk Q t L st (hp N I J P V (si A 18 0 v) B)) : x_X l G M d kc ks nk Q pc L (xI v :: xR (some (14, 0)) :: st) (hp N I J P V A B) :=
  x_put t hf hd ht rfl (x_fit_i v) (Nat.le_of_ble_eq_true rfl) (by rw [u_R20]; exact kk)
theorem y_rows {i : Int32} {v : Int32} (t : Nat) (hd : decode M.2.1 pc = .ok (.iastore, 1)) (ht : pc + 1 = t) (hi : vp_in i 400) (kk : x_X l G M d kc ks nk Q t L st (hp N (si I 14 i.toNatClampNeg v) J P V A B)) : x_X l G M d kc ks nk Q pc L (xI v :: xI i :: xR (some (10, 0)) :: st) (hp N I J P V A B) :=
  x_iast t hd ht rfl hi (by rw [u_rows]; exact kk)
theorem y_bought {i : Int32} {v : Int32} (t : Nat) (hd : decode M.2.1 pc = .ok (.iastore, 1)) (ht : pc + 1 = t) (hi : vp_in i 65) (kk : x_X l G M d kc ks nk Q t L st (hp N (si I 15 i.toNatClampNeg v) J P V A B)) : x_X l G M d kc ks nk Q pc L (xI v :: xI i :: xR (some (12, 0)) :: st) (hp N I J P V A B) :=
  x_iast t hd ht rfl hi (by rw [u_bought]; exact kk)
theorem y_sold {i : Int32} {v : Int32} (t : Nat) (hd : decode M.2.1 pc = .ok (.iastore, 1)) (ht : pc + 1 = t) (hi : vp_in i 65) (kk : x_X l G M d kc ks nk Q t L st (hp N (si I 16 i.toNatClampNeg v) J P V A B)) : x_X l G M d kc ks nk Q pc L (xI v :: xI i :: xR (some (13, 0)) :: st) (hp N I J P V A B) :=
  x_iast t hd ht rfl hi (by rw [u_sold]; exact kk)
theorem y_P {k : Nat} {i v : Int32} (t : Nat) (hd : decode M.2.1 pc = .ok (.iastore, 1)) (ht : pc + 1 = t) (hk : k < 5) (hi : vp_in i 2) (kk : x_X l G M d kc ks nk Q t L st (hp N I J P (si V k i.toNatClampNeg v) A B)) : x_X l G M d kc ks nk Q pc L (xI v :: xI i :: xR (some (2, k)) :: st) (hp N I J P V A B) :=
  x_iast t hd ht (h_P hk) hi (by rw [u_P hk]; exact kk)
theorem y_orders {k : Nat} {i : Int32} (t : Nat) (hd : decode M.2.1 pc = .ok (.aastore, 1)) (ht : pc + 1 = t) (hk : k < N) (hi : vp_in i 120) (kk : x_X l G M d kc ks nk Q t L st (hp N I J (sp P 2 i.toNatClampNeg (some (0, k))) V A B)) : x_X l G M d kc ks nk Q pc L (xR (some (0, k)) :: xI i :: xR (some (8, 0)) :: st) (hp N I J P V A B) :=
  x_aast (r := (RO, TO, 10)) t rfl rfl hd ht rfl (h_O hk) hi (by rw [u_orders]; exact kk)
theorem y_ra0 {i : Int32} {v : Int32} (t : Nat) (hd : decode M.2.1 pc = .ok (.iastore, 1)) (ht : pc + 1 = t) (hi : vp_in i 120) (kk : x_X l G M d kc ks nk Q t L st (hp N I J P V (si A 0 i.toNatClampNeg v) B)) : x_X l G M d kc ks nk Q pc L (xI v :: xI i :: xR (some (15, 0)) :: st) (hp N I J P V A B) :=
  x_iast t hd ht rfl hi (by rw [u_ra0]; exact kk)
theorem y_ra1 {i : Int32} {v : Int32} (t : Nat) (hd : decode M.2.1 pc = .ok (.iastore, 1)) (ht : pc + 1 = t) (hi : vp_in i 120) (kk : x_X l G M d kc ks nk Q t L st (hp N I J P V (si A 1 i.toNatClampNeg v) B)) : x_X l G M d kc ks nk Q pc L (xI v :: xI i :: xR (some (15, 1)) :: st) (hp N I J P V A B) :=
  x_iast t hd ht rfl hi (by rw [u_ra1]; exact kk)
theorem y_ra2 {i : Int32} {v : Int32} (t : Nat) (hd : decode M.2.1 pc = .ok (.iastore, 1)) (ht : pc + 1 = t) (hi : vp_in i 120) (kk : x_X l G M d kc ks nk Q t L st (hp N I J P V (si A 2 i.toNatClampNeg v) B)) : x_X l G M d kc ks nk Q pc L (xI v :: xI i :: xR (some (15, 2)) :: st) (hp N I J P V A B) :=
  x_iast t hd ht rfl hi (by rw [u_ra2]; exact kk)
theorem y_ra3 {i : Int32} {v : Int32} (t : Nat) (hd : decode M.2.1 pc = .ok (.iastore, 1)) (ht : pc + 1 = t) (hi : vp_in i 120) (kk : x_X l G M d kc ks nk Q t L st (hp N I J P V (si A 3 i.toNatClampNeg v) B)) : x_X l G M d kc ks nk Q pc L (xI v :: xI i :: xR (some (15, 3)) :: st) (hp N I J P V A B) :=
  x_iast t hd ht rfl hi (by rw [u_ra3]; exact kk)
theorem y_ra4 {i : Int32} {v : Int32} (t : Nat) (hd : decode M.2.1 pc = .ok (.iastore, 1)) (ht : pc + 1 = t) (hi : vp_in i 120) (kk : x_X l G M d kc ks nk Q t L st (hp N I J P V (si A 4 i.toNatClampNeg v) B)) : x_X l G M d kc ks nk Q pc L (xI v :: xI i :: xR (some (15, 4)) :: st) (hp N I J P V A B) :=
  x_iast t hd ht rfl hi (by rw [u_ra4]; exact kk)
theorem y_ra5 {i : Int32} {v : Int32} (t : Nat) (hd : decode M.2.1 pc = .ok (.iastore, 1)) (ht : pc + 1 = t) (hi : vp_in i 120) (kk : x_X l G M d kc ks nk Q t L st (hp N I J P V (si A 5 i.toNatClampNeg v) B)) : x_X l G M d kc ks nk Q pc L (xI v :: xI i :: xR (some (15, 5)) :: st) (hp N I J P V A B) :=
  x_iast t hd ht rfl hi (by rw [u_ra5]; exact kk)
theorem y_ra6 {i : Int32} {v : Int32} (t : Nat) (hd : decode M.2.1 pc = .ok (.iastore, 1)) (ht : pc + 1 = t) (hi : vp_in i 120) (kk : x_X l G M d kc ks nk Q t L st (hp N I J P V (si A 6 i.toNatClampNeg v) B)) : x_X l G M d kc ks nk Q pc L (xI v :: xI i :: xR (some (15, 6)) :: st) (hp N I J P V A B) :=
  x_iast t hd ht rfl hi (by rw [u_ra6]; exact kk)
theorem y_ra7 {i : Int32} {v : Int32} (t : Nat) (hd : decode M.2.1 pc = .ok (.iastore, 1)) (ht : pc + 1 = t) (hi : vp_in i 120) (kk : x_X l G M d kc ks nk Q t L st (hp N I J P V (si A 7 i.toNatClampNeg v) B)) : x_X l G M d kc ks nk Q pc L (xI v :: xI i :: xR (some (15, 7)) :: st) (hp N I J P V A B) :=
  x_iast t hd ht rfl hi (by rw [u_ra7]; exact kk)
theorem y_ra8 {i : Int32} {v : Int32} (t : Nat) (hd : decode M.2.1 pc = .ok (.iastore, 1)) (ht : pc + 1 = t) (hi : vp_in i 120) (kk : x_X l G M d kc ks nk Q t L st (hp N I J P V (si A 8 i.toNatClampNeg v) B)) : x_X l G M d kc ks nk Q pc L (xI v :: xI i :: xR (some (15, 8)) :: st) (hp N I J P V A B) :=
  x_iast t hd ht rfl hi (by rw [u_ra8]; exact kk)
theorem y_rl0 {i : Int32} {v : Int64} (t : Nat) (hd : decode M.2.1 pc = .ok (.lastore, 1)) (ht : pc + 1 = t) (hi : vp_in i 5) (kk : x_X l G M d kc ks nk Q t L st (hp N I J P V A (sj B 0 i.toNatClampNeg v))) : x_X l G M d kc ks nk Q pc L (xJ v :: xI i :: xR (some (16, 0)) :: st) (hp N I J P V A B) :=
  x_last t hd ht rfl hi (by rw [u_rl0]; exact kk)
theorem y_rl1 {i : Int32} {v : Int64} (t : Nat) (hd : decode M.2.1 pc = .ok (.lastore, 1)) (ht : pc + 1 = t) (hi : vp_in i 5) (kk : x_X l G M d kc ks nk Q t L st (hp N I J P V A (sj B 1 i.toNatClampNeg v))) : x_X l G M d kc ks nk Q pc L (xJ v :: xI i :: xR (some (16, 1)) :: st) (hp N I J P V A B) :=
  x_last t hd ht rfl hi (by rw [u_rl1]; exact kk)
theorem y_held {i : Int32} {v : Int32} (t : Nat) (hd : decode M.2.1 pc = .ok (.iastore, 1)) (ht : pc + 1 = t) (hi : vp_in i 10) (kk : x_X l G M d kc ks nk Q t L st (hp N I J P V (si A 9 i.toNatClampNeg v) B)) : x_X l G M d kc ks nk Q pc L (xI v :: xI i :: xR (some (17, 0)) :: st) (hp N I J P V A B) :=
  x_iast t hd ht rfl hi (by rw [u_held]; exact kk)
theorem y_ref {i : Int32} {v : Int32} (t : Nat) (hd : decode M.2.1 pc = .ok (.iastore, 1)) (ht : pc + 1 = t) (hi : vp_in i 2) (kk : x_X l G M d kc ks nk Q t L st (hp N I J P V (si A 11 i.toNatClampNeg v) B)) : x_X l G M d kc ks nk Q pc L (xI v :: xI i :: xR (some (19, 0)) :: st) (hp N I J P V A B) :=
  x_iast t hd ht rfl hi (by rw [u_ref]; exact kk)
theorem y_rec {i : Int32} {v : Int32} (t : Nat) (hd : decode M.2.1 pc = .ok (.iastore, 1)) (ht : pc + 1 = t) (hi : vp_in i 400) (kk : x_X l G M d kc ks nk Q t L st (hp N I J P V (si A 12 i.toNatClampNeg v) B)) : x_X l G M d kc ks nk Q pc L (xI v :: xI i :: xR (some (20, 0)) :: st) (hp N I J P V A B) :=
  x_iast t hd ht rfl hi (by rw [u_rec]; exact kk)
theorem y_isOpen {i : Int32} {v : Int32} (t : Nat) (hd : decode M.2.1 pc = .ok (.bastore, 1)) (ht : pc + 1 = t) (hi : vp_in i 2) (h01 : narrow .boolean (.int v) = .int v) (kk : x_X l G M d kc ks nk Q t L st (hp N I J P V (si A 10 i.toNatClampNeg v) B)) : x_X l G M d kc ks nk Q pc L (xI v :: xI i :: xR (some (18, 0)) :: st) (hp N I J P V A B) :=
  x_bast t hd ht rfl hi h01 (by rw [u_isOpen]; exact kk)
end XY
end
section
section XM
variable {l : Launch} {G : xG} {M : xM} {d kc ks : Nat} {nk : List xQ} {Q : Option xV → xH → Prop} {pc index : Nat} {L : List (Option xV)} {st : List xV} {h : xH}
def i_min (a b : Int32) : Int32 := if b < a then b else a
def i_max (a b : Int32) : Int32 := if a < b then b else a
def i_abs (a : Int32) : Int32 := if 0 ≤ a then a else 0 - a
theorem m_min_c : mM_min.2.1 = Lib.Math.min.code := by decide +kernel
theorem m_max_c : mM_max.2.1 = Lib.Math.max.code := by decide +kernel
theorem m_abs_c : mM_abs.2.1 = Lib.Math.abs.code := by decide +kernel
theorem x_mmin {x y : Int32} (t : Nat) (hg : x_kS M.1.cls index mM_min) (hd : decode M.2.1 pc = .ok (.invokestatic index, 3)) (ht : pc + 3 = t) (hdd : 1 ≤ d) (h8 : (st.map x_cat).sum ≤ 20) (kk : x_X l G M d kc ks nk Q t L (xI (i_min x y) :: st) h) : x_X l G M d kc ks nk Q pc L (xI y :: xI x :: st) h := by
  subst ht
  intro p e R s m args below meth c H locs cells slots mc ms ls z0 z C hc hz hW hS hL
  have C' := C
  obtain ⟨hx, hb, hml, hown, hret, hlk, hnm, hts, hfr, hlo, hK, hN⟩ := C'
  have hco := hts _ oM_min.1
  rw [m_min_c] at hco
  exact va_mmin (x := x) (y := y) (rest := x_s z st) hx hb (by rw [hml]; exact hL.1.symm) hown (hts _ hg.1) (hts _ hg.2.1) (hts _ hg.2.2) hco (by omega) (by rw [x_sum]; omega) (by omega) (by omega) hd (kk p e R s m args below meth c H locs cells slots mc ms ls z0 z C hc hz hW hS hL)
theorem x_mmax {x y : Int32} (t : Nat) (hg : x_kS M.1.cls index mM_max) (hd : decode M.2.1 pc = .ok (.invokestatic index, 3)) (ht : pc + 3 = t) (hdd : 1 ≤ d) (h8 : (st.map x_cat).sum ≤ 20) (kk : x_X l G M d kc ks nk Q t L (xI (i_max x y) :: st) h) : x_X l G M d kc ks nk Q pc L (xI y :: xI x :: st) h := by
  subst ht
  intro p e R s m args below meth c H locs cells slots mc ms ls z0 z C hc hz hW hS hL
  have C' := C
  obtain ⟨hx, hb, hml, hown, hret, hlk, hnm, hts, hfr, hlo, hK, hN⟩ := C'
  have hco := hts _ oM_max.1
  rw [m_max_c] at hco
  exact va_mmax (x := x) (y := y) (rest := x_s z st) hx hb (by rw [hml]; exact hL.1.symm) hown (hts _ hg.1) (hts _ hg.2.1) (hts _ hg.2.2) hco (by omega) (by rw [x_sum]; omega) (by omega) (by omega) hd (kk p e R s m args below meth c H locs cells slots mc ms ls z0 z C hc hz hW hS hL)
theorem x_mabs {x : Int32} (t : Nat) (hg : x_kS M.1.cls index mM_abs) (hd : decode M.2.1 pc = .ok (.invokestatic index, 3)) (ht : pc + 3 = t) (hdd : 1 ≤ d) (h8 : (st.map x_cat).sum ≤ 20) (kk : x_X l G M d kc ks nk Q t L (xI (i_abs x) :: st) h) : x_X l G M d kc ks nk Q pc L (xI x :: st) h := by
  subst ht
  intro p e R s m args below meth c H locs cells slots mc ms ls z0 z C hc hz hW hS hL
  have C' := C
  obtain ⟨hx, hb, hml, hown, hret, hlk, hnm, hts, hfr, hlo, hK, hN⟩ := C'
  have hco := hts _ oM_abs.1
  rw [m_abs_c] at hco
  exact va_mabs (x := x) (rest := x_s z st) hx hb (by rw [hml]; exact hL.1.symm) hown (hts _ hg.1) (hts _ hg.2.1) (hts _ hg.2.2) hco (by omega) (by rw [x_sum]; omega) (by omega) (by omega) hd (kk p e R s m args below meth c H locs cells slots mc ms ls z0 z C hc hz hW hS hL)
theorem x_C.at {av : List xV} (L0 : List (Option xV)) (hy : plainName M.1.cls = true) (hn : (x_ent av).length ≤ M.2.2.1) (hL0 : x_ent av ++ List.replicate (M.2.2.1 - (x_ent av).length) none = L0) (hX : x_X l G M d kc ks nk Q 0 L0 [] h) : x_C l G M d kc ks av h nk Q := by
  refine x_C.of hy hn (x_less (fun i v hi => ?_) hX)
  rw [← hL0] at hi
  rw [List.getElem?_append] at hi
  split at hi
  · exact hi
  · rw [List.getElem?_replicate] at hi
    split at hi
    · cases hi
    · cases hi
end XM
section XD
variable {l : Launch} {G : xG} {M : xM} {d d1 kc ks : Nat} {nk : List xQ} {Q Q1 : Option xV → xH → Prop} {pc : Nat} {L : List (Option xV)} {st : List xV} {h : xH}
/-- more frames may be left -/
theorem x_wd (hd : d ≤ d1) (k : x_X l G M d kc ks nk Q pc L st h) : x_X l G M d1 kc ks nk Q pc L st h := by
  intro p e R s m args below meth c H locs cells slots mc ms ls z0 z C hc hz hW hS hL
  obtain ⟨hx, hb, hml, hown, hret, hlk, hnm, hts, hfr, hlo, hr⟩ := C
  exact k p e R s m args below meth c H locs cells slots mc ms ls z0 z ⟨hx, hb, hml, hown, hret, hlk, hnm, hts, by omega, by omega, hr⟩ hc hz hW hS hL
end XD
end
section
def x_ex (r : Option xV) (F : xH → Prop) : Option xV → xH → Prop := fun r' h' => r' = r ∧ F h'
section XE
variable {l : Launch} {G : xG} {M M' : xM} {d kc ks d' kc' ks' : Nat} {nk nk' : List xQ} {Q : Option xV → xH → Prop} {pc index : Nat} {L : List (Option xV)} {st st0 As : List xV} {h : xH} {F : xH → Prop} {v : xV}
theorem x_gVv {ci : Nat} {b : xQ} {fs : List xV} {T : u_T} {n : Nat} (t : Nat) (hM : x_C l G M' d' 0 0 (xR (some b) :: As) h [] (x_ex (some v) F)) (hg : x_kV M.1.cls index M') (ho : x_ok1 M' As.length) (hcl : vwCl[ci]? = some (M'.1.cls, T, n)) (he : h b = some (.inr (ci, fs))) (hd : decode M.2.1 pc = .ok (.invokevirtual index, 3)) (ht : pc + 3 = t) (hst : st0 = As.reverse ++ xR (some b) :: st) (hdd : d' + 1 ≤ d) (h8 : (st.map x_cat).sum ≤ 8) (kk : ∀ h1 : xH, F h1 → x_X l G M d kc ks nk Q t L (v :: st) h1) : x_X l G M d kc ks nk Q pc L st0 h :=
  x_callV t hM hg ho hcl he hd ht hst hdd (Nat.zero_le _) (Nat.zero_le _) h8 (fun _ q => nomatch q) (fun _ _ _ q => nomatch q) (fun _ _ _ q => nomatch q) (fun r h1 hq => by obtain ⟨rfl, hq⟩ := hq; exact kk h1 hq)
theorem x_aVv {ci : Nat} {b : xQ} {fs : List xV} {T : u_T} {n : Nat} (t : Nat) (hM : x_C l G M' d' kc' ks' (xR (some b) :: As) h nk' (x_ex (some v) F)) (hg : x_kV M.1.cls index M') (ho : x_ok1 M' As.length) (hcl : vwCl[ci]? = some (M'.1.cls, T, n)) (he : h b = some (.inr (ci, fs))) (hd : decode M.2.1 pc = .ok (.invokevirtual index, 3)) (ht : pc + 3 = t) (hst : st0 = As.reverse ++ xR (some b) :: st) (hdd : d' + 1 ≤ d) (h1 : kc' ≤ kc) (h2 : ks' ≤ ks) (h8 : (st.map x_cat).sum ≤ 8) (hnk : ∀ a ∈ nk', a ∈ nk) (hfS : x_far nk' st) (hfL : x_farL nk' L) (kk : ∀ h1 : xH, F h1 → x_X l G M d (kc - kc') (ks - ks') nk Q t L (v :: st) h1) : x_X l G M d kc ks nk Q pc L st0 h :=
  x_callV t hM hg ho hcl he hd ht hst hdd h1 h2 h8 hnk hfS hfL (fun r h1 hq => by obtain ⟨rfl, hq⟩ := hq; exact kk h1 hq)
theorem x_gVn {ci : Nat} {b : xQ} {fs : List xV} {T : u_T} {n : Nat} (t : Nat) (hM : x_C l G M' d' 0 0 (xR (some b) :: As) h [] (x_ex none F)) (hg : x_kV M.1.cls index M') (ho : x_ok1 M' As.length) (hcl : vwCl[ci]? = some (M'.1.cls, T, n)) (he : h b = some (.inr (ci, fs))) (hd : decode M.2.1 pc = .ok (.invokevirtual index, 3)) (ht : pc + 3 = t) (hst : st0 = As.reverse ++ xR (some b) :: st) (hdd : d' + 1 ≤ d) (h8 : (st.map x_cat).sum ≤ 8) (kk : ∀ h1 : xH, F h1 → x_X l G M d kc ks nk Q t L st h1) : x_X l G M d kc ks nk Q pc L st0 h :=
  x_callV t hM hg ho hcl he hd ht hst hdd (Nat.zero_le _) (Nat.zero_le _) h8 (fun _ q => nomatch q) (fun _ _ _ q => nomatch q) (fun _ _ _ q => nomatch q) (fun r h1 hq => by obtain ⟨rfl, hq⟩ := hq; exact kk h1 hq)
theorem x_aVn {ci : Nat} {b : xQ} {fs : List xV} {T : u_T} {n : Nat} (t : Nat) (hM : x_C l G M' d' kc' ks' (xR (some b) :: As) h nk' (x_ex none F)) (hg : x_kV M.1.cls index M') (ho : x_ok1 M' As.length) (hcl : vwCl[ci]? = some (M'.1.cls, T, n)) (he : h b = some (.inr (ci, fs))) (hd : decode M.2.1 pc = .ok (.invokevirtual index, 3)) (ht : pc + 3 = t) (hst : st0 = As.reverse ++ xR (some b) :: st) (hdd : d' + 1 ≤ d) (h1 : kc' ≤ kc) (h2 : ks' ≤ ks) (h8 : (st.map x_cat).sum ≤ 8) (hnk : ∀ a ∈ nk', a ∈ nk) (hfS : x_far nk' st) (hfL : x_farL nk' L) (kk : ∀ h1 : xH, F h1 → x_X l G M d (kc - kc') (ks - ks') nk Q t L st h1) : x_X l G M d kc ks nk Q pc L st0 h :=
  x_callV t hM hg ho hcl he hd ht hst hdd h1 h2 h8 hnk hfS hfL (fun r h1 hq => by obtain ⟨rfl, hq⟩ := hq; exact kk h1 hq)
theorem x_aI {b : xQ} (t : Nat) (hM : x_C l G M' d' kc' ks' (xR (some b) :: As) h nk' (x_ex none F)) (hg : x_kI M.1.cls index M') (ho : x_ok1 M' As.length) (hd : decode M.2.1 pc = .ok (.invokespecial index, 3)) (ht : pc + 3 = t) (hst : st0 = As.reverse ++ xR (some b) :: st) (hdd : d' + 1 ≤ d) (h1 : kc' ≤ kc) (h2 : ks' ≤ ks) (h8 : (st.map x_cat).sum ≤ 8) (hnk : ∀ a ∈ nk', a ∈ nk) (hfS : x_far nk' st) (hfL : x_farL nk' L) (kk : ∀ h1 : xH, F h1 → x_X l G M d (kc - kc') (ks - ks') nk Q t L st h1) : x_X l G M d kc ks nk Q pc L st0 h :=
  x_callI t hM hg ho hd ht hst hdd h1 h2 h8 hnk hfS hfL (fun r h1 hq => by obtain ⟨rfl, hq⟩ := hq; exact kk h1 hq)
theorem x_aIN {host : String} {b : xQ} (t : Nat) (hM : x_C l G M' d' kc' ks' (xR (some b) :: As) h nk' (x_ex none F)) (hg : x_kIN M.1.cls index M' host) (ho : x_ok1 M' As.length) (hd : decode M.2.1 pc = .ok (.invokespecial index, 3)) (ht : pc + 3 = t) (hst : st0 = As.reverse ++ xR (some b) :: st) (hdd : d' + 1 ≤ d) (h1 : kc' ≤ kc) (h2 : ks' ≤ ks) (h8 : (st.map x_cat).sum ≤ 8) (hnk : ∀ a ∈ nk', a ∈ nk) (hfS : x_far nk' st) (hfL : x_farL nk' L) (kk : ∀ h1 : xH, F h1 → x_X l G M d (kc - kc') (ks - ks') nk Q t L st h1) : x_X l G M d kc ks nk Q pc L st0 h :=
  x_callIN t hM hg ho hd ht hst hdd h1 h2 h8 hnk hfS hfL (fun r h1 hq => by obtain ⟨rfl, hq⟩ := hq; exact kk h1 hq)
end XE
end
section
section M1
variable {l : Launch} {G : xG} {N : Nat} {I : Nat → Nat → Int32} {J : Nat → Nat → Int64} {P : Nat → Nat → Option xQ} {V : Nat → Nat → Int32} {A : Nat → Nat → Int32} {B : Nat → Nat → Int64}
variable {h : xH}
def b01 (p : Prop) [Decidable p] : Int32 := if p then 1 else 0
theorem b01_t {p : Prop} [Decidable p] (h : p) : b01 p = 1 := if_pos h
theorem b01_f {p : Prop} [Decidable p] (h : ¬ p) : b01 p = 0 := if_neg h
theorem b01_z {p : Prop} [Decidable p] : b01 p = 0 ↔ ¬ p := by
  unfold b01
  split
  · constructor
    · intro q; exact absurd q (by decide)
    · intro q; contradiction
  · constructor
    · intro _; assumption
    · intro _; rfl
theorem b01_nz {p : Prop} [Decidable p] : ¬ b01 p = 0 ↔ p := by
  rw [b01_z]; exact Decidable.not_not
theorem b01_n (p : Prop) [Decidable p] : narrow .boolean (.int (b01 p)) = .int (b01 p) := by
  unfold b01
  split <;> rfl
theorem cC_isMember (m : Int32) : x_C l G mC_isMember 0 0 0 [xI m] (h) [] (x_is (some (xI (b01 (¬ m < 0 ∧ ¬ 5 ≤ m)))) h) := by
  refine x_C.at [some (xI m)] rfl (Nat.le_of_ble_eq_true rfl) rfl ?_
  refine x_iload_n 1 dC_isMember_0 rfl rfl ?_
  refine x_if_lt 13 4 dC_isMember_1 (by decide) rfl (fun h1 => ?_) (fun h1 => ?_)
  · skip
    refine x_iconst 0 14 dC_isMember_13 rfl rfl ?_
    exact x_iret dC_isMember_14 rfl rfl ⟨congrArg (fun v => some (xI v)) (b01_f (by simp [h1])).symm, rfl⟩
  · skip
    refine x_iload_n 5 dC_isMember_4 rfl rfl ?_
    refine x_iconst 5 6 dC_isMember_5 rfl rfl ?_
    refine x_icmp_ge 13 9 dC_isMember_6 (by decide) rfl (fun h6 => ?_) (fun h6 => ?_)
    · skip
      refine x_iconst 0 14 dC_isMember_13 rfl rfl ?_
      exact x_iret dC_isMember_14 rfl rfl ⟨congrArg (fun v => some (xI v)) (b01_f (by simp [h1, h6])).symm, rfl⟩
    · skip
      refine x_iconst 1 10 dC_isMember_9 rfl rfl ?_
      refine x_goto 14 dC_isMember_10 (by decide) ?_
      exact x_iret dC_isMember_14 rfl rfl ⟨congrArg (fun v => some (xI v)) (b01_t (by simp [h1, h6])).symm, rfl⟩
theorem cC_isInstrument (m : Int32) : x_C l G mC_isInstrument 0 0 0 [xI m] (h) [] (x_is (some (xI (b01 (¬ m < 0 ∧ ¬ 2 ≤ m)))) h) := by
  refine x_C.at [some (xI m)] rfl (Nat.le_of_ble_eq_true rfl) rfl ?_
  refine x_iload_n 1 dC_isInstrument_0 rfl rfl ?_
  refine x_if_lt 13 4 dC_isInstrument_1 (by decide) rfl (fun h1 => ?_) (fun h1 => ?_)
  · skip
    refine x_iconst 0 14 dC_isInstrument_13 rfl rfl ?_
    exact x_iret dC_isInstrument_14 rfl rfl ⟨congrArg (fun v => some (xI v)) (b01_f (by simp [h1])).symm, rfl⟩
  · skip
    refine x_iload_n 5 dC_isInstrument_4 rfl rfl ?_
    refine x_iconst 2 6 dC_isInstrument_5 rfl rfl ?_
    refine x_icmp_ge 13 9 dC_isInstrument_6 (by decide) rfl (fun h6 => ?_) (fun h6 => ?_)
    · skip
      refine x_iconst 0 14 dC_isInstrument_13 rfl rfl ?_
      exact x_iret dC_isInstrument_14 rfl rfl ⟨congrArg (fun v => some (xI v)) (b01_f (by simp [h1, h6])).symm, rfl⟩
    · skip
      refine x_iconst 1 10 dC_isInstrument_9 rfl rfl ?_
      refine x_goto 14 dC_isInstrument_10 (by decide) ?_
      exact x_iret dC_isInstrument_14 rfl rfl ⟨congrArg (fun v => some (xI v)) (b01_t (by simp [h1, h6])).symm, rfl⟩
theorem cC_isHow (m : Int32) : x_C l G mC_isHow 0 0 0 [xI m] (h) [] (x_is (some (xI (b01 (¬ m < 0 ∧ ¬ 12 ≤ m)))) h) := by
  refine x_C.at [some (xI m)] rfl (Nat.le_of_ble_eq_true rfl) rfl ?_
  refine x_iload_n 1 dC_isHow_0 rfl rfl ?_
  refine x_if_lt 14 4 dC_isHow_1 (by decide) rfl (fun h1 => ?_) (fun h1 => ?_)
  · skip
    refine x_iconst 0 15 dC_isHow_14 rfl rfl ?_
    exact x_iret dC_isHow_15 rfl rfl ⟨congrArg (fun v => some (xI v)) (b01_f (by simp [h1])).symm, rfl⟩
  · skip
    refine x_iload_n 5 dC_isHow_4 rfl rfl ?_
    refine x_bipush (12) 7 dC_isHow_5 rfl rfl ?_
    refine x_icmp_ge 14 10 dC_isHow_7 (by decide) rfl (fun h7 => ?_) (fun h7 => ?_)
    · skip
      refine x_iconst 0 15 dC_isHow_14 rfl rfl ?_
      exact x_iret dC_isHow_15 rfl rfl ⟨congrArg (fun v => some (xI v)) (b01_f (by simp [h1, h7])).symm, rfl⟩
    · skip
      refine x_iconst 1 11 dC_isHow_10 rfl rfl ?_
      refine x_goto 15 dC_isHow_11 (by decide) ?_
      exact x_iret dC_isHow_15 rfl rfl ⟨congrArg (fun v => some (xI v)) (b01_t (by simp [h1, h7])).symm, rfl⟩
theorem cC_isSide (m : Int32) : x_C l G mC_isSide 0 0 0 [xI m] (h) [] (x_is (some (xI (b01 (m = 0 ∨ m = 1)))) h) := by
  refine x_C.at [some (xI m)] rfl (Nat.le_of_ble_eq_true rfl) rfl ?_
  refine x_iload_n 1 dC_isSide_0 rfl rfl ?_
  refine x_if_eq 9 4 dC_isSide_1 (by decide) rfl (fun h1 => ?_) (fun h1 => ?_)
  · skip
    refine x_iconst 1 10 dC_isSide_9 rfl rfl ?_
    refine x_goto 14 dC_isSide_10 (by decide) ?_
    exact x_iret dC_isSide_14 rfl rfl ⟨congrArg (fun v => some (xI v)) (b01_t (by simp [h1])).symm, rfl⟩
  · skip
    refine x_iload_n 5 dC_isSide_4 rfl rfl ?_
    refine x_iconst 1 6 dC_isSide_5 rfl rfl ?_
    refine x_icmp_ne 13 9 dC_isSide_6 (by decide) rfl (fun h6 => ?_) (fun h6 => ?_)
    · skip
      refine x_iconst 0 14 dC_isSide_13 rfl rfl ?_
      exact x_iret dC_isSide_14 rfl rfl ⟨congrArg (fun v => some (xI v)) (b01_f (by simp [h1, h6])).symm, rfl⟩
    · skip
      refine x_iconst 1 10 dC_isSide_9 rfl rfl ?_
      refine x_goto 14 dC_isSide_10 (by decide) ?_
      exact x_iret dC_isSide_14 rfl rfl ⟨congrArg (fun v => some (xI v)) (b01_t (by simp [h1, h6])).symm, rfl⟩
theorem cC_isPrice (m : Int32) : x_C l G mC_isPrice 0 0 0 [xI m] (h) [] (x_is (some (xI (b01 (¬ m < 1 ∧ ¬ 63 < m)))) h) := by
  refine x_C.at [some (xI m)] rfl (Nat.le_of_ble_eq_true rfl) rfl ?_
  refine x_iload_n 1 dC_isPrice_0 rfl rfl ?_
  refine x_iconst 1 2 dC_isPrice_1 rfl rfl ?_
  refine x_icmp_lt 15 5 dC_isPrice_2 (by decide) rfl (fun h2 => ?_) (fun h2 => ?_)
  · skip
    refine x_iconst 0 16 dC_isPrice_15 rfl rfl ?_
    exact x_iret dC_isPrice_16 rfl rfl ⟨congrArg (fun v => some (xI v)) (b01_f (by simp [h2])).symm, rfl⟩
  · skip
    refine x_iload_n 6 dC_isPrice_5 rfl rfl ?_
    refine x_bipush (63) 8 dC_isPrice_6 rfl rfl ?_
    refine x_icmp_gt 15 11 dC_isPrice_8 (by decide) rfl (fun h8 => ?_) (fun h8 => ?_)
    · skip
      refine x_iconst 0 16 dC_isPrice_15 rfl rfl ?_
      exact x_iret dC_isPrice_16 rfl rfl ⟨congrArg (fun v => some (xI v)) (b01_f (by simp [h2, h8])).symm, rfl⟩
    · skip
      refine x_iconst 1 12 dC_isPrice_11 rfl rfl ?_
      refine x_goto 16 dC_isPrice_12 (by decide) ?_
      exact x_iret dC_isPrice_16 rfl rfl ⟨congrArg (fun v => some (xI v)) (b01_t (by simp [h2, h8])).symm, rfl⟩
theorem cR_outside (v a b : Int32) : x_C l G mR_outside 0 0 0 [xI v, xI a, xI b] (h) [] (x_is (some (xI (b01 (v < a ∨ ¬ v ≤ b)))) h) := by
  refine x_C.at [some (xI v), some (xI a), some (xI b)] rfl (Nat.le_of_ble_eq_true rfl) rfl ?_
  refine x_iload_n 1 dR_outside_0 rfl rfl ?_
  refine x_iload_n 2 dR_outside_1 rfl rfl ?_
  refine x_icmp_lt 10 5 dR_outside_2 (by decide) rfl (fun h2 => ?_) (fun h2 => ?_)
  · skip
    refine x_iconst 1 11 dR_outside_10 rfl rfl ?_
    refine x_goto 15 dR_outside_11 (by decide) ?_
    exact x_iret dR_outside_15 rfl rfl ⟨congrArg (fun v => some (xI v)) (b01_t (by simp [h2])).symm, rfl⟩
  · skip
    refine x_iload_n 6 dR_outside_5 rfl rfl ?_
    refine x_iload_n 7 dR_outside_6 rfl rfl ?_
    refine x_icmp_le 14 10 dR_outside_7 (by decide) rfl (fun h7 => ?_) (fun h7 => ?_)
    · skip
      refine x_iconst 0 15 dR_outside_14 rfl rfl ?_
      exact x_iret dR_outside_15 rfl rfl ⟨congrArg (fun v => some (xI v)) (b01_f (by simp [h2, h7])).symm, rfl⟩
    · skip
      refine x_iconst 1 11 dR_outside_10 rfl rfl ?_
      refine x_goto 15 dR_outside_11 (by decide) ?_
      exact x_iret dR_outside_15 rfl rfl ⟨congrArg (fun v => some (xI v)) (b01_t (by simp [h2, h7])).symm, rfl⟩
end M1
end
section
section M2
variable {l : Launch} {G : xG} {N : Nat} {I : Nat → Nat → Int32} {J : Nat → Nat → Int64} {P : Nat → Nat → Option xQ} {V : Nat → Nat → Int32} {A : Nat → Nat → Int32} {B : Nat → Nat → Int64}
variable {h : xH}
abbrev acc (I : Nat → Nat → Int32) (k : Nat) (p : Int32) : Prop := (I 3 k = 0 ∧ ¬ I 5 k < p) ∨ (¬ I 3 k = 0 ∧ ¬ p < I 5 k)
theorem cC_kindOf (a : Int32) : x_C l G mC_kindOf 0 0 0 [xI a] (h) [] (x_is (some (xI (a / 2))) h) := by
  refine x_C.at [some (xI a)] rfl (Nat.le_of_ble_eq_true rfl) rfl ?_
  refine x_iload_n 1 dC_kindOf_0 rfl rfl ?_
  refine x_iconst 2 2 dC_kindOf_1 rfl rfl ?_
  refine x_idiv 3 dC_kindOf_2 rfl (by decide) ?_
  exact x_iret dC_kindOf_3 rfl rfl ⟨rfl, rfl⟩
theorem cC_sideOf (a : Int32) : x_C l G mC_sideOf 0 0 0 [xI a] (h) [] (x_is (some (xI (a - a / 2 * 2))) h) := by
  refine x_C.at [some (xI a)] rfl (Nat.le_of_ble_eq_true rfl) rfl ?_
  refine x_iload_n 1 dC_sideOf_0 rfl rfl ?_
  refine x_iconst 2 2 dC_sideOf_1 rfl rfl ?_
  refine x_irem 3 dC_sideOf_2 rfl (by decide) ?_
  exact x_iret dC_sideOf_3 rfl rfl ⟨rfl, rfl⟩
theorem cO_accepts {k : Nat} (hk : k < N) (p : Int32) : x_C l G mO_accepts 0 0 0 [xR (some (0, k)), xI p] (hp N I J P V A B) [] (x_is (some (xI (b01 (acc I k p)))) (hp N I J P V A B)) := by
  refine x_C.at [some (xR (some (0, k))), some (xI p)] rfl (Nat.le_of_ble_eq_true rfl) rfl ?_
  refine x_aload_n 1 dO_accepts_0 rfl rfl ?_
  refine x_get _ 4 fO_35 dO_accepts_1 rfl (h_O (by assumption)) rfl ?_
  refine x_if_ne 23 7 dO_accepts_4 (by decide) rfl (fun h4 => ?_) (fun h4 => ?_)
  · skip
    refine x_iload_n 24 dO_accepts_23 rfl rfl ?_
    refine x_aload_n 25 dO_accepts_24 rfl rfl ?_
    refine x_get _ 28 fO_44 dO_accepts_25 rfl (h_O (by assumption)) rfl ?_
    refine x_icmp_lt 35 31 dO_accepts_28 (by decide) rfl (fun h28 => ?_) (fun h28 => ?_)
    · skip
      refine x_iconst 0 36 dO_accepts_35 rfl rfl ?_
      exact x_iret dO_accepts_36 rfl rfl ⟨congrArg (fun v => some (xI v)) (b01_f (by simp [h4, h28, acc])).symm, rfl⟩
    · skip
      refine x_iconst 1 32 dO_accepts_31 rfl rfl ?_
      refine x_goto 36 dO_accepts_32 (by decide) ?_
      exact x_iret dO_accepts_36 rfl rfl ⟨congrArg (fun v => some (xI v)) (b01_t (by simp [h4, h28, acc])).symm, rfl⟩
  · skip
    refine x_iload_n 8 dO_accepts_7 rfl rfl ?_
    refine x_aload_n 9 dO_accepts_8 rfl rfl ?_
    refine x_get _ 12 fO_44 dO_accepts_9 rfl (h_O (by assumption)) rfl ?_
    refine x_icmp_gt 19 15 dO_accepts_12 (by decide) rfl (fun h12 => ?_) (fun h12 => ?_)
    · skip
      refine x_iconst 0 20 dO_accepts_19 rfl rfl ?_
      refine x_goto 36 dO_accepts_20 (by decide) ?_
      exact x_iret dO_accepts_36 rfl rfl ⟨congrArg (fun v => some (xI v)) (b01_f (by simp [h4, h12, acc])).symm, rfl⟩
    · skip
      refine x_iconst 1 16 dO_accepts_15 rfl rfl ?_
      refine x_goto 36 dO_accepts_16 (by decide) ?_
      exact x_iret dO_accepts_36 rfl rfl ⟨congrArg (fun v => some (xI v)) (b01_t (by simp [h4, h12, acc])).symm, rfl⟩
def shw (I : Nat → Nat → Int32) (k : Nat) : Int32 := if I 4 k = 5 then i_min 5 (I 6 k) else I 6 k
theorem cO_showAnew {k : Nat} (hk : k < N) : x_C l G mO_showAnew 1 0 0 [xR (some (0, k))] (hp N I J P V A B) [] (x_is none (hp N (si I 7 k (shw I k)) J P V A B)) := by
  refine x_C.at [some (xR (some (0, k)))] rfl (Nat.le_of_ble_eq_true rfl) rfl ?_
  refine x_aload_n 1 dO_showAnew_0 rfl rfl ?_
  refine x_aload_n 2 dO_showAnew_1 rfl rfl ?_
  refine x_get _ 5 fO_41 dO_showAnew_2 rfl (h_O (by assumption)) rfl ?_
  refine x_iconst 5 6 dO_showAnew_5 rfl rfl ?_
  refine x_icmp_ne 20 9 dO_showAnew_6 (by decide) rfl (fun h6 => ?_) (fun h6 => ?_)
  · skip
    refine x_aload_n 21 dO_showAnew_20 rfl rfl ?_
    refine x_get _ 24 fO_47 dO_showAnew_21 rfl (h_O (by assumption)) rfl ?_
    refine y_O7 27 pO_showAnew_9 dO_showAnew_24 rfl (by assumption) ?_
    exact x_vret dO_showAnew_27 rfl ⟨rfl, by simp [shw, h6]⟩
  · skip
    refine x_iconst 5 10 dO_showAnew_9 rfl rfl ?_
    refine x_aload_n 11 dO_showAnew_10 rfl rfl ?_
    refine x_get _ 14 fO_47 dO_showAnew_11 rfl (h_O (by assumption)) rfl ?_
    refine x_mmin 17 kO_50 dO_showAnew_14 rfl (by decide) (Nat.le_of_ble_eq_true rfl) ?_
    refine x_goto 24 dO_showAnew_17 (by decide) ?_
    refine y_O7 27 pO_showAnew_9 dO_showAnew_24 rfl (by assumption) ?_
    exact x_vret dO_showAnew_27 rfl ⟨rfl, by simp [shw, h6]⟩
abbrev btr (I : Nat → Nat → Int32) (a b : Nat) : Prop := ¬ I 5 a = I 5 b ∧ acc I a (I 5 b)
theorem cD_isBetter {a b : Nat} (ha : a < N) (hb : b < N) : x_C l G mD_isBetter 1 0 0 [xR (some (0, a)), xR (some (0, b))] (hp N I J P V A B) [] (x_is (some (xI (b01 (btr I a b)))) (hp N I J P V A B)) := by
  refine x_C.at [some (xR (some (0, a))), some (xR (some (0, b)))] rfl (Nat.le_of_ble_eq_true rfl) rfl ?_
  refine x_aload_n 1 dD_isBetter_0 rfl rfl ?_
  refine x_get _ 4 fD_35 dD_isBetter_1 rfl (h_O (by assumption)) rfl ?_
  refine x_aload_n 5 dD_isBetter_4 rfl rfl ?_
  refine x_get _ 8 fD_35 dD_isBetter_5 rfl (h_O (by assumption)) rfl ?_
  refine x_icmp_eq 26 11 dD_isBetter_8 (by decide) rfl (fun h8 => ?_) (fun h8 => ?_)
  · skip
    refine x_iconst 0 27 dD_isBetter_26 rfl rfl ?_
    exact x_iret dD_isBetter_27 rfl rfl ⟨congrArg (fun v => some (xI v)) (b01_f (by exact fun q => q.1 h8)).symm, rfl⟩
  · skip
    refine x_aload_n 12 dD_isBetter_11 rfl rfl ?_
    refine x_aload_n 13 dD_isBetter_12 rfl rfl ?_
    refine x_get _ 16 fD_35 dD_isBetter_13 rfl (h_O (by assumption)) rfl ?_
    refine x_fVv 19 (cO_accepts (by assumption) _) kD_38 oO_accepts rfl (h_O (by assumption)) dD_isBetter_16 rfl rfl (by decide) (Nat.le_of_ble_eq_true rfl) ?_
    refine x_if_eq 26 22 dD_isBetter_19 (by decide) rfl (fun h19 => ?_) (fun h19 => ?_)
    · skip
      refine x_iconst 0 27 dD_isBetter_26 rfl rfl ?_
      exact x_iret dD_isBetter_27 rfl rfl ⟨congrArg (fun v => some (xI v)) (b01_f (by exact fun q => b01_z.mp h19 q.2)).symm, rfl⟩
    · skip
      refine x_iconst 1 23 dD_isBetter_22 rfl rfl ?_
      refine x_goto 27 dD_isBetter_23 (by decide) ?_
      exact x_iret dD_isBetter_27 rfl rfl ⟨congrArg (fun v => some (xI v)) (b01_t (by exact ⟨h8, b01_nz.mp h19⟩)).symm, rfl⟩
theorem cD_link_n {j : Nat} (hj : j < 4) (r : Option xQ) : x_C l G mD_link 0 0 0 [xR (some (4, j)), xR none, xR r] (hp N I J P V A B) [] (x_is none (hp N I J (sp P 1 j r) V A B)) := by
  refine x_C.at [some (xR (some (4, j))), some (xR none), some (xR r)] rfl (Nat.le_of_ble_eq_true rfl) rfl ?_
  refine x_aload_n 1 dD_link_0 rfl rfl ?_
  refine x_ifnonnull_n 12 4 dD_link_1 (by decide) rfl ?_
  refine x_aload_n 5 dD_link_4 rfl rfl ?_
  refine x_aload_n 6 dD_link_5 rfl rfl ?_
  refine y_D0 9 pD_link_9 dD_link_6 rfl (by omega) ?_
  refine x_goto 17 dD_link_9 (by decide) ?_
  exact x_vret dD_link_17 rfl ⟨rfl, rfl⟩
theorem cD_link_s {j b : Nat} (hb : b < N) (r : Option xQ) : x_C l G mD_link 0 0 0 [xR (some (4, j)), xR (some (0, b)), xR r] (hp N I J P V A B) [] (x_is none (hp N I J (sp P 0 b r) V A B)) := by
  refine x_C.at [some (xR (some (4, j))), some (xR (some (0, b))), some (xR r)] rfl (Nat.le_of_ble_eq_true rfl) rfl ?_
  refine x_aload_n 1 dD_link_0 rfl rfl ?_
  refine x_ifnonnull_s 12 4 dD_link_1 (by decide) rfl ?_
  refine x_aload_n 13 dD_link_12 rfl rfl ?_
  refine x_aload_n 14 dD_link_13 rfl rfl ?_
  refine y_O9 17 pD_link_19 dD_link_14 rfl (by assumption) ?_
  exact x_vret dD_link_17 rfl ⟨rfl, rfl⟩
theorem cA_enter {m : Nat} (hm : m < 5) {i : Int32} (hi : vp_in i 2) (a p : Int32) : x_C l G mA_enter 0 0 0 [xR (some (1, m)), xI i, xI a, xI p] (hp N I J P V A B) [] (x_is none (hp N I (sj J 1 m (J 1 m - a.toInt64 * p.toInt64)) P (si V m i.toNatClampNeg (V m i.toNatClampNeg + a)) A B)) := by
  refine x_C.at [some (xR (some (1, m))), some (xI i), some (xI a), some (xI p)] rfl (Nat.le_of_ble_eq_true rfl) rfl ?_
  refine x_aload_n 1 dA_enter_0 rfl rfl ?_
  refine x_get _ 4 fA_9 dA_enter_1 rfl (h_A (by assumption)) rfl ?_
  refine x_iload_n 5 dA_enter_4 rfl rfl ?_
  refine x_dup2 6 dA_enter_5 rfl rfl rfl ?_
  refine x_iald 7 dA_enter_6 rfl (h_P (by assumption)) (by assumption) ?_
  refine x_iload_n 8 dA_enter_7 rfl rfl ?_
  refine x_iadd 9 dA_enter_8 rfl ?_
  refine y_P 10 dA_enter_9 rfl (by assumption) (by assumption) ?_
  refine x_aload_n 11 dA_enter_10 rfl rfl ?_
  refine x_dup 12 dA_enter_11 rfl rfl ?_
  refine x_get _ 15 fA_19 dA_enter_12 rfl (h_A (by assumption)) rfl ?_
  refine x_iload_n 16 dA_enter_15 rfl rfl ?_
  refine x_i2l 17 dA_enter_16 rfl ?_
  refine x_iload_n 18 dA_enter_17 rfl rfl ?_
  refine x_i2l 19 dA_enter_18 rfl ?_
  refine x_lmul 20 dA_enter_19 rfl ?_
  refine x_lsub 21 dA_enter_20 rfl ?_
  refine y_A2 24 pA_enter_19 dA_enter_21 rfl (by assumption) ?_
  exact x_vret dA_enter_24 rfl ⟨rfl, rfl⟩
def sdx (i : Nat) (s : Int32) : Nat := if s = 0 then 2 * i else 2 * i + 1
def fdx (i : Nat) (s : Int32) : Nat := if s = 0 then 2 * i + 1 else 2 * i
theorem sdx_lt {i : Nat} (h : i < 2) (s : Int32) : sdx i s < 4 := by unfold sdx; split <;> omega
theorem fdx_lt {i : Nat} (h : i < 2) (s : Int32) : fdx i s < 4 := by unfold fdx; split <;> omega
theorem cB_on {i : Nat} (hi : i < 2) (s : Int32) : x_C l G mB_on 0 0 0 [xR (some (3, i)), xI s] (hp N I J P V A B) [] (x_is (some (xR (some (4, sdx i s)))) (hp N I J P V A B)) := by
  refine x_C.at [some (xR (some (3, i))), some (xI s)] rfl (Nat.le_of_ble_eq_true rfl) rfl ?_
  refine x_iload_n 1 dB_on_0 rfl rfl ?_
  refine x_if_ne 11 4 dB_on_1 (by decide) rfl (fun h1 => ?_) (fun h1 => ?_)
  · skip
    refine x_aload_n 12 dB_on_11 rfl rfl ?_
    refine x_get _ 15 fB_18 dB_on_12 rfl (h_B (by assumption)) rfl ?_
    exact x_aret dB_on_15 rfl (Or.inl ⟨_, rfl⟩) ⟨by simp [sdx, h1], rfl⟩
  · skip
    refine x_aload_n 5 dB_on_4 rfl rfl ?_
    refine x_get _ 8 fB_12 dB_on_5 rfl (h_B (by assumption)) rfl ?_
    refine x_goto 15 dB_on_8 (by decide) ?_
    exact x_aret dB_on_15 rfl (Or.inl ⟨_, rfl⟩) ⟨by simp [sdx, h1], rfl⟩
theorem cB_facing {i : Nat} (hi : i < 2) (s : Int32) : x_C l G mB_facing 0 0 0 [xR (some (3, i)), xI s] (hp N I J P V A B) [] (x_is (some (xR (some (4, fdx i s)))) (hp N I J P V A B)) := by
  refine x_C.at [some (xR (some (3, i))), some (xI s)] rfl (Nat.le_of_ble_eq_true rfl) rfl ?_
  refine x_iload_n 1 dB_facing_0 rfl rfl ?_
  refine x_if_ne 11 4 dB_facing_1 (by decide) rfl (fun h1 => ?_) (fun h1 => ?_)
  · skip
    refine x_aload_n 12 dB_facing_11 rfl rfl ?_
    refine x_get _ 15 fB_12 dB_facing_12 rfl (h_B (by assumption)) rfl ?_
    exact x_aret dB_facing_15 rfl (Or.inl ⟨_, rfl⟩) ⟨by simp [fdx, h1], rfl⟩
  · skip
    refine x_aload_n 5 dB_facing_4 rfl rfl ?_
    refine x_get _ 8 fB_18 dB_facing_5 rfl (h_B (by assumption)) rfl ?_
    refine x_goto 15 dB_facing_8 (by decide) ?_
    exact x_aret dB_facing_15 rfl (Or.inl ⟨_, rfl⟩) ⟨by simp [fdx, h1], rfl⟩
def trow (c : Int32) : Int32 := (c - c / 100 * 100) * 4
def twr (I : Nat → Nat → Int32) (b s p a : Int32) : Nat → Nat → Int32 := si (si (si (si (si I 14 (trow (I 13 0)).toNatClampNeg b) 14 (trow (I 13 0) + 1).toNatClampNeg s) 14 (trow (I 13 0) + 2).toNatClampNeg p) 14 (trow (I 13 0) + 3).toNatClampNeg a) 13 0 (I 13 0 + 1)
theorem cT_write (h0 : vp_in (trow (I 13 0)) 400) (h1 : vp_in (trow (I 13 0) + 1) 400) (h2 : vp_in (trow (I 13 0) + 2) 400) (h3 : vp_in (trow (I 13 0) + 3) 400) (b s p a : Int32) : x_C l G mT_write 0 0 0 [xR (some (9, 0)), xI b, xI s, xI p, xI a] (hp N I J P V A B) [] (x_is none (hp N (twr I b s p a) J P V A B)) := by
  refine x_C.at [some (xR (some (9, 0))), some (xI b), some (xI s), some (xI p), some (xI a), none] rfl (Nat.le_of_ble_eq_true rfl) rfl ?_
  refine x_aload_n 1 dT_write_0 rfl rfl ?_
  refine x_get _ 4 fT_15 dT_write_1 rfl rfl rfl ?_
  refine x_bipush (100) 6 dT_write_4 rfl rfl ?_
  refine x_irem 7 dT_write_6 rfl (by decide) ?_
  refine x_iconst 4 8 dT_write_7 rfl rfl ?_
  refine x_imul 9 dT_write_8 rfl ?_
  refine x_istore 11 dT_write_9 rfl (by decide) rfl ?_
  refine x_aload_n 12 dT_write_11 rfl rfl ?_
  refine x_get _ 15 fT_9 dT_write_12 rfl rfl rfl ?_
  refine x_iload 17 dT_write_15 rfl rfl ?_
  refine x_iload_n 18 dT_write_17 rfl rfl ?_
  refine y_rows 19 dT_write_18 rfl h0 ?_
  refine x_aload_n 20 dT_write_19 rfl rfl ?_
  refine x_get _ 23 fT_9 dT_write_20 rfl rfl rfl ?_
  refine x_iload 25 dT_write_23 rfl rfl ?_
  refine x_iconst 1 26 dT_write_25 rfl rfl ?_
  refine x_iadd 27 dT_write_26 rfl ?_
  refine x_iload_n 28 dT_write_27 rfl rfl ?_
  refine y_rows 29 dT_write_28 rfl h1 ?_
  refine x_aload_n 30 dT_write_29 rfl rfl ?_
  refine x_get _ 33 fT_9 dT_write_30 rfl rfl rfl ?_
  refine x_iload 35 dT_write_33 rfl rfl ?_
  refine x_iconst 2 36 dT_write_35 rfl rfl ?_
  refine x_iadd 37 dT_write_36 rfl ?_
  refine x_iload_n 38 dT_write_37 rfl rfl ?_
  refine y_rows 39 dT_write_38 rfl h2 ?_
  refine x_aload_n 40 dT_write_39 rfl rfl ?_
  refine x_get _ 43 fT_9 dT_write_40 rfl rfl rfl ?_
  refine x_iload 45 dT_write_43 rfl rfl ?_
  refine x_iconst 3 46 dT_write_45 rfl rfl ?_
  refine x_iadd 47 dT_write_46 rfl ?_
  refine x_iload 49 dT_write_47 rfl rfl ?_
  refine y_rows 50 dT_write_49 rfl h3 ?_
  refine x_aload_n 51 dT_write_50 rfl rfl ?_
  refine x_dup 52 dT_write_51 rfl rfl ?_
  refine x_get _ 55 fT_15 dT_write_52 rfl rfl rfl ?_
  refine x_iconst 1 56 dT_write_55 rfl rfl ?_
  refine x_iadd 57 dT_write_56 rfl ?_
  refine y_T1 60 pT_write_15 dT_write_57 rfl ?_
  exact x_vret dT_write_60 rfl ⟨rfl, rfl⟩
theorem cT_holds (k : Int32) : x_C l G mT_holds 0 0 0 [xR (some (9, 0)), xI k] (hp N I J P V A B) [] (x_is (some (xI (b01 (¬ k < 0 ∧ ¬ I 13 0 ≤ k ∧ ¬ k < I 13 0 - 100)))) (hp N I J P V A B)) := by
  refine x_C.at [some (xR (some (9, 0))), some (xI k)] rfl (Nat.le_of_ble_eq_true rfl) rfl ?_
  refine x_iload_n 1 dT_holds_0 rfl rfl ?_
  refine x_if_lt 27 4 dT_holds_1 (by decide) rfl (fun h1 => ?_) (fun h1 => ?_)
  · skip
    refine x_iconst 0 28 dT_holds_27 rfl rfl ?_
    exact x_iret dT_holds_28 rfl rfl ⟨congrArg (fun v => some (xI v)) (b01_f (by simp [h1])).symm, rfl⟩
  · skip
    refine x_iload_n 5 dT_holds_4 rfl rfl ?_
    refine x_aload_n 6 dT_holds_5 rfl rfl ?_
    refine x_get _ 9 fT_15 dT_holds_6 rfl rfl rfl ?_
    refine x_icmp_ge 27 12 dT_holds_9 (by decide) rfl (fun h9 => ?_) (fun h9 => ?_)
    · skip
      refine x_iconst 0 28 dT_holds_27 rfl rfl ?_
      exact x_iret dT_holds_28 rfl rfl ⟨congrArg (fun v => some (xI v)) (b01_f (by simp [h1, h9])).symm, rfl⟩
    · skip
      refine x_iload_n 13 dT_holds_12 rfl rfl ?_
      refine x_aload_n 14 dT_holds_13 rfl rfl ?_
      refine x_get _ 17 fT_15 dT_holds_14 rfl rfl rfl ?_
      refine x_bipush (100) 19 dT_holds_17 rfl rfl ?_
      refine x_isub 20 dT_holds_19 rfl ?_
      refine x_icmp_lt 27 23 dT_holds_20 (by decide) rfl (fun h20 => ?_) (fun h20 => ?_)
      · skip
        refine x_iconst 0 28 dT_holds_27 rfl rfl ?_
        exact x_iret dT_holds_28 rfl rfl ⟨congrArg (fun v => some (xI v)) (b01_f (by simp [h1, h9, h20])).symm, rfl⟩
      · skip
        refine x_iconst 1 24 dT_holds_23 rfl rfl ?_
        refine x_goto 28 dT_holds_24 (by decide) ?_
        exact x_iret dT_holds_28 rfl rfl ⟨congrArg (fun v => some (xI v)) (b01_t (by simp [h1, h9, h20])).symm, rfl⟩
theorem cT_read {k p : Int32} (hi : vp_in (trow k + p) 400) : x_C l G mT_read 0 0 0 [xR (some (9, 0)), xI k, xI p] (hp N I J P V A B) [] (x_is (some (xI (I 14 (trow k + p).toNatClampNeg))) (hp N I J P V A B)) := by
  refine x_C.at [some (xR (some (9, 0))), some (xI k), some (xI p)] rfl (Nat.le_of_ble_eq_true rfl) rfl ?_
  refine x_aload_n 1 dT_read_0 rfl rfl ?_
  refine x_get _ 4 fT_9 dT_read_1 rfl rfl rfl ?_
  refine x_iload_n 5 dT_read_4 rfl rfl ?_
  refine x_bipush (100) 7 dT_read_5 rfl rfl ?_
  refine x_irem 8 dT_read_7 rfl (by decide) ?_
  refine x_iconst 4 9 dT_read_8 rfl rfl ?_
  refine x_imul 10 dT_read_9 rfl ?_
  refine x_iload_n 11 dT_read_10 rfl rfl ?_
  refine x_iadd 12 dT_read_11 rfl ?_
  refine x_iald 13 dT_read_12 rfl rfl hi ?_
  exact x_iret dT_read_13 rfl rfl ⟨rfl, rfl⟩
end M2
end
section
section M3
variable {l : Launch} {G : xG} {N : Nat} {I : Nat → Nat → Int32} {J : Nat → Nat → Int64} {P : Nat → Nat → Option xQ} {V : Nat → Nat → Int32} {A : Nat → Nat → Int32} {B : Nat → Nat → Int64}
/-- the chain from q on holds the orders c -/
def Ch (P : Nat → Nat → Option xQ) : Option xQ → List Nat → Prop
  | q, [] => q = none
  | q, o :: c => q = some (0, o) ∧ Ch P (P 0 o) c
def lfo (I : Nat → Nat → Int32) (m : Int32) : Int32 → List Nat → Int32
  | s, [] => s
  | s, o :: c => lfo I m (if I 1 o = m then s + I 6 o else s) c
def lff (I : Nat → Nat → Int32) (k : Nat) : Int32 → List Nat → Int32
  | s, [] => s
  | s, o :: c => if acc I k (I 5 o) then lff I k (if I 1 o = I 1 k then s else s + I 6 o) c else s
def siq (I : Nat → Nat → Int32) (p : Int32) (e : Option xQ) : Int32 → List Nat → Int32
  | s, [] => s
  | s, o :: c => if some (0, o) = e then s else siq I p e (if I 5 o = p then s + I 7 o else s) c
def lnk (P : Nat → Nat → Option xQ) (j : Nat) (b : Option Nat) (r : Option xQ) : Nat → Nat → Option xQ := match b with
  | none => sp P 1 j r
  | some b => sp P 0 b r
def lvP (P : Nat → Nat → Option xQ) (j o : Nat) : Option Nat → List Nat → Nat → Nat → Option xQ
  | _, [] => P
  | b, a :: c => if a = o then sp (lnk P j b (P 0 a)) 0 a none else lvP P j o (some a) c
def jnP (I : Nat → Nat → Int32) (P : Nat → Nat → Option xQ) (j o : Nat) : Option Nat → List Nat → Nat → Nat → Option xQ
  | b, [] => lnk (sp P 0 o none) j b (some (0, o))
  | b, a :: c => if btr I o a then lnk (sp P 0 o (some (0, a))) j b (some (0, o)) else jnP I P j o (some a) c
def wdI (I : Nat → Nat → Int32) : List Nat → Nat → Nat → Int32
  | [] => I
  | o :: c => wdI (si I 8 o 2) c
theorem all_tl {N a : Nat} {c : List Nat} (h : ∀ o ∈ a :: c, o < N) : ∀ o ∈ c, o < N := fun o ho => h o (List.mem_cons_of_mem _ ho)
theorem all_hd {N a : Nat} {c : List Nat} (h : ∀ o ∈ a :: c, o < N) : a < N := h a List.mem_cons_self
abbrev ko (b : Option Nat) : Option xQ := b.map (fun o => (0, o))
theorem h_Oa {o : Nat} (ho : o < N) : ∀ a : xQ, some (0, o) = some a → hp N I J P V A B a ≠ none := fun a ha => by
  cases ha
  rw [h_O ho]
  exact fun q => by cases q
theorem lp_D_leftOf {j : Nat} (m T : Int32) : ∀ (c : List Nat) (q : Option xQ) (s : Int32), Ch P q c → (∀ o ∈ c, o < N) → lfo I m s c = T → x_X l G mD_leftOf 0 0 0 [] (x_is (some (xI T)) (hp N I J P V A B)) 7 [some (xR (some (4, j))), some (xI m), some (xI s), some (xR q)] [] (hp N I J P V A B) := by
  intro c
  induction c with
  | nil =>
    intro q s hc hl hT
    subst hT
    have hq : q = none := hc
    subst hq
    refine x_aload_n 8 dD_leftOf_7 rfl rfl ?_
    refine x_ifnull_n 34 11 dD_leftOf_8 (by decide) rfl ?_
    refine x_iload_n 35 dD_leftOf_34 rfl rfl ?_
    exact x_iret dD_leftOf_35 rfl rfl ⟨rfl, rfl⟩
  | cons a c ih =>
    intro q s hc hl hT
    subst hT
    obtain ⟨rfl, hc⟩ := hc
    have ha := all_hd hl
    have hl := all_tl hl
    refine x_aload_n 8 dD_leftOf_7 rfl rfl ?_
    refine x_ifnull_s 34 11 dD_leftOf_8 (by decide) rfl ?_
    refine x_aload_n 12 dD_leftOf_11 rfl rfl ?_
    refine x_get _ 15 fD_28 dD_leftOf_12 rfl (h_O (by assumption)) rfl ?_
    refine x_iload_n 16 dD_leftOf_15 rfl rfl ?_
    refine x_icmp_ne 26 19 dD_leftOf_16 (by decide) rfl (fun h16 => ?_) (fun h16 => ?_)
    · skip
      refine x_aload_n 27 dD_leftOf_26 rfl rfl ?_
      refine x_get _ 30 fD_19 dD_leftOf_27 rfl (h_O (by assumption)) rfl ?_
      refine x_astore_n 31 dD_leftOf_30 rfl (by decide) rfl ?_
      refine x_goto 7 dD_leftOf_31 (by decide) ?_
      exact ih _ _ hc hl (by simp only [lfo, h16, if_true, if_false])
    · skip
      refine x_iload_n 20 dD_leftOf_19 rfl rfl ?_
      refine x_aload_n 21 dD_leftOf_20 rfl rfl ?_
      refine x_get _ 24 fD_32 dD_leftOf_21 rfl (h_O (by assumption)) rfl ?_
      refine x_iadd 25 dD_leftOf_24 rfl ?_
      refine x_istore_n 26 dD_leftOf_25 rfl (by decide) rfl ?_
      refine x_aload_n 27 dD_leftOf_26 rfl rfl ?_
      refine x_get _ 30 fD_19 dD_leftOf_27 rfl (h_O (by assumption)) rfl ?_
      refine x_astore_n 31 dD_leftOf_30 rfl (by decide) rfl ?_
      refine x_goto 7 dD_leftOf_31 (by decide) ?_
      exact ih _ _ hc hl (by simp only [lfo, h16, if_true, if_false])
theorem cD_leftOf {j : Nat} (hj : j < 4) {c : List Nat} (hc : Ch P (P 1 j) c) (hl : ∀ o ∈ c, o < N) (m : Int32) : x_C l G mD_leftOf 0 0 0 [xR (some (4, j)), xI m] (hp N I J P V A B) [] (x_is (some (xI (lfo I m 0 c))) (hp N I J P V A B)) := by
  refine x_C.at [some (xR (some (4, j))), some (xI m), none, none] rfl (Nat.le_of_ble_eq_true rfl) rfl ?_
  refine x_iconst 0 1 dD_leftOf_0 rfl rfl ?_
  refine x_istore_n 2 dD_leftOf_1 rfl (by decide) rfl ?_
  refine x_aload_n 3 dD_leftOf_2 rfl rfl ?_
  refine x_get _ 6 fD_9 dD_leftOf_3 rfl (h_D (by omega)) rfl ?_
  refine x_astore_n 7 dD_leftOf_6 rfl (by decide) rfl ?_
  exact lp_D_leftOf _ _ c _ _ hc hl rfl
theorem lp_D_leftFor {j k : Nat} (hk : k < N) (T : Int32) : ∀ (c : List Nat) (q : Option xQ) (s : Int32), Ch P q c → (∀ o ∈ c, o < N) → lff I k s c = T → x_X l G mD_leftFor 1 0 0 [] (x_is (some (xI T)) (hp N I J P V A B)) 7 [some (xR (some (4, j))), some (xR (some (0, k))), some (xI s), some (xR q)] [] (hp N I J P V A B) := by
  intro c
  induction c with
  | nil =>
    intro q s hc hl hT
    subst hT
    have hq : q = none := hc
    subst hq
    refine x_aload_n 8 dD_leftFor_7 rfl rfl ?_
    refine x_ifnull_n 48 11 dD_leftFor_8 (by decide) rfl ?_
    refine x_iload_n 49 dD_leftFor_48 rfl rfl ?_
    exact x_iret dD_leftFor_49 rfl rfl ⟨rfl, rfl⟩
  | cons a c ih =>
    intro q s hc hl hT
    subst hT
    obtain ⟨rfl, hc⟩ := hc
    have ha := all_hd hl
    have hl := all_tl hl
    refine x_aload_n 8 dD_leftFor_7 rfl rfl ?_
    refine x_ifnull_s 48 11 dD_leftFor_8 (by decide) rfl ?_
    refine x_aload_n 12 dD_leftFor_11 rfl rfl ?_
    refine x_aload_n 13 dD_leftFor_12 rfl rfl ?_
    refine x_get _ 16 fD_35 dD_leftFor_13 rfl (h_O (by assumption)) rfl ?_
    refine x_fVv 19 (cO_accepts (by assumption) _) kD_38 oO_accepts rfl (h_O (by assumption)) dD_leftFor_16 rfl rfl (by decide) (Nat.le_of_ble_eq_true rfl) ?_
    refine x_if_eq 48 22 dD_leftFor_19 (by decide) rfl (fun h19 => ?_) (fun h19 => ?_)
    · skip
      refine x_iload_n 49 dD_leftFor_48 rfl rfl ?_
      exact x_iret dD_leftFor_49 rfl rfl ⟨by simp only [lff, if_neg (b01_z.mp h19)], rfl⟩
    · skip
      refine x_aload_n 23 dD_leftFor_22 rfl rfl ?_
      refine x_get _ 26 fD_28 dD_leftFor_23 rfl (h_O (by assumption)) rfl ?_
      refine x_aload_n 27 dD_leftFor_26 rfl rfl ?_
      refine x_get _ 30 fD_28 dD_leftFor_27 rfl (h_O (by assumption)) rfl ?_
      refine x_icmp_eq 40 33 dD_leftFor_30 (by decide) rfl (fun h30 => ?_) (fun h30 => ?_)
      · skip
        refine x_aload_n 41 dD_leftFor_40 rfl rfl ?_
        refine x_get _ 44 fD_19 dD_leftFor_41 rfl (h_O (by assumption)) rfl ?_
        refine x_astore_n 45 dD_leftFor_44 rfl (by decide) rfl ?_
        refine x_goto 7 dD_leftFor_45 (by decide) ?_
        exact ih _ _ hc hl (by simp only [lff, if_pos (b01_nz.mp h19), h30, if_true, if_false])
      · skip
        refine x_iload_n 34 dD_leftFor_33 rfl rfl ?_
        refine x_aload_n 35 dD_leftFor_34 rfl rfl ?_
        refine x_get _ 38 fD_32 dD_leftFor_35 rfl (h_O (by assumption)) rfl ?_
        refine x_iadd 39 dD_leftFor_38 rfl ?_
        refine x_istore_n 40 dD_leftFor_39 rfl (by decide) rfl ?_
        refine x_aload_n 41 dD_leftFor_40 rfl rfl ?_
        refine x_get _ 44 fD_19 dD_leftFor_41 rfl (h_O (by assumption)) rfl ?_
        refine x_astore_n 45 dD_leftFor_44 rfl (by decide) rfl ?_
        refine x_goto 7 dD_leftFor_45 (by decide) ?_
        exact ih _ _ hc hl (by simp only [lff, if_pos (b01_nz.mp h19), h30, if_true, if_false])
theorem cD_leftFor {j k : Nat} (hj : j < 4) (hk : k < N) {c : List Nat} (hc : Ch P (P 1 j) c) (hl : ∀ o ∈ c, o < N) : x_C l G mD_leftFor 1 0 0 [xR (some (4, j)), xR (some (0, k))] (hp N I J P V A B) [] (x_is (some (xI (lff I k 0 c))) (hp N I J P V A B)) := by
  refine x_C.at [some (xR (some (4, j))), some (xR (some (0, k))), none, none] rfl (Nat.le_of_ble_eq_true rfl) rfl ?_
  refine x_iconst 0 1 dD_leftFor_0 rfl rfl ?_
  refine x_istore_n 2 dD_leftFor_1 rfl (by decide) rfl ?_
  refine x_aload_n 3 dD_leftFor_2 rfl rfl ?_
  refine x_get _ 6 fD_9 dD_leftFor_3 rfl (h_D (by omega)) rfl ?_
  refine x_astore_n 7 dD_leftFor_6 rfl (by decide) rfl ?_
  exact lp_D_leftFor hk _ c _ _ hc hl rfl
theorem lp_D_shownInQueue {j : Nat} {e : Option xQ} (he : ∀ a : xQ, e = some a → hp N I J P V A B a ≠ none) (p T : Int32) : ∀ (c : List Nat) (q : Option xQ) (s : Int32), Ch P q c → (∀ o ∈ c, o < N) → siq I p e s c = T → x_X l G mD_shownInQueue 0 0 0 [] (x_is (some (xI T)) (hp N I J P V A B)) 8 [some (xR (some (4, j))), some (xI p), some (xR e), some (xI s), some (xR q)] [] (hp N I J P V A B) := by
  intro c
  induction c with
  | nil =>
    intro q s hc hl hT
    subst hT
    have hq : q = none := hc
    subst hq
    refine x_aload 10 dD_shownInQueue_8 rfl rfl ?_
    refine x_ifnull_n 46 13 dD_shownInQueue_10 (by decide) rfl ?_
    refine x_iload_n 47 dD_shownInQueue_46 rfl rfl ?_
    exact x_iret dD_shownInQueue_47 rfl rfl ⟨rfl, rfl⟩
  | cons a c ih =>
    intro q s hc hl hT
    subst hT
    obtain ⟨rfl, hc⟩ := hc
    have ha := all_hd hl
    have hl := all_tl hl
    refine x_aload 10 dD_shownInQueue_8 rfl rfl ?_
    refine x_ifnull_s 46 13 dD_shownInQueue_10 (by decide) rfl ?_
    refine x_aload 15 dD_shownInQueue_13 rfl rfl ?_
    refine x_aload_n 16 dD_shownInQueue_15 rfl rfl ?_
    refine x_acmp_eq 46 19 dD_shownInQueue_16 (by decide) rfl (h_Oa ha) he (fun h16 => ?_) (fun h16 => ?_)
    · skip
      refine x_iload_n 47 dD_shownInQueue_46 rfl rfl ?_
      exact x_iret dD_shownInQueue_47 rfl rfl ⟨by simp only [siq, if_pos h16], rfl⟩
    · skip
      refine x_aload 21 dD_shownInQueue_19 rfl rfl ?_
      refine x_get _ 24 fD_35 dD_shownInQueue_21 rfl (h_O (by assumption)) rfl ?_
      refine x_iload_n 25 dD_shownInQueue_24 rfl rfl ?_
      refine x_icmp_ne 36 28 dD_shownInQueue_25 (by decide) rfl (fun h25 => ?_) (fun h25 => ?_)
      · skip
        refine x_aload 38 dD_shownInQueue_36 rfl rfl ?_
        refine x_get _ 41 fD_19 dD_shownInQueue_38 rfl (h_O (by assumption)) rfl ?_
        refine x_astore 43 dD_shownInQueue_41 rfl (by decide) rfl ?_
        refine x_goto 8 dD_shownInQueue_43 (by decide) ?_
        exact ih _ _ hc hl (by simp only [siq, h16, h25, if_true, if_false])
      · skip
        refine x_iload_n 29 dD_shownInQueue_28 rfl rfl ?_
        refine x_aload 31 dD_shownInQueue_29 rfl rfl ?_
        refine x_get _ 34 fD_42 dD_shownInQueue_31 rfl (h_O (by assumption)) rfl ?_
        refine x_iadd 35 dD_shownInQueue_34 rfl ?_
        refine x_istore_n 36 dD_shownInQueue_35 rfl (by decide) rfl ?_
        refine x_aload 38 dD_shownInQueue_36 rfl rfl ?_
        refine x_get _ 41 fD_19 dD_shownInQueue_38 rfl (h_O (by assumption)) rfl ?_
        refine x_astore 43 dD_shownInQueue_41 rfl (by decide) rfl ?_
        refine x_goto 8 dD_shownInQueue_43 (by decide) ?_
        exact ih _ _ hc hl (by simp only [siq, h16, h25, if_true, if_false])
theorem cD_shownInQueue {j : Nat} (hj : j < 4) {e : Option xQ} (he : ∀ a : xQ, e = some a → hp N I J P V A B a ≠ none) {c : List Nat} (hc : Ch P (P 1 j) c) (hl : ∀ o ∈ c, o < N) (p : Int32) : x_C l G mD_shownInQueue 0 0 0 [xR (some (4, j)), xI p, xR e] (hp N I J P V A B) [] (x_is (some (xI (siq I p e 0 c))) (hp N I J P V A B)) := by
  refine x_C.at [some (xR (some (4, j))), some (xI p), some (xR e), none, none] rfl (Nat.le_of_ble_eq_true rfl) rfl ?_
  refine x_iconst 0 1 dD_shownInQueue_0 rfl rfl ?_
  refine x_istore_n 2 dD_shownInQueue_1 rfl (by decide) rfl ?_
  refine x_aload_n 3 dD_shownInQueue_2 rfl rfl ?_
  refine x_get _ 6 fD_9 dD_shownInQueue_3 rfl (h_D (by omega)) rfl ?_
  refine x_astore 8 dD_shownInQueue_6 rfl (by decide) rfl ?_
  exact lp_D_shownInQueue he _ _ c _ _ hc hl rfl
theorem cD_link {j : Nat} (hj : j < 4) {b : Option Nat} (hb : ∀ k : Nat, b = some k → k < N) (r : Option xQ) : x_C l G mD_link 0 0 0 [xR (some (4, j)), xR (ko b), xR r] (hp N I J P V A B) [] (x_is none (hp N I J (lnk P j b r) V A B)) := by
  cases b with
  | none => exact cD_link_n hj r
  | some k => exact cD_link_s (hb k rfl) r
theorem lp_D_leave {j o : Nat} (hj : j < 4) (ho : o < N) (T : Nat → Nat → Option xQ) : ∀ (c : List Nat) (b : Option Nat) (q : Option xQ), Ch P q c → (∀ o ∈ c, o < N) → (∀ k : Nat, b = some k → k < N) → lvP P j o b c = T → x_X l G mD_leave 1 0 0 [] (x_is none (hp N I J T V A B)) 7 [some (xR (some (4, j))), some (xR (some (0, o))), some (xR (ko b)), some (xR q)] [] (hp N I J P V A B) := by
  intro c
  induction c with
  | nil =>
    intro b q hc hl hb hT
    subst hT
    have hq : q = none := hc
    subst hq
    refine x_aload_n 8 dD_leave_7 rfl rfl ?_
    refine x_ifnull_n 26 11 dD_leave_8 (by decide) rfl ?_
    refine x_aload_n 27 dD_leave_26 rfl rfl ?_
    refine x_ifnull_n 44 30 dD_leave_27 (by decide) rfl ?_
    exact x_vret dD_leave_44 rfl ⟨rfl, rfl⟩
  | cons a c ih =>
    intro b q hc hl hb hT
    subst hT
    obtain ⟨rfl, hc⟩ := hc
    have ha := all_hd hl
    have hl := all_tl hl
    refine x_aload_n 8 dD_leave_7 rfl rfl ?_
    refine x_ifnull_s 26 11 dD_leave_8 (by decide) rfl ?_
    refine x_aload_n 12 dD_leave_11 rfl rfl ?_
    refine x_aload_n 13 dD_leave_12 rfl rfl ?_
    refine x_acmp_eq 26 16 dD_leave_13 (by decide) rfl (h_Oa ha) (h_Oa ho) (fun h13 => ?_) (fun h13 => ?_)
    · skip
      refine x_aload_n 27 dD_leave_26 rfl rfl ?_
      refine x_ifnull_s 44 30 dD_leave_27 (by decide) rfl ?_
      refine x_aload_n 31 dD_leave_30 rfl rfl ?_
      refine x_aload_n 32 dD_leave_31 rfl rfl ?_
      refine x_aload_n 33 dD_leave_32 rfl rfl ?_
      refine x_get _ 36 fD_19 dD_leave_33 rfl (h_O (by assumption)) rfl ?_
      refine x_fVn 39 (cD_link hj hb _) kD_24 oD_link rfl (h_D (by omega)) dD_leave_36 rfl rfl (by decide) (Nat.le_of_ble_eq_true rfl) ?_
      refine x_aload_n 40 dD_leave_39 rfl rfl ?_
      refine x_null 41 dD_leave_40 rfl ?_
      refine y_O9 44 pD_leave_19 dD_leave_41 rfl (by assumption) ?_
      exact x_vret dD_leave_44 rfl ⟨rfl, by simp only [lvP, if_pos (show a = o from by cases h13; rfl)]⟩
    · skip
      refine x_aload_n 17 dD_leave_16 rfl rfl ?_
      refine x_astore_n 18 dD_leave_17 rfl (by decide) rfl ?_
      refine x_aload_n 19 dD_leave_18 rfl rfl ?_
      refine x_get _ 22 fD_19 dD_leave_19 rfl (h_O (by assumption)) rfl ?_
      refine x_astore_n 23 dD_leave_22 rfl (by decide) rfl ?_
      refine x_goto 7 dD_leave_23 (by decide) ?_
      exact ih (some a) _ hc hl (fun k hk => by cases hk; exact ha) (by simp only [lvP, if_neg (show ¬ a = o from fun q => h13 (by rw [q]))])
theorem cD_leave {j o : Nat} (hj : j < 4) (ho : o < N) {c : List Nat} (hc : Ch P (P 1 j) c) (hl : ∀ o ∈ c, o < N) : x_C l G mD_leave 1 0 0 [xR (some (4, j)), xR (some (0, o))] (hp N I J P V A B) [] (x_is none (hp N I J (lvP P j o none c) V A B)) := by
  refine x_C.at [some (xR (some (4, j))), some (xR (some (0, o))), none, none] rfl (Nat.le_of_ble_eq_true rfl) rfl ?_
  refine x_null 1 dD_leave_0 rfl ?_
  refine x_astore_n 2 dD_leave_1 rfl (by decide) rfl ?_
  refine x_aload_n 3 dD_leave_2 rfl rfl ?_
  refine x_get _ 6 fD_9 dD_leave_3 rfl (h_D (by omega)) rfl ?_
  refine x_astore_n 7 dD_leave_6 rfl (by decide) rfl ?_
  exact lp_D_leave hj ho _ c none _ hc hl (fun k hk => by cases hk) rfl
theorem lp_D_join {j o : Nat} (hj : j < 4) (ho : o < N) (T : Nat → Nat → Option xQ) : ∀ (c : List Nat) (b : Option Nat) (q : Option xQ), Ch P q c → (∀ o ∈ c, o < N) → (∀ k : Nat, b = some k → k < N) → jnP I P j o b c = T → x_X l G mD_join 2 0 0 [] (x_is none (hp N I J T V A B)) 7 [some (xR (some (4, j))), some (xR (some (0, o))), some (xR (ko b)), some (xR q)] [] (hp N I J P V A B) := by
  intro c
  induction c with
  | nil =>
    intro b q hc hl hb hT
    subst hT
    have hq : q = none := hc
    subst hq
    refine x_aload_n 8 dD_join_7 rfl rfl ?_
    refine x_ifnull_n 29 11 dD_join_8 (by decide) rfl ?_
    refine x_aload_n 30 dD_join_29 rfl rfl ?_
    refine x_aload_n 31 dD_join_30 rfl rfl ?_
    refine y_O9 34 pD_join_19 dD_join_31 rfl (by assumption) ?_
    refine x_aload_n 35 dD_join_34 rfl rfl ?_
    refine x_aload_n 36 dD_join_35 rfl rfl ?_
    refine x_aload_n 37 dD_join_36 rfl rfl ?_
    refine x_fVn 40 (cD_link hj hb _) kD_24 oD_link rfl (h_D (by omega)) dD_join_37 rfl rfl (by decide) (Nat.le_of_ble_eq_true rfl) ?_
    exact x_vret dD_join_40 rfl ⟨rfl, rfl⟩
  | cons a c ih =>
    intro b q hc hl hb hT
    subst hT
    obtain ⟨rfl, hc⟩ := hc
    have ha := all_hd hl
    have hl := all_tl hl
    refine x_aload_n 8 dD_join_7 rfl rfl ?_
    refine x_ifnull_s 29 11 dD_join_8 (by decide) rfl ?_
    refine x_aload_n 12 dD_join_11 rfl rfl ?_
    refine x_aload_n 13 dD_join_12 rfl rfl ?_
    refine x_fSv 16 (cD_isBetter ho ha) kD_15 oD_isBetter dD_join_13 rfl rfl (by decide) (Nat.le_of_ble_eq_true rfl) ?_
    refine x_if_ne 29 19 dD_join_16 (by decide) rfl (fun h16 => ?_) (fun h16 => ?_)
    · skip
      refine x_aload_n 30 dD_join_29 rfl rfl ?_
      refine x_aload_n 31 dD_join_30 rfl rfl ?_
      refine y_O9 34 pD_join_19 dD_join_31 rfl (by assumption) ?_
      refine x_aload_n 35 dD_join_34 rfl rfl ?_
      refine x_aload_n 36 dD_join_35 rfl rfl ?_
      refine x_aload_n 37 dD_join_36 rfl rfl ?_
      refine x_fVn 40 (cD_link hj hb _) kD_24 oD_link rfl (h_D (by omega)) dD_join_37 rfl rfl (by decide) (Nat.le_of_ble_eq_true rfl) ?_
      exact x_vret dD_join_40 rfl ⟨rfl, by simp only [jnP, if_pos (b01_nz.mp h16)]⟩
    · skip
      refine x_aload_n 20 dD_join_19 rfl rfl ?_
      refine x_astore_n 21 dD_join_20 rfl (by decide) rfl ?_
      refine x_aload_n 22 dD_join_21 rfl rfl ?_
      refine x_get _ 25 fD_19 dD_join_22 rfl (h_O (by assumption)) rfl ?_
      refine x_astore_n 26 dD_join_25 rfl (by decide) rfl ?_
      refine x_goto 7 dD_join_26 (by decide) ?_
      exact ih (some a) _ hc hl (fun k hk => by cases hk; exact ha) (by simp only [jnP, if_neg (b01_z.mp h16)])
theorem cD_join {j o : Nat} (hj : j < 4) (ho : o < N) {c : List Nat} (hc : Ch P (P 1 j) c) (hl : ∀ o ∈ c, o < N) : x_C l G mD_join 2 0 0 [xR (some (4, j)), xR (some (0, o))] (hp N I J P V A B) [] (x_is none (hp N I J (jnP I P j o none c) V A B)) := by
  refine x_C.at [some (xR (some (4, j))), some (xR (some (0, o))), none, none] rfl (Nat.le_of_ble_eq_true rfl) rfl ?_
  refine x_null 1 dD_join_0 rfl ?_
  refine x_astore_n 2 dD_join_1 rfl (by decide) rfl ?_
  refine x_aload_n 3 dD_join_2 rfl rfl ?_
  refine x_get _ 6 fD_9 dD_join_3 rfl (h_D (by omega)) rfl ?_
  refine x_astore_n 7 dD_join_6 rfl (by decide) rfl ?_
  exact lp_D_join hj ho _ c none _ hc hl (fun k hk => by cases hk) rfl
theorem lp_D_withdrawAll {j : Nat} (hj : j < 4) (T : Nat → Nat → Int32) : ∀ (c : List Nat) (I : Nat → Nat → Int32) (q : Option xQ), Ch P q c → (∀ o ∈ c, o < N) → wdI I c = T → x_X l G mD_withdrawAll 0 0 0 [] (x_is none (hp N T J (sp P 1 j none) V A B)) 5 [some (xR (some (4, j))), some (xR q)] [] (hp N I J P V A B) := by
  intro c
  induction c with
  | nil =>
    intro I q hc hl hT
    subst hT
    have hq : q = none := hc
    subst hq
    refine x_aload_n 6 dD_withdrawAll_5 rfl rfl ?_
    refine x_ifnull_n 22 9 dD_withdrawAll_6 (by decide) rfl ?_
    refine x_aload_n 23 dD_withdrawAll_22 rfl rfl ?_
    refine x_null 24 dD_withdrawAll_23 rfl ?_
    refine y_D0 27 pD_withdrawAll_9 dD_withdrawAll_24 rfl (by omega) ?_
    exact x_vret dD_withdrawAll_27 rfl ⟨rfl, rfl⟩
  | cons a c ih =>
    intro I q hc hl hT
    subst hT
    obtain ⟨rfl, hc⟩ := hc
    have ha := all_hd hl
    have hl := all_tl hl
    refine x_aload_n 6 dD_withdrawAll_5 rfl rfl ?_
    refine x_ifnull_s 22 9 dD_withdrawAll_6 (by decide) rfl ?_
    refine x_aload_n 10 dD_withdrawAll_9 rfl rfl ?_
    refine x_iconst 2 11 dD_withdrawAll_10 rfl rfl ?_
    refine y_O8 14 pD_withdrawAll_45 dD_withdrawAll_11 rfl (by assumption) ?_
    refine x_aload_n 15 dD_withdrawAll_14 rfl rfl ?_
    refine x_get _ 18 fD_19 dD_withdrawAll_15 rfl (h_O (by assumption)) rfl ?_
    refine x_astore_n 19 dD_withdrawAll_18 rfl (by decide) rfl ?_
    refine x_goto 5 dD_withdrawAll_19 (by decide) ?_
    exact ih _ _ hc hl rfl
theorem cD_withdrawAll {j : Nat} (hj : j < 4) {c : List Nat} (hc : Ch P (P 1 j) c) (hl : ∀ o ∈ c, o < N) : x_C l G mD_withdrawAll 0 0 0 [xR (some (4, j))] (hp N I J P V A B) [] (x_is none (hp N (wdI I c) J (sp P 1 j none) V A B)) := by
  refine x_C.at [some (xR (some (4, j))), none] rfl (Nat.le_of_ble_eq_true rfl) rfl ?_
  refine x_aload_n 1 dD_withdrawAll_0 rfl rfl ?_
  refine x_get _ 4 fD_9 dD_withdrawAll_1 rfl (h_D (by omega)) rfl ?_
  refine x_astore_n 5 dD_withdrawAll_4 rfl (by decide) rfl ?_
  exact lp_D_withdrawAll hj _ c _ _ hc hl rfl
end M3
end
section
section M4
variable {l : Launch} {G : xG} {N : Nat} {I : Nat → Nat → Int32} {J : Nat → Nat → Int64} {P : Nat → Nat → Option xQ} {V : Nat → Nat → Int32} {A : Nat → Nat → Int32} {B : Nat → Nat → Int64}
variable {h : xH}
theorem i_nat (i : Int32) : i.toNatClampNeg = i.toInt.toNat := rfl
theorem vp_of {i : Int32} {n : Nat} (h0 : 0 ≤ i.toInt) (h1 : i.toInt < n) : vp_in i n := by
  rintro (h | h)
  · rw [Int32.lt_iff_toInt_lt, Int32.toInt_zero] at h
    omega
  · rw [i_nat] at h
    omega
theorem vp_to {i : Int32} {n : Nat} (h : vp_in i n) : 0 ≤ i.toInt ∧ i.toInt < n := by
  have h0 : ¬ i < 0 := fun q => h (Or.inl q)
  have h1 := vp_lt h
  rw [Int32.lt_iff_toInt_lt, Int32.toInt_zero] at h0
  rw [i_nat] at h1
  omega
theorem i_one : (Int32.ofInt 1).toInt = 1 := by decide
theorem i_mone : (Int32.ofInt (-1)).toInt = -1 := by decide
theorem i_inc {p : Int32} (h0 : -2147483648 ≤ p.toInt) (hk : p.toInt < 2147483647) : (p + Int32.ofInt 1).toInt = p.toInt + 1 := by
  rw [Kit.i32_add (by rw [i_one]; omega) (by rw [i_one]; omega), i_one]
theorem i_dec {p : Int32} (h0 : -2147483648 < p.toInt) : (p + Int32.ofInt (-1)).toInt = p.toInt - 1 := by
  have := p.toInt_lt
  rw [Kit.i32_add (by rw [i_mone]; omega) (by rw [i_mone]; omega), i_mone]
  omega
theorem i_lt {a b : Int32} : a < b ↔ a.toInt < b.toInt := Int32.lt_iff_toInt_lt
theorem i_le {a b : Int32} : a ≤ b ↔ a.toInt ≤ b.toInt := Int32.le_iff_toInt_le
theorem i_p1 {p : Int32} (h0 : 0 ≤ p.toInt) (hk : p.toInt < 2147483647) : (p + 1).toInt = p.toInt + 1 := i_inc (by omega) hk
theorem i_m1 {p : Int32} (h0 : 0 ≤ p.toInt) : (p - 1).toInt = p.toInt - 1 := by
  have := p.toInt_lt
  rw [Kit.i32_sub (by rw [show (1 : Int32).toInt = 1 by decide]; omega) (by rw [show (1 : Int32).toInt = 1 by decide]; omega)]
  rfl
def vol (I : Nat → Nat → Int32) (p : Int32) : Int32 := i_min (I 15 p.toNatClampNeg) (I 16 p.toNatClampNeg)
def sur (I : Nat → Nat → Int32) (p : Int32) : Int32 := I 15 p.toNatClampNeg - I 16 p.toNatClampNeg
theorem cS_volumeAt {p : Int32} (hp1 : vp_in p 65) : x_C l G mS_volumeAt 1 0 0 [xR (some (11, 0)), xI p] (hp N I J P V A B) [] (x_is (some (xI (vol I p))) (hp N I J P V A B)) := by
  refine x_C.at [some (xR (some (11, 0))), some (xI p)] rfl (Nat.le_of_ble_eq_true rfl) rfl ?_
  refine x_aload_n 1 dS_volumeAt_0 rfl rfl ?_
  refine x_get _ 4 fS_9 dS_volumeAt_1 rfl rfl rfl ?_
  refine x_iload_n 5 dS_volumeAt_4 rfl rfl ?_
  refine x_iald 6 dS_volumeAt_5 rfl rfl (by assumption) ?_
  refine x_aload_n 7 dS_volumeAt_6 rfl rfl ?_
  refine x_get _ 10 fS_15 dS_volumeAt_7 rfl rfl rfl ?_
  refine x_iload_n 11 dS_volumeAt_10 rfl rfl ?_
  refine x_iald 12 dS_volumeAt_11 rfl rfl (by assumption) ?_
  refine x_mmin 15 kS_44 dS_volumeAt_12 rfl (by decide) (Nat.le_of_ble_eq_true rfl) ?_
  exact x_iret dS_volumeAt_15 rfl rfl ⟨rfl, rfl⟩
theorem cS_surplusAt {p : Int32} (hp1 : vp_in p 65) : x_C l G mS_surplusAt 0 0 0 [xR (some (11, 0)), xI p] (hp N I J P V A B) [] (x_is (some (xI (sur I p))) (hp N I J P V A B)) := by
  refine x_C.at [some (xR (some (11, 0))), some (xI p)] rfl (Nat.le_of_ble_eq_true rfl) rfl ?_
  refine x_aload_n 1 dS_surplusAt_0 rfl rfl ?_
  refine x_get _ 4 fS_9 dS_surplusAt_1 rfl rfl rfl ?_
  refine x_iload_n 5 dS_surplusAt_4 rfl rfl ?_
  refine x_iald 6 dS_surplusAt_5 rfl rfl (by assumption) ?_
  refine x_aload_n 7 dS_surplusAt_6 rfl rfl ?_
  refine x_get _ 10 fS_15 dS_surplusAt_7 rfl rfl rfl ?_
  refine x_iload_n 11 dS_surplusAt_10 rfl rfl ?_
  refine x_iald 12 dS_surplusAt_11 rfl rfl (by assumption) ?_
  refine x_isub 13 dS_surplusAt_12 rfl ?_
  exact x_iret dS_surplusAt_13 rfl rfl ⟨rfl, rfl⟩
def fl (I : Nat → Nat → Int32) (c n : Nat) : Nat → Nat → Int32 := fun c' => if c' = c then (fun k => if k < n then 0 else I c k) else I c'
theorem fl_step (I : Nat → Nat → Int32) (c n : Nat) : si (fl I c n) c n 0 = fl I c (n + 1) := by
  funext c' k
  by_cases hc : c' = c
  · subst hc
    simp only [si, fl, if_true, x_uf]
    by_cases hk : k = n
    · subst hk; simp
    · have h1 : (k < n) ↔ (k < n + 1) := by omega
      simp [hk, h1]
  · simp [si, fl, hc]
theorem fl_zero (I : Nat → Nat → Int32) (c : Nat) : fl I c 0 = I := by
  funext c' k
  by_cases hc : c' = c
  · subst hc; simp [fl]
  · simp [fl, hc]
theorem of_nat {n : Nat} (h : n < 2147483648) : (Int32.ofNat n).toInt = n := by
  rw [Int32.toInt_ofNat_of_lt (by omega)]
theorem lp_fill_bought : ∀ (n k : Nat) (i : Int32), i.toInt = k → k + n = 65 → x_X l G mY_fill 0 0 0 [] (x_is none (hp N (fl I 15 65) J P V A B)) 5 [some (xR (some (12, 0))), some (xI 0), some (xI i), some (xI (Int32.ofNat 65))] [] (hp N (fl I 15 k) J P V A B) := by
  intro n
  induction n with
  | zero =>
    intro k i hi hk
    refine x_iload_n 6 dY_fill_5 rfl rfl ?_
    refine x_iload_n 7 dY_fill_6 rfl rfl ?_
    refine x_icmp_ge 20 10 dY_fill_7 (by decide) rfl (fun h7 => ?_) (fun h7 => absurd (show (Int32.ofNat 65) ≤ i from by rw [i_le, of_nat (by decide)]; omega) h7)
    exact x_vret dY_fill_20 rfl ⟨rfl, by rw [show k = 65 by omega]⟩
  | succ n ih =>
    intro k i hi hk
    have hin : vp_in i 65 := vp_of (by omega) (by omega)
    refine x_iload_n 6 dY_fill_5 rfl rfl ?_
    refine x_iload_n 7 dY_fill_6 rfl rfl ?_
    refine x_icmp_ge 20 10 dY_fill_7 (by decide) rfl (fun h7 => absurd h7 (show ¬ (Int32.ofNat 65) ≤ i from by rw [i_le, of_nat (by decide)]; omega)) (fun h7 => ?_)
    refine x_aload_n 11 dY_fill_10 rfl rfl ?_
    refine x_iload_n 12 dY_fill_11 rfl rfl ?_
    refine x_iload_n 13 dY_fill_12 rfl rfl ?_
    refine y_bought 14 dY_fill_13 rfl (by assumption) ?_
    refine x_iinc 17 dY_fill_14 rfl rfl (by decide) rfl ?_
    refine x_goto 5 dY_fill_17 (by decide) ?_
    rw [show i.toNatClampNeg = k by rw [i_nat]; omega, fl_step]
    exact ih (k + 1) _ (by rw [i_inc (by omega) (by omega)]; omega) (by omega)
theorem cY_fill_bought  : x_C l G mY_fill 0 0 0 [xR (some (12, 0)), xI 0] (hp N I J P V A B) [] (x_is none (hp N (fl I 15 65) J P V A B)) := by
  refine x_C.at [some (xR (some (12, 0))), some (xI 0), none, none] rfl (Nat.le_of_ble_eq_true rfl) rfl ?_
  refine x_iconst 0 1 dY_fill_0 rfl rfl ?_
  refine x_istore_n 2 dY_fill_1 rfl (by decide) rfl ?_
  refine x_aload_n 3 dY_fill_2 rfl rfl ?_
  refine x_alen 4 rfl dY_fill_3 rfl rfl ?_
  refine x_istore_n 5 dY_fill_4 rfl (by decide) rfl ?_
  have := lp_fill_bought (l := l) (G := G) (N := N) (I := I) (J := J) (P := P) (V := V) (A := A) (B := B) 65 0 0 rfl rfl
  rw [fl_zero] at this
  exact this
theorem lp_fill_sold : ∀ (n k : Nat) (i : Int32), i.toInt = k → k + n = 65 → x_X l G mY_fill 0 0 0 [] (x_is none (hp N (fl I 16 65) J P V A B)) 5 [some (xR (some (13, 0))), some (xI 0), some (xI i), some (xI (Int32.ofNat 65))] [] (hp N (fl I 16 k) J P V A B) := by
  intro n
  induction n with
  | zero =>
    intro k i hi hk
    refine x_iload_n 6 dY_fill_5 rfl rfl ?_
    refine x_iload_n 7 dY_fill_6 rfl rfl ?_
    refine x_icmp_ge 20 10 dY_fill_7 (by decide) rfl (fun h7 => ?_) (fun h7 => absurd (show (Int32.ofNat 65) ≤ i from by rw [i_le, of_nat (by decide)]; omega) h7)
    exact x_vret dY_fill_20 rfl ⟨rfl, by rw [show k = 65 by omega]⟩
  | succ n ih =>
    intro k i hi hk
    have hin : vp_in i 65 := vp_of (by omega) (by omega)
    refine x_iload_n 6 dY_fill_5 rfl rfl ?_
    refine x_iload_n 7 dY_fill_6 rfl rfl ?_
    refine x_icmp_ge 20 10 dY_fill_7 (by decide) rfl (fun h7 => absurd h7 (show ¬ (Int32.ofNat 65) ≤ i from by rw [i_le, of_nat (by decide)]; omega)) (fun h7 => ?_)
    refine x_aload_n 11 dY_fill_10 rfl rfl ?_
    refine x_iload_n 12 dY_fill_11 rfl rfl ?_
    refine x_iload_n 13 dY_fill_12 rfl rfl ?_
    refine y_sold 14 dY_fill_13 rfl (by assumption) ?_
    refine x_iinc 17 dY_fill_14 rfl rfl (by decide) rfl ?_
    refine x_goto 5 dY_fill_17 (by decide) ?_
    rw [show i.toNatClampNeg = k by rw [i_nat]; omega, fl_step]
    exact ih (k + 1) _ (by rw [i_inc (by omega) (by omega)]; omega) (by omega)
theorem cY_fill_sold  : x_C l G mY_fill 0 0 0 [xR (some (13, 0)), xI 0] (hp N I J P V A B) [] (x_is none (hp N (fl I 16 65) J P V A B)) := by
  refine x_C.at [some (xR (some (13, 0))), some (xI 0), none, none] rfl (Nat.le_of_ble_eq_true rfl) rfl ?_
  refine x_iconst 0 1 dY_fill_0 rfl rfl ?_
  refine x_istore_n 2 dY_fill_1 rfl (by decide) rfl ?_
  refine x_aload_n 3 dY_fill_2 rfl rfl ?_
  refine x_alen 4 rfl dY_fill_3 rfl rfl ?_
  refine x_istore_n 5 dY_fill_4 rfl (by decide) rfl ?_
  have := lp_fill_sold (l := l) (G := G) (N := N) (I := I) (J := J) (P := P) (V := V) (A := A) (B := B) 65 0 0 rfl rfl
  rw [fl_zero] at this
  exact this
def wgB (c0 : Nat) (I : Nat → Nat → Int32) : List Nat → Nat → Nat → Int32
  | [] => I
  | o :: c => wgB c0 (si I c0 (I 5 o).toNatClampNeg (I c0 (I 5 o).toNatClampNeg + I 6 o)) c
def cumB : Nat → Int32 → (Nat → Nat → Int32) → Nat → Nat → Int32
  | 0, _, I => I
  | n + 1, p, I => cumB n (p + Int32.ofInt (-1)) (si I 15 p.toNatClampNeg (I 15 p.toNatClampNeg + I 15 (p + 1).toNatClampNeg))
def cumS : Nat → Int32 → (Nat → Nat → Int32) → Nat → Nat → Int32
  | 0, _, I => I
  | n + 1, p, I => cumS n (p + Int32.ofInt 1) (si I 16 p.toNatClampNeg (I 16 p.toNatClampNeg + I 16 (p - 1).toNatClampNeg))
def wgh (I : Nat → Nat → Int32) (cb cs : List Nat) : Nat → Nat → Int32 := cumS 63 1 (cumB 63 63 (wgB 16 (wgB 15 (fl (fl I 15 65) 16 65) cb) cs))
theorem wgB_5 (I : Nat → Nat → Int32) (c0 : Nat) (hc : c0 = 15 ∨ c0 = 16) : ∀ c : List Nat, wgB c0 I c 5 = I 5
  | [] => rfl
  | o :: c => by
    rw [wgB, wgB_5 _ c0 hc c]
    rcases hc with rfl | rfl <;> rfl
theorem lp_w4 {i : Nat} (T : Nat → Nat → Int32) : ∀ (n : Nat) (p : Int32) (I : Nat → Nat → Int32), p.toInt + n = 64 → 1 ≤ p.toInt → cumS n p I = T → x_X l G mS_weigh 0 0 0 [] (x_is none (hp N T J P V A B)) 121 [some (xR (some (11, 0))), some (xR (some (3, i))), some (xI p)] [] (hp N I J P V A B) := by
  intro n
  induction n with
  | zero =>
    intro p I hp1 hp2 hT
    subst hT
    refine x_iload_n 122 dS_weigh_121 rfl rfl ?_
    refine x_bipush (63) 124 dS_weigh_122 rfl rfl ?_
    refine x_icmp_gt 150 127 dS_weigh_124 (by decide) rfl (fun h124 => ?_) (fun h124 => absurd (show (63 : Int32) < p from by rw [i_lt, show (63 : Int32).toInt = 63 by decide]; omega) h124)
    exact x_vret dS_weigh_150 rfl ⟨rfl, rfl⟩
  | succ n ih =>
    intro p I hp1 hp2 hT
    subst hT
    have hin : vp_in p 65 := vp_of (by omega) (by omega)
    have hin1 : vp_in (p - 1) 65 := vp_of (by rw [i_m1 (by omega)]; omega) (by rw [i_m1 (by omega)]; omega)
    refine x_iload_n 122 dS_weigh_121 rfl rfl ?_
    refine x_bipush (63) 124 dS_weigh_122 rfl rfl ?_
    refine x_icmp_gt 150 127 dS_weigh_124 (by decide) rfl (fun h124 => absurd h124 (show ¬ (63 : Int32) < p from by rw [i_lt, show (63 : Int32).toInt = 63 by decide]; omega)) (fun h124 => ?_)
    refine x_aload_n 128 dS_weigh_127 rfl rfl ?_
    refine x_get _ 131 fS_15 dS_weigh_128 rfl rfl rfl ?_
    refine x_iload_n 132 dS_weigh_131 rfl rfl ?_
    refine x_dup2 133 dS_weigh_132 rfl rfl rfl ?_
    refine x_iald 134 dS_weigh_133 rfl rfl hin ?_
    refine x_aload_n 135 dS_weigh_134 rfl rfl ?_
    refine x_get _ 138 fS_15 dS_weigh_135 rfl rfl rfl ?_
    refine x_iload_n 139 dS_weigh_138 rfl rfl ?_
    refine x_iconst 1 140 dS_weigh_139 rfl rfl ?_
    refine x_isub 141 dS_weigh_140 rfl ?_
    refine x_iald 142 dS_weigh_141 rfl rfl hin1 ?_
    refine x_iadd 143 dS_weigh_142 rfl ?_
    refine y_sold 144 dS_weigh_143 rfl hin ?_
    refine x_iinc 147 dS_weigh_144 rfl rfl (by decide) rfl ?_
    refine x_goto 121 dS_weigh_147 (by decide) ?_
    exact ih _ _ (by rw [i_inc (by omega) (by omega)]; omega) (by rw [i_inc (by omega) (by omega)]; omega) rfl
theorem lp_w3 {i : Nat} (T : Nat → Nat → Int32) : ∀ (n : Nat) (p : Int32) (I : Nat → Nat → Int32), p.toInt = n → n ≤ 63 → cumS 63 1 (cumB n p I) = T → x_X l G mS_weigh 0 0 0 [] (x_is none (hp N T J P V A B)) 91 [some (xR (some (11, 0))), some (xR (some (3, i))), some (xI p)] [] (hp N I J P V A B) := by
  intro n
  induction n with
  | zero =>
    intro p I hp1 hp2 hT
    subst hT
    refine x_iload_n 92 dS_weigh_91 rfl rfl ?_
    refine x_iconst 1 93 dS_weigh_92 rfl rfl ?_
    refine x_icmp_lt 119 96 dS_weigh_93 (by decide) rfl (fun h93 => ?_) (fun h93 => absurd (show p < (1 : Int32) from by rw [i_lt, show (1 : Int32).toInt = 1 by decide]; omega) h93)
    refine x_iconst 1 120 dS_weigh_119 rfl rfl ?_
    refine x_istore_n 121 dS_weigh_120 rfl (by decide) rfl ?_
    exact lp_w4 _ 63 1 _ (by decide) (by decide) rfl
  | succ n ih =>
    intro p I hp1 hp2 hT
    subst hT
    have hin : vp_in p 65 := vp_of (by omega) (by omega)
    have hin1 : vp_in (p + 1) 65 := vp_of (by rw [i_p1 (by omega) (by omega)]; omega) (by rw [i_p1 (by omega) (by omega)]; omega)
    refine x_iload_n 92 dS_weigh_91 rfl rfl ?_
    refine x_iconst 1 93 dS_weigh_92 rfl rfl ?_
    refine x_icmp_lt 119 96 dS_weigh_93 (by decide) rfl (fun h93 => absurd h93 (show ¬ p < (1 : Int32) from by rw [i_lt, show (1 : Int32).toInt = 1 by decide]; omega)) (fun h93 => ?_)
    refine x_aload_n 97 dS_weigh_96 rfl rfl ?_
    refine x_get _ 100 fS_9 dS_weigh_97 rfl rfl rfl ?_
    refine x_iload_n 101 dS_weigh_100 rfl rfl ?_
    refine x_dup2 102 dS_weigh_101 rfl rfl rfl ?_
    refine x_iald 103 dS_weigh_102 rfl rfl hin ?_
    refine x_aload_n 104 dS_weigh_103 rfl rfl ?_
    refine x_get _ 107 fS_9 dS_weigh_104 rfl rfl rfl ?_
    refine x_iload_n 108 dS_weigh_107 rfl rfl ?_
    refine x_iconst 1 109 dS_weigh_108 rfl rfl ?_
    refine x_iadd 110 dS_weigh_109 rfl ?_
    refine x_iald 111 dS_weigh_110 rfl rfl hin1 ?_
    refine x_iadd 112 dS_weigh_111 rfl ?_
    refine y_bought 113 dS_weigh_112 rfl hin ?_
    refine x_iinc 116 dS_weigh_113 rfl rfl (by decide) rfl ?_
    refine x_goto 91 dS_weigh_116 (by decide) ?_
    exact ih _ _ (by rw [i_dec (by omega)]; omega) (by omega) rfl
theorem lp_w2 {i : Nat} (T : Nat → Nat → Int32) : ∀ (c : List Nat) (I : Nat → Nat → Int32) (q : Option xQ), Ch P q c → (∀ o ∈ c, o < N) → (∀ o ∈ c, vp_in (I 5 o) 65) → cumS 63 1 (cumB 63 63 (wgB 16 I c)) = T → x_X l G mS_weigh 0 0 0 [] (x_is none (hp N T J P V A B)) 60 [some (xR (some (11, 0))), some (xR (some (3, i))), some (xR q)] [] (hp N I J P V A B) := by
  intro c
  induction c with
  | nil =>
    intro I q hc hl h5 hT
    subst hT
    have hq : q = none := hc
    subst hq
    refine x_aload_n 61 dS_weigh_60 rfl rfl ?_
    refine x_ifnull_n 88 64 dS_weigh_61 (by decide) rfl ?_
    refine x_bipush (63) 90 dS_weigh_88 rfl rfl ?_
    refine x_istore_n 91 dS_weigh_90 rfl (by decide) rfl ?_
    exact lp_w3 _ 63 63 _ (by decide) (by decide) rfl
  | cons a c ih =>
    intro I q hc hl h5 hT
    subst hT
    obtain ⟨rfl, hc⟩ := hc
    have ha := all_hd hl
    have hl := all_tl hl
    have h5a : vp_in (I 5 a) 65 := h5 a List.mem_cons_self
    have h5 : ∀ o ∈ c, vp_in (I 5 o) 65 := fun o ho => h5 o (List.mem_cons_of_mem _ ho)
    refine x_aload_n 61 dS_weigh_60 rfl rfl ?_
    refine x_ifnull_s 88 64 dS_weigh_61 (by decide) rfl ?_
    refine x_aload_n 65 dS_weigh_64 rfl rfl ?_
    refine x_get _ 68 fS_15 dS_weigh_65 rfl rfl rfl ?_
    refine x_aload_n 69 dS_weigh_68 rfl rfl ?_
    refine x_get _ 72 fS_64 dS_weigh_69 rfl (h_O (by assumption)) rfl ?_
    refine x_dup2 73 dS_weigh_72 rfl rfl rfl ?_
    refine x_iald 74 dS_weigh_73 rfl rfl h5a ?_
    refine x_aload_n 75 dS_weigh_74 rfl rfl ?_
    refine x_get _ 78 fS_69 dS_weigh_75 rfl (h_O (by assumption)) rfl ?_
    refine x_iadd 79 dS_weigh_78 rfl ?_
    refine y_sold 80 dS_weigh_79 rfl h5a ?_
    refine x_aload_n 81 dS_weigh_80 rfl rfl ?_
    refine x_get _ 84 fS_72 dS_weigh_81 rfl (h_O (by assumption)) rfl ?_
    refine x_astore_n 85 dS_weigh_84 rfl (by decide) rfl ?_
    refine x_goto 60 dS_weigh_85 (by decide) ?_
    exact ih _ _ hc hl h5 rfl
theorem lp_w1 {i : Nat} (hi : i < 2) (T : Nat → Nat → Int32) {cs : List Nat} (hcs : Ch P (P 1 (2 * i + 1)) cs) (hls : ∀ o ∈ cs, o < N) : ∀ (c : List Nat) (I : Nat → Nat → Int32) (q : Option xQ), Ch P q c → (∀ o ∈ c, o < N) → (∀ o ∈ c, vp_in (I 5 o) 65) → (∀ o ∈ cs, vp_in (I 5 o) 65) → cumS 63 1 (cumB 63 63 (wgB 16 (wgB 15 I c) cs)) = T → x_X l G mS_weigh 0 0 0 [] (x_is none (hp N T J P V A B)) 24 [some (xR (some (11, 0))), some (xR (some (3, i))), some (xR q)] [] (hp N I J P V A B) := by
  intro c
  induction c with
  | nil =>
    intro I q hc hl h5 h5s hT
    subst hT
    have hq : q = none := hc
    subst hq
    refine x_aload_n 25 dS_weigh_24 rfl rfl ?_
    refine x_ifnull_n 52 28 dS_weigh_25 (by decide) rfl ?_
    refine x_aload_n 53 dS_weigh_52 rfl rfl ?_
    refine x_get _ 56 fS_75 dS_weigh_53 rfl (h_B (by assumption)) rfl ?_
    refine x_get _ 59 fS_58 dS_weigh_56 rfl (h_D (by omega)) rfl ?_
    refine x_astore_n 60 dS_weigh_59 rfl (by decide) rfl ?_
    exact lp_w2 _ cs _ _ hcs hls h5s rfl
  | cons a c ih =>
    intro I q hc hl h5 h5s hT
    subst hT
    obtain ⟨rfl, hc⟩ := hc
    have ha := all_hd hl
    have hl := all_tl hl
    have h5a : vp_in (I 5 a) 65 := h5 a List.mem_cons_self
    have h5 : ∀ o ∈ c, vp_in (I 5 o) 65 := fun o ho => h5 o (List.mem_cons_of_mem _ ho)
    refine x_aload_n 25 dS_weigh_24 rfl rfl ?_
    refine x_ifnull_s 52 28 dS_weigh_25 (by decide) rfl ?_
    refine x_aload_n 29 dS_weigh_28 rfl rfl ?_
    refine x_get _ 32 fS_9 dS_weigh_29 rfl rfl rfl ?_
    refine x_aload_n 33 dS_weigh_32 rfl rfl ?_
    refine x_get _ 36 fS_64 dS_weigh_33 rfl (h_O (by assumption)) rfl ?_
    refine x_dup2 37 dS_weigh_36 rfl rfl rfl ?_
    refine x_iald 38 dS_weigh_37 rfl rfl h5a ?_
    refine x_aload_n 39 dS_weigh_38 rfl rfl ?_
    refine x_get _ 42 fS_69 dS_weigh_39 rfl (h_O (by assumption)) rfl ?_
    refine x_iadd 43 dS_weigh_42 rfl ?_
    refine y_bought 44 dS_weigh_43 rfl h5a ?_
    refine x_aload_n 45 dS_weigh_44 rfl rfl ?_
    refine x_get _ 48 fS_72 dS_weigh_45 rfl (h_O (by assumption)) rfl ?_
    refine x_astore_n 49 dS_weigh_48 rfl (by decide) rfl ?_
    refine x_goto 24 dS_weigh_49 (by decide) ?_
    exact ih _ _ hc hl h5 h5s rfl
theorem cS_weigh {i : Nat} (hi : i < 2) {cb cs : List Nat} (hcb : Ch P (P 1 (2 * i)) cb) (hlb : ∀ o ∈ cb, o < N) (hcs : Ch P (P 1 (2 * i + 1)) cs) (hls : ∀ o ∈ cs, o < N) (h5b : ∀ o ∈ cb, vp_in (I 5 o) 65) (h5s : ∀ o ∈ cs, vp_in (I 5 o) 65) : x_C l G mS_weigh 1 0 0 [xR (some (11, 0)), xR (some (3, i))] (hp N I J P V A B) [] (x_is none (hp N (wgh I cb cs) J P V A B)) := by
  refine x_C.at [some (xR (some (11, 0))), some (xR (some (3, i))), none] rfl (Nat.le_of_ble_eq_true rfl) rfl ?_
  refine x_aload_n 1 dS_weigh_0 rfl rfl ?_
  refine x_get _ 4 fS_9 dS_weigh_1 rfl rfl rfl ?_
  refine x_iconst 0 5 dS_weigh_4 rfl rfl ?_
  refine x_fSn 8 (cY_fill_bought) kS_48 oY_fill dS_weigh_5 rfl rfl (by decide) (Nat.le_of_ble_eq_true rfl) ?_
  refine x_aload_n 9 dS_weigh_8 rfl rfl ?_
  refine x_get _ 12 fS_15 dS_weigh_9 rfl rfl rfl ?_
  refine x_iconst 0 13 dS_weigh_12 rfl rfl ?_
  refine x_fSn 16 (cY_fill_sold) kS_48 oY_fill dS_weigh_13 rfl rfl (by decide) (Nat.le_of_ble_eq_true rfl) ?_
  refine x_aload_n 17 dS_weigh_16 rfl rfl ?_
  refine x_get _ 20 fS_54 dS_weigh_17 rfl (h_B (by assumption)) rfl ?_
  refine x_get _ 23 fS_58 dS_weigh_20 rfl (h_D (by omega)) rfl ?_
  refine x_astore_n 24 dS_weigh_23 rfl (by decide) rfl ?_
  exact x_wd (by decide) (lp_w1 hi _ hcs hls cb _ _ hcb hlb h5b h5s rfl)
end M4
end
section
section M5
variable {l : Launch} {G : xG} {N : Nat} {I : Nat → Nat → Int32} {J : Nat → Nat → Int64} {P : Nat → Nat → Option xQ} {V : Nat → Nat → Int32} {A : Nat → Nat → Int32} {B : Nat → Nat → Int64}
def chs (I : Nat → Nat → Int32) (v g rf : Int32) : Nat → Int32 → Int32 → Int32 → Int32 → Int32 → Int32 → Int32
  | 0, _, le, gr, ne, amb, ams => if amb = 0 then (if ams = 0 then ne else le) else gr
  | n + 1, p, le, gr, ne, amb, ams => if vol I p = v then (if i_abs (sur I p) = g then chs I v g rf n (p + Int32.ofInt 1) (if le = 0 then p else le) p (if ne = 0 then p else if i_abs (ne - rf) ≤ i_abs (p - rf) then ne else p) (if amb = 0 then 0 else if sur I p ≤ 0 then 0 else 1) (if ams = 0 then 0 else if 0 ≤ sur I p then 0 else 1) else chs I v g rf n (p + Int32.ofInt 1) le gr ne amb ams) else chs I v g rf n (p + Int32.ofInt 1) le gr ne amb ams
def fcp (I : Nat → Nat → Int32) (rf : Int32) : Nat → Int32 → Int32 → Int32 → Int32
  | 0, _, mv, lg => if mv = 0 then 0 else chs I mv lg rf 63 1 0 0 0 1 1
  | n + 1, p, mv, lg => if mv < vol I p then fcp I rf n (p + Int32.ofInt 1) (vol I p) (i_abs (sur I p)) else if vol I p = mv then (if lg ≤ i_abs (sur I p) then fcp I rf n (p + Int32.ofInt 1) mv lg else fcp I rf n (p + Int32.ofInt 1) (vol I p) (i_abs (sur I p))) else fcp I rf n (p + Int32.ofInt 1) mv lg
theorem c63 : (63 : Int32).toInt = 63 := by decide
theorem lp_choose (v g rf T : Int32) : ∀ (n : Nat) (p le gr ne amb ams : Int32) (x : Option xV), p.toInt + n = 64 → 1 ≤ p.toInt → chs I v g rf n p le gr ne amb ams = T → x_X l G mS_choose 2 0 0 [] (x_is (some (xI T)) (hp N I J P V A B)) 18 [some (xR (some (11, 0))), some (xI v), some (xI g), some (xI rf), some (xI le), some (xI gr), some (xI ne), some (xI amb), some (xI ams), some (xI p), x] [] (hp N I J P V A B) := by
  intro n
  induction n with
  | zero =>
    intro p le gr ne amb ams x hp1 hp2 hT
    subst hT
    refine x_iload 20 dS_choose_18 rfl rfl ?_
    refine x_bipush (63) 22 dS_choose_20 rfl rfl ?_
    refine x_icmp_gt 139 25 dS_choose_22 (by decide) rfl (fun h22 => ?_) (fun h22 => absurd (show (63 : Int32) < p from by rw [i_lt, c63]; omega) h22)
    refine x_iload 141 dS_choose_139 rfl rfl ?_
    refine x_if_eq 147 144 dS_choose_141 (by decide) rfl (fun h141 => ?_) (fun h141 => ?_)
    · skip
      refine x_iload 149 dS_choose_147 rfl rfl ?_
      refine x_if_eq 157 152 dS_choose_149 (by decide) rfl (fun h149 => ?_) (fun h149 => ?_)
      · skip
        refine x_iload 159 dS_choose_157 rfl rfl ?_
        exact x_iret dS_choose_159 rfl rfl ⟨by simp only [chs, h22, h141, h149, if_true, if_false], rfl⟩
      · skip
        refine x_iload 154 dS_choose_152 rfl rfl ?_
        refine x_goto 159 dS_choose_154 (by decide) ?_
        exact x_iret dS_choose_159 rfl rfl ⟨by simp only [chs, h22, h141, h149, if_true, if_false], rfl⟩
    · skip
      refine x_iload 146 dS_choose_144 rfl rfl ?_
      exact x_iret dS_choose_146 rfl rfl ⟨by simp only [chs, h22, h141, if_true, if_false], rfl⟩
  | succ n ih =>
    intro p le gr ne amb ams x hp1 hp2 hT
    subst hT
    have hin : vp_in p 65 := vp_of (by omega) (by omega)
    have hlt : ¬ (63 : Int32) < p := by rw [i_lt, c63]; omega
    refine x_iload 20 dS_choose_18 rfl rfl ?_
    refine x_bipush (63) 22 dS_choose_20 rfl rfl ?_
    refine x_icmp_gt 139 25 dS_choose_22 (by decide) rfl (fun h22 => absurd h22 hlt) (fun h22 => ?_)
    refine x_aload_n 26 dS_choose_25 rfl rfl ?_
    refine x_iload 28 dS_choose_26 rfl rfl ?_
    refine x_fVv 31 (cS_surplusAt hin) kS_26 oS_surplusAt rfl rfl dS_choose_28 rfl rfl (by decide) (Nat.le_of_ble_eq_true rfl) ?_
    refine x_istore 33 dS_choose_31 rfl (by decide) rfl ?_
    refine x_aload_n 34 dS_choose_33 rfl rfl ?_
    refine x_iload 36 dS_choose_34 rfl rfl ?_
    refine x_fVv 39 (cS_volumeAt hin) kS_22 oS_volumeAt rfl rfl dS_choose_36 rfl rfl (by decide) (Nat.le_of_ble_eq_true rfl) ?_
    refine x_iload_n 40 dS_choose_39 rfl rfl ?_
    refine x_icmp_ne 133 43 dS_choose_40 (by decide) rfl (fun h40 => ?_) (fun h40 => ?_)
    · skip
      refine x_iinc 136 dS_choose_133 rfl rfl (by decide) rfl ?_
      refine x_goto 18 dS_choose_136 (by decide) ?_
      exact ih _ _ _ _ _ _ _ (by rw [i_inc (by omega) (by omega)]; omega) (by rw [i_inc (by omega) (by omega)]; omega) (by simp only [chs, if_neg h40])
    · skip
      refine x_iload 45 dS_choose_43 rfl rfl ?_
      refine x_mabs 48 kS_29 dS_choose_45 rfl (by decide) (Nat.le_of_ble_eq_true rfl) ?_
      refine x_iload_n 49 dS_choose_48 rfl rfl ?_
      refine x_icmp_eq 55 52 dS_choose_49 (by decide) rfl (fun h49 => ?_) (fun h49 => ?_)
      · skip
        refine x_iload 57 dS_choose_55 rfl rfl ?_
        refine x_if_ne 65 60 dS_choose_57 (by decide) rfl (fun h57 => ?_) (fun h57 => ?_)
        · skip
          refine x_iload 67 dS_choose_65 rfl rfl ?_
          refine x_istore 69 dS_choose_67 rfl (by decide) rfl ?_
          refine x_iload 71 dS_choose_69 rfl rfl ?_
          refine x_istore 73 dS_choose_71 rfl (by decide) rfl ?_
          refine x_iload 75 dS_choose_73 rfl rfl ?_
          refine x_if_eq 95 78 dS_choose_75 (by decide) rfl (fun h75 => ?_) (fun h75 => ?_)
          · skip
            refine x_iload 97 dS_choose_95 rfl rfl ?_
            refine x_istore 99 dS_choose_97 rfl (by decide) rfl ?_
            refine x_iload 101 dS_choose_99 rfl rfl ?_
            refine x_if_eq 113 104 dS_choose_101 (by decide) rfl (fun h101 => ?_) (fun h101 => ?_)
            · skip
              refine x_iconst 0 114 dS_choose_113 rfl rfl ?_
              refine x_istore 116 dS_choose_114 rfl (by decide) rfl ?_
              refine x_iload 118 dS_choose_116 rfl rfl ?_
              refine x_if_eq 130 121 dS_choose_118 (by decide) rfl (fun h118 => ?_) (fun h118 => ?_)
              · skip
                refine x_iconst 0 131 dS_choose_130 rfl rfl ?_
                refine x_istore 133 dS_choose_131 rfl (by decide) rfl ?_
                refine x_iinc 136 dS_choose_133 rfl rfl (by decide) rfl ?_
                refine x_goto 18 dS_choose_136 (by decide) ?_
                exact ih _ _ _ _ _ _ _ (by rw [i_inc (by omega) (by omega)]; omega) (by rw [i_inc (by omega) (by omega)]; omega) (by simp only [chs, if_pos h40, if_pos h49, if_neg h57, if_pos h75, if_pos h101, if_pos h118])
              · skip
                refine x_iload 123 dS_choose_121 rfl rfl ?_
                refine x_if_ge 130 126 dS_choose_123 (by decide) rfl (fun h123 => ?_) (fun h123 => ?_)
                · skip
                  refine x_iconst 0 131 dS_choose_130 rfl rfl ?_
                  refine x_istore 133 dS_choose_131 rfl (by decide) rfl ?_
                  refine x_iinc 136 dS_choose_133 rfl rfl (by decide) rfl ?_
                  refine x_goto 18 dS_choose_136 (by decide) ?_
                  exact ih _ _ _ _ _ _ _ (by rw [i_inc (by omega) (by omega)]; omega) (by rw [i_inc (by omega) (by omega)]; omega) (by simp only [chs, if_pos h40, if_pos h49, if_neg h57, if_pos h75, if_pos h101, if_neg h118, if_pos h123])
                · skip
                  refine x_iconst 1 127 dS_choose_126 rfl rfl ?_
                  refine x_goto 131 dS_choose_127 (by decide) ?_
                  refine x_istore 133 dS_choose_131 rfl (by decide) rfl ?_
                  refine x_iinc 136 dS_choose_133 rfl rfl (by decide) rfl ?_
                  refine x_goto 18 dS_choose_136 (by decide) ?_
                  exact ih _ _ _ _ _ _ _ (by rw [i_inc (by omega) (by omega)]; omega) (by rw [i_inc (by omega) (by omega)]; omega) (by simp only [chs, if_pos h40, if_pos h49, if_neg h57, if_pos h75, if_pos h101, if_neg h118, if_neg h123])
            · skip
              refine x_iload 106 dS_choose_104 rfl rfl ?_
              refine x_if_le 113 109 dS_choose_106 (by decide) rfl (fun h106 => ?_) (fun h106 => ?_)
              · skip
                refine x_iconst 0 114 dS_choose_113 rfl rfl ?_
                refine x_istore 116 dS_choose_114 rfl (by decide) rfl ?_
                refine x_iload 118 dS_choose_116 rfl rfl ?_
                refine x_if_eq 130 121 dS_choose_118 (by decide) rfl (fun h118 => ?_) (fun h118 => ?_)
                · skip
                  refine x_iconst 0 131 dS_choose_130 rfl rfl ?_
                  refine x_istore 133 dS_choose_131 rfl (by decide) rfl ?_
                  refine x_iinc 136 dS_choose_133 rfl rfl (by decide) rfl ?_
                  refine x_goto 18 dS_choose_136 (by decide) ?_
                  exact ih _ _ _ _ _ _ _ (by rw [i_inc (by omega) (by omega)]; omega) (by rw [i_inc (by omega) (by omega)]; omega) (by simp only [chs, if_pos h40, if_pos h49, if_neg h57, if_pos h75, if_neg h101, if_pos h106, if_pos h118])
                · skip
                  refine x_iload 123 dS_choose_121 rfl rfl ?_
                  refine x_if_ge 130 126 dS_choose_123 (by decide) rfl (fun h123 => ?_) (fun h123 => ?_)
                  · skip
                    refine x_iconst 0 131 dS_choose_130 rfl rfl ?_
                    refine x_istore 133 dS_choose_131 rfl (by decide) rfl ?_
                    refine x_iinc 136 dS_choose_133 rfl rfl (by decide) rfl ?_
                    refine x_goto 18 dS_choose_136 (by decide) ?_
                    exact ih _ _ _ _ _ _ _ (by rw [i_inc (by omega) (by omega)]; omega) (by rw [i_inc (by omega) (by omega)]; omega) (by simp only [chs, if_pos h40, if_pos h49, if_neg h57, if_pos h75, if_neg h101, if_pos h106, if_neg h118, if_pos h123])
                  · skip
                    refine x_iconst 1 127 dS_choose_126 rfl rfl ?_
                    refine x_goto 131 dS_choose_127 (by decide) ?_
                    refine x_istore 133 dS_choose_131 rfl (by decide) rfl ?_
                    refine x_iinc 136 dS_choose_133 rfl rfl (by decide) rfl ?_
                    refine x_goto 18 dS_choose_136 (by decide) ?_
                    exact ih _ _ _ _ _ _ _ (by rw [i_inc (by omega) (by omega)]; omega) (by rw [i_inc (by omega) (by omega)]; omega) (by simp only [chs, if_pos h40, if_pos h49, if_neg h57, if_pos h75, if_neg h101, if_pos h106, if_neg h118, if_neg h123])
              · skip
                refine x_iconst 1 110 dS_choose_109 rfl rfl ?_
                refine x_goto 114 dS_choose_110 (by decide) ?_
                refine x_istore 116 dS_choose_114 rfl (by decide) rfl ?_
                refine x_iload 118 dS_choose_116 rfl rfl ?_
                refine x_if_eq 130 121 dS_choose_118 (by decide) rfl (fun h118 => ?_) (fun h118 => ?_)
                · skip
                  refine x_iconst 0 131 dS_choose_130 rfl rfl ?_
                  refine x_istore 133 dS_choose_131 rfl (by decide) rfl ?_
                  refine x_iinc 136 dS_choose_133 rfl rfl (by decide) rfl ?_
                  refine x_goto 18 dS_choose_136 (by decide) ?_
                  exact ih _ _ _ _ _ _ _ (by rw [i_inc (by omega) (by omega)]; omega) (by rw [i_inc (by omega) (by omega)]; omega) (by simp only [chs, if_pos h40, if_pos h49, if_neg h57, if_pos h75, if_neg h101, if_neg h106, if_pos h118])
                · skip
                  refine x_iload 123 dS_choose_121 rfl rfl ?_
                  refine x_if_ge 130 126 dS_choose_123 (by decide) rfl (fun h123 => ?_) (fun h123 => ?_)
                  · skip
                    refine x_iconst 0 131 dS_choose_130 rfl rfl ?_
                    refine x_istore 133 dS_choose_131 rfl (by decide) rfl ?_
                    refine x_iinc 136 dS_choose_133 rfl rfl (by decide) rfl ?_
                    refine x_goto 18 dS_choose_136 (by decide) ?_
                    exact ih _ _ _ _ _ _ _ (by rw [i_inc (by omega) (by omega)]; omega) (by rw [i_inc (by omega) (by omega)]; omega) (by simp only [chs, if_pos h40, if_pos h49, if_neg h57, if_pos h75, if_neg h101, if_neg h106, if_neg h118, if_pos h123])
                  · skip
                    refine x_iconst 1 127 dS_choose_126 rfl rfl ?_
                    refine x_goto 131 dS_choose_127 (by decide) ?_
                    refine x_istore 133 dS_choose_131 rfl (by decide) rfl ?_
                    refine x_iinc 136 dS_choose_133 rfl rfl (by decide) rfl ?_
                    refine x_goto 18 dS_choose_136 (by decide) ?_
                    exact ih _ _ _ _ _ _ _ (by rw [i_inc (by omega) (by omega)]; omega) (by rw [i_inc (by omega) (by omega)]; omega) (by simp only [chs, if_pos h40, if_pos h49, if_neg h57, if_pos h75, if_neg h101, if_neg h106, if_neg h118, if_neg h123])
          · skip
            refine x_iload 80 dS_choose_78 rfl rfl ?_
            refine x_iload_n 81 dS_choose_80 rfl rfl ?_
            refine x_isub 82 dS_choose_81 rfl ?_
            refine x_mabs 85 kS_29 dS_choose_82 rfl (by decide) (Nat.le_of_ble_eq_true rfl) ?_
            refine x_iload 87 dS_choose_85 rfl rfl ?_
            refine x_iload_n 88 dS_choose_87 rfl rfl ?_
            refine x_isub 89 dS_choose_88 rfl ?_
            refine x_mabs 92 kS_29 dS_choose_89 rfl (by decide) (Nat.le_of_ble_eq_true rfl) ?_
            refine x_icmp_ge 99 95 dS_choose_92 (by decide) rfl (fun h92 => ?_) (fun h92 => ?_)
            · skip
              refine x_iload 101 dS_choose_99 rfl rfl ?_
              refine x_if_eq 113 104 dS_choose_101 (by decide) rfl (fun h101 => ?_) (fun h101 => ?_)
              · skip
                refine x_iconst 0 114 dS_choose_113 rfl rfl ?_
                refine x_istore 116 dS_choose_114 rfl (by decide) rfl ?_
                refine x_iload 118 dS_choose_116 rfl rfl ?_
                refine x_if_eq 130 121 dS_choose_118 (by decide) rfl (fun h118 => ?_) (fun h118 => ?_)
                · skip
                  refine x_iconst 0 131 dS_choose_130 rfl rfl ?_
                  refine x_istore 133 dS_choose_131 rfl (by decide) rfl ?_
                  refine x_iinc 136 dS_choose_133 rfl rfl (by decide) rfl ?_
                  refine x_goto 18 dS_choose_136 (by decide) ?_
                  exact ih _ _ _ _ _ _ _ (by rw [i_inc (by omega) (by omega)]; omega) (by rw [i_inc (by omega) (by omega)]; omega) (by simp only [chs, if_pos h40, if_pos h49, if_neg h57, if_neg h75, if_pos h92, if_pos h101, if_pos h118])
                · skip
                  refine x_iload 123 dS_choose_121 rfl rfl ?_
                  refine x_if_ge 130 126 dS_choose_123 (by decide) rfl (fun h123 => ?_) (fun h123 => ?_)
                  · skip
                    refine x_iconst 0 131 dS_choose_130 rfl rfl ?_
                    refine x_istore 133 dS_choose_131 rfl (by decide) rfl ?_
                    refine x_iinc 136 dS_choose_133 rfl rfl (by decide) rfl ?_
                    refine x_goto 18 dS_choose_136 (by decide) ?_
                    exact ih _ _ _ _ _ _ _ (by rw [i_inc (by omega) (by omega)]; omega) (by rw [i_inc (by omega) (by omega)]; omega) (by simp only [chs, if_pos h40, if_pos h49, if_neg h57, if_neg h75, if_pos h92, if_pos h101, if_neg h118, if_pos h123])
                  · skip
                    refine x_iconst 1 127 dS_choose_126 rfl rfl ?_
                    refine x_goto 131 dS_choose_127 (by decide) ?_
                    refine x_istore 133 dS_choose_131 rfl (by decide) rfl ?_
                    refine x_iinc 136 dS_choose_133 rfl rfl (by decide) rfl ?_
                    refine x_goto 18 dS_choose_136 (by decide) ?_
                    exact ih _ _ _ _ _ _ _ (by rw [i_inc (by omega) (by omega)]; omega) (by rw [i_inc (by omega) (by omega)]; omega) (by simp only [chs, if_pos h40, if_pos h49, if_neg h57, if_neg h75, if_pos h92, if_pos h101, if_neg h118, if_neg h123])
              · skip
                refine x_iload 106 dS_choose_104 rfl rfl ?_
                refine x_if_le 113 109 dS_choose_106 (by decide) rfl (fun h106 => ?_) (fun h106 => ?_)
                · skip
                  refine x_iconst 0 114 dS_choose_113 rfl rfl ?_
                  refine x_istore 116 dS_choose_114 rfl (by decide) rfl ?_
                  refine x_iload 118 dS_choose_116 rfl rfl ?_
                  refine x_if_eq 130 121 dS_choose_118 (by decide) rfl (fun h118 => ?_) (fun h118 => ?_)
                  · skip
                    refine x_iconst 0 131 dS_choose_130 rfl rfl ?_
                    refine x_istore 133 dS_choose_131 rfl (by decide) rfl ?_
                    refine x_iinc 136 dS_choose_133 rfl rfl (by decide) rfl ?_
                    refine x_goto 18 dS_choose_136 (by decide) ?_
                    exact ih _ _ _ _ _ _ _ (by rw [i_inc (by omega) (by omega)]; omega) (by rw [i_inc (by omega) (by omega)]; omega) (by simp only [chs, if_pos h40, if_pos h49, if_neg h57, if_neg h75, if_pos h92, if_neg h101, if_pos h106, if_pos h118])
                  · skip
                    refine x_iload 123 dS_choose_121 rfl rfl ?_
                    refine x_if_ge 130 126 dS_choose_123 (by decide) rfl (fun h123 => ?_) (fun h123 => ?_)
                    · skip
                      refine x_iconst 0 131 dS_choose_130 rfl rfl ?_
                      refine x_istore 133 dS_choose_131 rfl (by decide) rfl ?_
                      refine x_iinc 136 dS_choose_133 rfl rfl (by decide) rfl ?_
                      refine x_goto 18 dS_choose_136 (by decide) ?_
                      exact ih _ _ _ _ _ _ _ (by rw [i_inc (by omega) (by omega)]; omega) (by rw [i_inc (by omega) (by omega)]; omega) (by simp only [chs, if_pos h40, if_pos h49, if_neg h57, if_neg h75, if_pos h92, if_neg h101, if_pos h106, if_neg h118, if_pos h123])
                    · skip
                      refine x_iconst 1 127 dS_choose_126 rfl rfl ?_
                      refine x_goto 131 dS_choose_127 (by decide) ?_
                      refine x_istore 133 dS_choose_131 rfl (by decide) rfl ?_
                      refine x_iinc 136 dS_choose_133 rfl rfl (by decide) rfl ?_
                      refine x_goto 18 dS_choose_136 (by decide) ?_
                      exact ih _ _ _ _ _ _ _ (by rw [i_inc (by omega) (by omega)]; omega) (by rw [i_inc (by omega) (by omega)]; omega) (by simp only [chs, if_pos h40, if_pos h49, if_neg h57, if_neg h75, if_pos h92, if_neg h101, if_pos h106, if_neg h118, if_neg h123])
                · skip
                  refine x_iconst 1 110 dS_choose_109 rfl rfl ?_
                  refine x_goto 114 dS_choose_110 (by decide) ?_
                  refine x_istore 116 dS_choose_114 rfl (by decide) rfl ?_
                  refine x_iload 118 dS_choose_116 rfl rfl ?_
                  refine x_if_eq 130 121 dS_choose_118 (by decide) rfl (fun h118 => ?_) (fun h118 => ?_)
                  · skip
                    refine x_iconst 0 131 dS_choose_130 rfl rfl ?_
                    refine x_istore 133 dS_choose_131 rfl (by decide) rfl ?_
                    refine x_iinc 136 dS_choose_133 rfl rfl (by decide) rfl ?_
                    refine x_goto 18 dS_choose_136 (by decide) ?_
                    exact ih _ _ _ _ _ _ _ (by rw [i_inc (by omega) (by omega)]; omega) (by rw [i_inc (by omega) (by omega)]; omega) (by simp only [chs, if_pos h40, if_pos h49, if_neg h57, if_neg h75, if_pos h92, if_neg h101, if_neg h106, if_pos h118])
                  · skip
                    refine x_iload 123 dS_choose_121 rfl rfl ?_
                    refine x_if_ge 130 126 dS_choose_123 (by decide) rfl (fun h123 => ?_) (fun h123 => ?_)
                    · skip
                      refine x_iconst 0 131 dS_choose_130 rfl rfl ?_
                      refine x_istore 133 dS_choose_131 rfl (by decide) rfl ?_
                      refine x_iinc 136 dS_choose_133 rfl rfl (by decide) rfl ?_
                      refine x_goto 18 dS_choose_136 (by decide) ?_
                      exact ih _ _ _ _ _ _ _ (by rw [i_inc (by omega) (by omega)]; omega) (by rw [i_inc (by omega) (by omega)]; omega) (by simp only [chs, if_pos h40, if_pos h49, if_neg h57, if_neg h75, if_pos h92, if_neg h101, if_neg h106, if_neg h118, if_pos h123])
                    · skip
                      refine x_iconst 1 127 dS_choose_126 rfl rfl ?_
                      refine x_goto 131 dS_choose_127 (by decide) ?_
                      refine x_istore 133 dS_choose_131 rfl (by decide) rfl ?_
                      refine x_iinc 136 dS_choose_133 rfl rfl (by decide) rfl ?_
                      refine x_goto 18 dS_choose_136 (by decide) ?_
                      exact ih _ _ _ _ _ _ _ (by rw [i_inc (by omega) (by omega)]; omega) (by rw [i_inc (by omega) (by omega)]; omega) (by simp only [chs, if_pos h40, if_pos h49, if_neg h57, if_neg h75, if_pos h92, if_neg h101, if_neg h106, if_neg h118, if_neg h123])
            · skip
              refine x_iload 97 dS_choose_95 rfl rfl ?_
              refine x_istore 99 dS_choose_97 rfl (by decide) rfl ?_
              refine x_iload 101 dS_choose_99 rfl rfl ?_
              refine x_if_eq 113 104 dS_choose_101 (by decide) rfl (fun h101 => ?_) (fun h101 => ?_)
              · skip
                refine x_iconst 0 114 dS_choose_113 rfl rfl ?_
                refine x_istore 116 dS_choose_114 rfl (by decide) rfl ?_
                refine x_iload 118 dS_choose_116 rfl rfl ?_
                refine x_if_eq 130 121 dS_choose_118 (by decide) rfl (fun h118 => ?_) (fun h118 => ?_)
                · skip
                  refine x_iconst 0 131 dS_choose_130 rfl rfl ?_
                  refine x_istore 133 dS_choose_131 rfl (by decide) rfl ?_
                  refine x_iinc 136 dS_choose_133 rfl rfl (by decide) rfl ?_
                  refine x_goto 18 dS_choose_136 (by decide) ?_
                  exact ih _ _ _ _ _ _ _ (by rw [i_inc (by omega) (by omega)]; omega) (by rw [i_inc (by omega) (by omega)]; omega) (by simp only [chs, if_pos h40, if_pos h49, if_neg h57, if_neg h75, if_neg h92, if_pos h101, if_pos h118])
                · skip
                  refine x_iload 123 dS_choose_121 rfl rfl ?_
                  refine x_if_ge 130 126 dS_choose_123 (by decide) rfl (fun h123 => ?_) (fun h123 => ?_)
                  · skip
                    refine x_iconst 0 131 dS_choose_130 rfl rfl ?_
                    refine x_istore 133 dS_choose_131 rfl (by decide) rfl ?_
                    refine x_iinc 136 dS_choose_133 rfl rfl (by decide) rfl ?_
                    refine x_goto 18 dS_choose_136 (by decide) ?_
                    exact ih _ _ _ _ _ _ _ (by rw [i_inc (by omega) (by omega)]; omega) (by rw [i_inc (by omega) (by omega)]; omega) (by simp only [chs, if_pos h40, if_pos h49, if_neg h57, if_neg h75, if_neg h92, if_pos h101, if_neg h118, if_pos h123])
                  · skip
                    refine x_iconst 1 127 dS_choose_126 rfl rfl ?_
                    refine x_goto 131 dS_choose_127 (by decide) ?_
                    refine x_istore 133 dS_choose_131 rfl (by decide) rfl ?_
                    refine x_iinc 136 dS_choose_133 rfl rfl (by decide) rfl ?_
                    refine x_goto 18 dS_choose_136 (by decide) ?_
                    exact ih _ _ _ _ _ _ _ (by rw [i_inc (by omega) (by omega)]; omega) (by rw [i_inc (by omega) (by omega)]; omega) (by simp only [chs, if_pos h40, if_pos h49, if_neg h57, if_neg h75, if_neg h92, if_pos h101, if_neg h118, if_neg h123])
              · skip
                refine x_iload 106 dS_choose_104 rfl rfl ?_
                refine x_if_le 113 109 dS_choose_106 (by decide) rfl (fun h106 => ?_) (fun h106 => ?_)
                · skip
                  refine x_iconst 0 114 dS_choose_113 rfl rfl ?_
                  refine x_istore 116 dS_choose_114 rfl (by decide) rfl ?_
                  refine x_iload 118 dS_choose_116 rfl rfl ?_
                  refine x_if_eq 130 121 dS_choose_118 (by decide) rfl (fun h118 => ?_) (fun h118 => ?_)
                  · skip
                    refine x_iconst 0 131 dS_choose_130 rfl rfl ?_
                    refine x_istore 133 dS_choose_131 rfl (by decide) rfl ?_
                    refine x_iinc 136 dS_choose_133 rfl rfl (by decide) rfl ?_
                    refine x_goto 18 dS_choose_136 (by decide) ?_
                    exact ih _ _ _ _ _ _ _ (by rw [i_inc (by omega) (by omega)]; omega) (by rw [i_inc (by omega) (by omega)]; omega) (by simp only [chs, if_pos h40, if_pos h49, if_neg h57, if_neg h75, if_neg h92, if_neg h101, if_pos h106, if_pos h118])
                  · skip
                    refine x_iload 123 dS_choose_121 rfl rfl ?_
                    refine x_if_ge 130 126 dS_choose_123 (by decide) rfl (fun h123 => ?_) (fun h123 => ?_)
                    · skip
                      refine x_iconst 0 131 dS_choose_130 rfl rfl ?_
                      refine x_istore 133 dS_choose_131 rfl (by decide) rfl ?_
                      refine x_iinc 136 dS_choose_133 rfl rfl (by decide) rfl ?_
                      refine x_goto 18 dS_choose_136 (by decide) ?_
                      exact ih _ _ _ _ _ _ _ (by rw [i_inc (by omega) (by omega)]; omega) (by rw [i_inc (by omega) (by omega)]; omega) (by simp only [chs, if_pos h40, if_pos h49, if_neg h57, if_neg h75, if_neg h92, if_neg h101, if_pos h106, if_neg h118, if_pos h123])
                    · skip
                      refine x_iconst 1 127 dS_choose_126 rfl rfl ?_
                      refine x_goto 131 dS_choose_127 (by decide) ?_
                      refine x_istore 133 dS_choose_131 rfl (by decide) rfl ?_
                      refine x_iinc 136 dS_choose_133 rfl rfl (by decide) rfl ?_
                      refine x_goto 18 dS_choose_136 (by decide) ?_
                      exact ih _ _ _ _ _ _ _ (by rw [i_inc (by omega) (by omega)]; omega) (by rw [i_inc (by omega) (by omega)]; omega) (by simp only [chs, if_pos h40, if_pos h49, if_neg h57, if_neg h75, if_neg h92, if_neg h101, if_pos h106, if_neg h118, if_neg h123])
                · skip
                  refine x_iconst 1 110 dS_choose_109 rfl rfl ?_
                  refine x_goto 114 dS_choose_110 (by decide) ?_
                  refine x_istore 116 dS_choose_114 rfl (by decide) rfl ?_
                  refine x_iload 118 dS_choose_116 rfl rfl ?_
                  refine x_if_eq 130 121 dS_choose_118 (by decide) rfl (fun h118 => ?_) (fun h118 => ?_)
                  · skip
                    refine x_iconst 0 131 dS_choose_130 rfl rfl ?_
                    refine x_istore 133 dS_choose_131 rfl (by decide) rfl ?_
                    refine x_iinc 136 dS_choose_133 rfl rfl (by decide) rfl ?_
                    refine x_goto 18 dS_choose_136 (by decide) ?_
                    exact ih _ _ _ _ _ _ _ (by rw [i_inc (by omega) (by omega)]; omega) (by rw [i_inc (by omega) (by omega)]; omega) (by simp only [chs, if_pos h40, if_pos h49, if_neg h57, if_neg h75, if_neg h92, if_neg h101, if_neg h106, if_pos h118])
                  · skip
                    refine x_iload 123 dS_choose_121 rfl rfl ?_
                    refine x_if_ge 130 126 dS_choose_123 (by decide) rfl (fun h123 => ?_) (fun h123 => ?_)
                    · skip
                      refine x_iconst 0 131 dS_choose_130 rfl rfl ?_
                      refine x_istore 133 dS_choose_131 rfl (by decide) rfl ?_
                      refine x_iinc 136 dS_choose_133 rfl rfl (by decide) rfl ?_
                      refine x_goto 18 dS_choose_136 (by decide) ?_
                      exact ih _ _ _ _ _ _ _ (by rw [i_inc (by omega) (by omega)]; omega) (by rw [i_inc (by omega) (by omega)]; omega) (by simp only [chs, if_pos h40, if_pos h49, if_neg h57, if_neg h75, if_neg h92, if_neg h101, if_neg h106, if_neg h118, if_pos h123])
                    · skip
                      refine x_iconst 1 127 dS_choose_126 rfl rfl ?_
                      refine x_goto 131 dS_choose_127 (by decide) ?_
                      refine x_istore 133 dS_choose_131 rfl (by decide) rfl ?_
                      refine x_iinc 136 dS_choose_133 rfl rfl (by decide) rfl ?_
                      refine x_goto 18 dS_choose_136 (by decide) ?_
                      exact ih _ _ _ _ _ _ _ (by rw [i_inc (by omega) (by omega)]; omega) (by rw [i_inc (by omega) (by omega)]; omega) (by simp only [chs, if_pos h40, if_pos h49, if_neg h57, if_neg h75, if_neg h92, if_neg h101, if_neg h106, if_neg h118, if_neg h123])
        · skip
          refine x_iload 62 dS_choose_60 rfl rfl ?_
          refine x_goto 67 dS_choose_62 (by decide) ?_
          refine x_istore 69 dS_choose_67 rfl (by decide) rfl ?_
          refine x_iload 71 dS_choose_69 rfl rfl ?_
          refine x_istore 73 dS_choose_71 rfl (by decide) rfl ?_
          refine x_iload 75 dS_choose_73 rfl rfl ?_
          refine x_if_eq 95 78 dS_choose_75 (by decide) rfl (fun h75 => ?_) (fun h75 => ?_)
          · skip
            refine x_iload 97 dS_choose_95 rfl rfl ?_
            refine x_istore 99 dS_choose_97 rfl (by decide) rfl ?_
            refine x_iload 101 dS_choose_99 rfl rfl ?_
            refine x_if_eq 113 104 dS_choose_101 (by decide) rfl (fun h101 => ?_) (fun h101 => ?_)
            · skip
              refine x_iconst 0 114 dS_choose_113 rfl rfl ?_
              refine x_istore 116 dS_choose_114 rfl (by decide) rfl ?_
              refine x_iload 118 dS_choose_116 rfl rfl ?_
              refine x_if_eq 130 121 dS_choose_118 (by decide) rfl (fun h118 => ?_) (fun h118 => ?_)
              · skip
                refine x_iconst 0 131 dS_choose_130 rfl rfl ?_
                refine x_istore 133 dS_choose_131 rfl (by decide) rfl ?_
                refine x_iinc 136 dS_choose_133 rfl rfl (by decide) rfl ?_
                refine x_goto 18 dS_choose_136 (by decide) ?_
                exact ih _ _ _ _ _ _ _ (by rw [i_inc (by omega) (by omega)]; omega) (by rw [i_inc (by omega) (by omega)]; omega) (by simp only [chs, if_pos h40, if_pos h49, if_pos h57, if_pos h75, if_pos h101, if_pos h118])
              · skip
                refine x_iload 123 dS_choose_121 rfl rfl ?_
                refine x_if_ge 130 126 dS_choose_123 (by decide) rfl (fun h123 => ?_) (fun h123 => ?_)
                · skip
                  refine x_iconst 0 131 dS_choose_130 rfl rfl ?_
                  refine x_istore 133 dS_choose_131 rfl (by decide) rfl ?_
                  refine x_iinc 136 dS_choose_133 rfl rfl (by decide) rfl ?_
                  refine x_goto 18 dS_choose_136 (by decide) ?_
                  exact ih _ _ _ _ _ _ _ (by rw [i_inc (by omega) (by omega)]; omega) (by rw [i_inc (by omega) (by omega)]; omega) (by simp only [chs, if_pos h40, if_pos h49, if_pos h57, if_pos h75, if_pos h101, if_neg h118, if_pos h123])
                · skip
                  refine x_iconst 1 127 dS_choose_126 rfl rfl ?_
                  refine x_goto 131 dS_choose_127 (by decide) ?_
                  refine x_istore 133 dS_choose_131 rfl (by decide) rfl ?_
                  refine x_iinc 136 dS_choose_133 rfl rfl (by decide) rfl ?_
                  refine x_goto 18 dS_choose_136 (by decide) ?_
                  exact ih _ _ _ _ _ _ _ (by rw [i_inc (by omega) (by omega)]; omega) (by rw [i_inc (by omega) (by omega)]; omega) (by simp only [chs, if_pos h40, if_pos h49, if_pos h57, if_pos h75, if_pos h101, if_neg h118, if_neg h123])
            · skip
              refine x_iload 106 dS_choose_104 rfl rfl ?_
              refine x_if_le 113 109 dS_choose_106 (by decide) rfl (fun h106 => ?_) (fun h106 => ?_)
              · skip
                refine x_iconst 0 114 dS_choose_113 rfl rfl ?_
                refine x_istore 116 dS_choose_114 rfl (by decide) rfl ?_
                refine x_iload 118 dS_choose_116 rfl rfl ?_
                refine x_if_eq 130 121 dS_choose_118 (by decide) rfl (fun h118 => ?_) (fun h118 => ?_)
                · skip
                  refine x_iconst 0 131 dS_choose_130 rfl rfl ?_
                  refine x_istore 133 dS_choose_131 rfl (by decide) rfl ?_
                  refine x_iinc 136 dS_choose_133 rfl rfl (by decide) rfl ?_
                  refine x_goto 18 dS_choose_136 (by decide) ?_
                  exact ih _ _ _ _ _ _ _ (by rw [i_inc (by omega) (by omega)]; omega) (by rw [i_inc (by omega) (by omega)]; omega) (by simp only [chs, if_pos h40, if_pos h49, if_pos h57, if_pos h75, if_neg h101, if_pos h106, if_pos h118])
                · skip
                  refine x_iload 123 dS_choose_121 rfl rfl ?_
                  refine x_if_ge 130 126 dS_choose_123 (by decide) rfl (fun h123 => ?_) (fun h123 => ?_)
                  · skip
                    refine x_iconst 0 131 dS_choose_130 rfl rfl ?_
                    refine x_istore 133 dS_choose_131 rfl (by decide) rfl ?_
                    refine x_iinc 136 dS_choose_133 rfl rfl (by decide) rfl ?_
                    refine x_goto 18 dS_choose_136 (by decide) ?_
                    exact ih _ _ _ _ _ _ _ (by rw [i_inc (by omega) (by omega)]; omega) (by rw [i_inc (by omega) (by omega)]; omega) (by simp only [chs, if_pos h40, if_pos h49, if_pos h57, if_pos h75, if_neg h101, if_pos h106, if_neg h118, if_pos h123])
                  · skip
                    refine x_iconst 1 127 dS_choose_126 rfl rfl ?_
                    refine x_goto 131 dS_choose_127 (by decide) ?_
                    refine x_istore 133 dS_choose_131 rfl (by decide) rfl ?_
                    refine x_iinc 136 dS_choose_133 rfl rfl (by decide) rfl ?_
                    refine x_goto 18 dS_choose_136 (by decide) ?_
                    exact ih _ _ _ _ _ _ _ (by rw [i_inc (by omega) (by omega)]; omega) (by rw [i_inc (by omega) (by omega)]; omega) (by simp only [chs, if_pos h40, if_pos h49, if_pos h57, if_pos h75, if_neg h101, if_pos h106, if_neg h118, if_neg h123])
              · skip
                refine x_iconst 1 110 dS_choose_109 rfl rfl ?_
                refine x_goto 114 dS_choose_110 (by decide) ?_
                refine x_istore 116 dS_choose_114 rfl (by decide) rfl ?_
                refine x_iload 118 dS_choose_116 rfl rfl ?_
                refine x_if_eq 130 121 dS_choose_118 (by decide) rfl (fun h118 => ?_) (fun h118 => ?_)
                · skip
                  refine x_iconst 0 131 dS_choose_130 rfl rfl ?_
                  refine x_istore 133 dS_choose_131 rfl (by decide) rfl ?_
                  refine x_iinc 136 dS_choose_133 rfl rfl (by decide) rfl ?_
                  refine x_goto 18 dS_choose_136 (by decide) ?_
                  exact ih _ _ _ _ _ _ _ (by rw [i_inc (by omega) (by omega)]; omega) (by rw [i_inc (by omega) (by omega)]; omega) (by simp only [chs, if_pos h40, if_pos h49, if_pos h57, if_pos h75, if_neg h101, if_neg h106, if_pos h118])
                · skip
                  refine x_iload 123 dS_choose_121 rfl rfl ?_
                  refine x_if_ge 130 126 dS_choose_123 (by decide) rfl (fun h123 => ?_) (fun h123 => ?_)
                  · skip
                    refine x_iconst 0 131 dS_choose_130 rfl rfl ?_
                    refine x_istore 133 dS_choose_131 rfl (by decide) rfl ?_
                    refine x_iinc 136 dS_choose_133 rfl rfl (by decide) rfl ?_
                    refine x_goto 18 dS_choose_136 (by decide) ?_
                    exact ih _ _ _ _ _ _ _ (by rw [i_inc (by omega) (by omega)]; omega) (by rw [i_inc (by omega) (by omega)]; omega) (by simp only [chs, if_pos h40, if_pos h49, if_pos h57, if_pos h75, if_neg h101, if_neg h106, if_neg h118, if_pos h123])
                  · skip
                    refine x_iconst 1 127 dS_choose_126 rfl rfl ?_
                    refine x_goto 131 dS_choose_127 (by decide) ?_
                    refine x_istore 133 dS_choose_131 rfl (by decide) rfl ?_
                    refine x_iinc 136 dS_choose_133 rfl rfl (by decide) rfl ?_
                    refine x_goto 18 dS_choose_136 (by decide) ?_
                    exact ih _ _ _ _ _ _ _ (by rw [i_inc (by omega) (by omega)]; omega) (by rw [i_inc (by omega) (by omega)]; omega) (by simp only [chs, if_pos h40, if_pos h49, if_pos h57, if_pos h75, if_neg h101, if_neg h106, if_neg h118, if_neg h123])
          · skip
            refine x_iload 80 dS_choose_78 rfl rfl ?_
            refine x_iload_n 81 dS_choose_80 rfl rfl ?_
            refine x_isub 82 dS_choose_81 rfl ?_
            refine x_mabs 85 kS_29 dS_choose_82 rfl (by decide) (Nat.le_of_ble_eq_true rfl) ?_
            refine x_iload 87 dS_choose_85 rfl rfl ?_
            refine x_iload_n 88 dS_choose_87 rfl rfl ?_
            refine x_isub 89 dS_choose_88 rfl ?_
            refine x_mabs 92 kS_29 dS_choose_89 rfl (by decide) (Nat.le_of_ble_eq_true rfl) ?_
            refine x_icmp_ge 99 95 dS_choose_92 (by decide) rfl (fun h92 => ?_) (fun h92 => ?_)
            · skip
              refine x_iload 101 dS_choose_99 rfl rfl ?_
              refine x_if_eq 113 104 dS_choose_101 (by decide) rfl (fun h101 => ?_) (fun h101 => ?_)
              · skip
                refine x_iconst 0 114 dS_choose_113 rfl rfl ?_
                refine x_istore 116 dS_choose_114 rfl (by decide) rfl ?_
                refine x_iload 118 dS_choose_116 rfl rfl ?_
                refine x_if_eq 130 121 dS_choose_118 (by decide) rfl (fun h118 => ?_) (fun h118 => ?_)
                · skip
                  refine x_iconst 0 131 dS_choose_130 rfl rfl ?_
                  refine x_istore 133 dS_choose_131 rfl (by decide) rfl ?_
                  refine x_iinc 136 dS_choose_133 rfl rfl (by decide) rfl ?_
                  refine x_goto 18 dS_choose_136 (by decide) ?_
                  exact ih _ _ _ _ _ _ _ (by rw [i_inc (by omega) (by omega)]; omega) (by rw [i_inc (by omega) (by omega)]; omega) (by simp only [chs, if_pos h40, if_pos h49, if_pos h57, if_neg h75, if_pos h92, if_pos h101, if_pos h118])
                · skip
                  refine x_iload 123 dS_choose_121 rfl rfl ?_
                  refine x_if_ge 130 126 dS_choose_123 (by decide) rfl (fun h123 => ?_) (fun h123 => ?_)
                  · skip
                    refine x_iconst 0 131 dS_choose_130 rfl rfl ?_
                    refine x_istore 133 dS_choose_131 rfl (by decide) rfl ?_
                    refine x_iinc 136 dS_choose_133 rfl rfl (by decide) rfl ?_
                    refine x_goto 18 dS_choose_136 (by decide) ?_
                    exact ih _ _ _ _ _ _ _ (by rw [i_inc (by omega) (by omega)]; omega) (by rw [i_inc (by omega) (by omega)]; omega) (by simp only [chs, if_pos h40, if_pos h49, if_pos h57, if_neg h75, if_pos h92, if_pos h101, if_neg h118, if_pos h123])
                  · skip
                    refine x_iconst 1 127 dS_choose_126 rfl rfl ?_
                    refine x_goto 131 dS_choose_127 (by decide) ?_
                    refine x_istore 133 dS_choose_131 rfl (by decide) rfl ?_
                    refine x_iinc 136 dS_choose_133 rfl rfl (by decide) rfl ?_
                    refine x_goto 18 dS_choose_136 (by decide) ?_
                    exact ih _ _ _ _ _ _ _ (by rw [i_inc (by omega) (by omega)]; omega) (by rw [i_inc (by omega) (by omega)]; omega) (by simp only [chs, if_pos h40, if_pos h49, if_pos h57, if_neg h75, if_pos h92, if_pos h101, if_neg h118, if_neg h123])
              · skip
                refine x_iload 106 dS_choose_104 rfl rfl ?_
                refine x_if_le 113 109 dS_choose_106 (by decide) rfl (fun h106 => ?_) (fun h106 => ?_)
                · skip
                  refine x_iconst 0 114 dS_choose_113 rfl rfl ?_
                  refine x_istore 116 dS_choose_114 rfl (by decide) rfl ?_
                  refine x_iload 118 dS_choose_116 rfl rfl ?_
                  refine x_if_eq 130 121 dS_choose_118 (by decide) rfl (fun h118 => ?_) (fun h118 => ?_)
                  · skip
                    refine x_iconst 0 131 dS_choose_130 rfl rfl ?_
                    refine x_istore 133 dS_choose_131 rfl (by decide) rfl ?_
                    refine x_iinc 136 dS_choose_133 rfl rfl (by decide) rfl ?_
                    refine x_goto 18 dS_choose_136 (by decide) ?_
                    exact ih _ _ _ _ _ _ _ (by rw [i_inc (by omega) (by omega)]; omega) (by rw [i_inc (by omega) (by omega)]; omega) (by simp only [chs, if_pos h40, if_pos h49, if_pos h57, if_neg h75, if_pos h92, if_neg h101, if_pos h106, if_pos h118])
                  · skip
                    refine x_iload 123 dS_choose_121 rfl rfl ?_
                    refine x_if_ge 130 126 dS_choose_123 (by decide) rfl (fun h123 => ?_) (fun h123 => ?_)
                    · skip
                      refine x_iconst 0 131 dS_choose_130 rfl rfl ?_
                      refine x_istore 133 dS_choose_131 rfl (by decide) rfl ?_
                      refine x_iinc 136 dS_choose_133 rfl rfl (by decide) rfl ?_
                      refine x_goto 18 dS_choose_136 (by decide) ?_
                      exact ih _ _ _ _ _ _ _ (by rw [i_inc (by omega) (by omega)]; omega) (by rw [i_inc (by omega) (by omega)]; omega) (by simp only [chs, if_pos h40, if_pos h49, if_pos h57, if_neg h75, if_pos h92, if_neg h101, if_pos h106, if_neg h118, if_pos h123])
                    · skip
                      refine x_iconst 1 127 dS_choose_126 rfl rfl ?_
                      refine x_goto 131 dS_choose_127 (by decide) ?_
                      refine x_istore 133 dS_choose_131 rfl (by decide) rfl ?_
                      refine x_iinc 136 dS_choose_133 rfl rfl (by decide) rfl ?_
                      refine x_goto 18 dS_choose_136 (by decide) ?_
                      exact ih _ _ _ _ _ _ _ (by rw [i_inc (by omega) (by omega)]; omega) (by rw [i_inc (by omega) (by omega)]; omega) (by simp only [chs, if_pos h40, if_pos h49, if_pos h57, if_neg h75, if_pos h92, if_neg h101, if_pos h106, if_neg h118, if_neg h123])
                · skip
                  refine x_iconst 1 110 dS_choose_109 rfl rfl ?_
                  refine x_goto 114 dS_choose_110 (by decide) ?_
                  refine x_istore 116 dS_choose_114 rfl (by decide) rfl ?_
                  refine x_iload 118 dS_choose_116 rfl rfl ?_
                  refine x_if_eq 130 121 dS_choose_118 (by decide) rfl (fun h118 => ?_) (fun h118 => ?_)
                  · skip
                    refine x_iconst 0 131 dS_choose_130 rfl rfl ?_
                    refine x_istore 133 dS_choose_131 rfl (by decide) rfl ?_
                    refine x_iinc 136 dS_choose_133 rfl rfl (by decide) rfl ?_
                    refine x_goto 18 dS_choose_136 (by decide) ?_
                    exact ih _ _ _ _ _ _ _ (by rw [i_inc (by omega) (by omega)]; omega) (by rw [i_inc (by omega) (by omega)]; omega) (by simp only [chs, if_pos h40, if_pos h49, if_pos h57, if_neg h75, if_pos h92, if_neg h101, if_neg h106, if_pos h118])
                  · skip
                    refine x_iload 123 dS_choose_121 rfl rfl ?_
                    refine x_if_ge 130 126 dS_choose_123 (by decide) rfl (fun h123 => ?_) (fun h123 => ?_)
                    · skip
                      refine x_iconst 0 131 dS_choose_130 rfl rfl ?_
                      refine x_istore 133 dS_choose_131 rfl (by decide) rfl ?_
                      refine x_iinc 136 dS_choose_133 rfl rfl (by decide) rfl ?_
                      refine x_goto 18 dS_choose_136 (by decide) ?_
                      exact ih _ _ _ _ _ _ _ (by rw [i_inc (by omega) (by omega)]; omega) (by rw [i_inc (by omega) (by omega)]; omega) (by simp only [chs, if_pos h40, if_pos h49, if_pos h57, if_neg h75, if_pos h92, if_neg h101, if_neg h106, if_neg h118, if_pos h123])
                    · skip
                      refine x_iconst 1 127 dS_choose_126 rfl rfl ?_
                      refine x_goto 131 dS_choose_127 (by decide) ?_
                      refine x_istore 133 dS_choose_131 rfl (by decide) rfl ?_
                      refine x_iinc 136 dS_choose_133 rfl rfl (by decide) rfl ?_
                      refine x_goto 18 dS_choose_136 (by decide) ?_
                      exact ih _ _ _ _ _ _ _ (by rw [i_inc (by omega) (by omega)]; omega) (by rw [i_inc (by omega) (by omega)]; omega) (by simp only [chs, if_pos h40, if_pos h49, if_pos h57, if_neg h75, if_pos h92, if_neg h101, if_neg h106, if_neg h118, if_neg h123])
            · skip
              refine x_iload 97 dS_choose_95 rfl rfl ?_
              refine x_istore 99 dS_choose_97 rfl (by decide) rfl ?_
              refine x_iload 101 dS_choose_99 rfl rfl ?_
              refine x_if_eq 113 104 dS_choose_101 (by decide) rfl (fun h101 => ?_) (fun h101 => ?_)
              · skip
                refine x_iconst 0 114 dS_choose_113 rfl rfl ?_
                refine x_istore 116 dS_choose_114 rfl (by decide) rfl ?_
                refine x_iload 118 dS_choose_116 rfl rfl ?_
                refine x_if_eq 130 121 dS_choose_118 (by decide) rfl (fun h118 => ?_) (fun h118 => ?_)
                · skip
                  refine x_iconst 0 131 dS_choose_130 rfl rfl ?_
                  refine x_istore 133 dS_choose_131 rfl (by decide) rfl ?_
                  refine x_iinc 136 dS_choose_133 rfl rfl (by decide) rfl ?_
                  refine x_goto 18 dS_choose_136 (by decide) ?_
                  exact ih _ _ _ _ _ _ _ (by rw [i_inc (by omega) (by omega)]; omega) (by rw [i_inc (by omega) (by omega)]; omega) (by simp only [chs, if_pos h40, if_pos h49, if_pos h57, if_neg h75, if_neg h92, if_pos h101, if_pos h118])
                · skip
                  refine x_iload 123 dS_choose_121 rfl rfl ?_
                  refine x_if_ge 130 126 dS_choose_123 (by decide) rfl (fun h123 => ?_) (fun h123 => ?_)
                  · skip
                    refine x_iconst 0 131 dS_choose_130 rfl rfl ?_
                    refine x_istore 133 dS_choose_131 rfl (by decide) rfl ?_
                    refine x_iinc 136 dS_choose_133 rfl rfl (by decide) rfl ?_
                    refine x_goto 18 dS_choose_136 (by decide) ?_
                    exact ih _ _ _ _ _ _ _ (by rw [i_inc (by omega) (by omega)]; omega) (by rw [i_inc (by omega) (by omega)]; omega) (by simp only [chs, if_pos h40, if_pos h49, if_pos h57, if_neg h75, if_neg h92, if_pos h101, if_neg h118, if_pos h123])
                  · skip
                    refine x_iconst 1 127 dS_choose_126 rfl rfl ?_
                    refine x_goto 131 dS_choose_127 (by decide) ?_
                    refine x_istore 133 dS_choose_131 rfl (by decide) rfl ?_
                    refine x_iinc 136 dS_choose_133 rfl rfl (by decide) rfl ?_
                    refine x_goto 18 dS_choose_136 (by decide) ?_
                    exact ih _ _ _ _ _ _ _ (by rw [i_inc (by omega) (by omega)]; omega) (by rw [i_inc (by omega) (by omega)]; omega) (by simp only [chs, if_pos h40, if_pos h49, if_pos h57, if_neg h75, if_neg h92, if_pos h101, if_neg h118, if_neg h123])
              · skip
                refine x_iload 106 dS_choose_104 rfl rfl ?_
                refine x_if_le 113 109 dS_choose_106 (by decide) rfl (fun h106 => ?_) (fun h106 => ?_)
                · skip
                  refine x_iconst 0 114 dS_choose_113 rfl rfl ?_
                  refine x_istore 116 dS_choose_114 rfl (by decide) rfl ?_
                  refine x_iload 118 dS_choose_116 rfl rfl ?_
                  refine x_if_eq 130 121 dS_choose_118 (by decide) rfl (fun h118 => ?_) (fun h118 => ?_)
                  · skip
                    refine x_iconst 0 131 dS_choose_130 rfl rfl ?_
                    refine x_istore 133 dS_choose_131 rfl (by decide) rfl ?_
                    refine x_iinc 136 dS_choose_133 rfl rfl (by decide) rfl ?_
                    refine x_goto 18 dS_choose_136 (by decide) ?_
                    exact ih _ _ _ _ _ _ _ (by rw [i_inc (by omega) (by omega)]; omega) (by rw [i_inc (by omega) (by omega)]; omega) (by simp only [chs, if_pos h40, if_pos h49, if_pos h57, if_neg h75, if_neg h92, if_neg h101, if_pos h106, if_pos h118])
                  · skip
                    refine x_iload 123 dS_choose_121 rfl rfl ?_
                    refine x_if_ge 130 126 dS_choose_123 (by decide) rfl (fun h123 => ?_) (fun h123 => ?_)
                    · skip
                      refine x_iconst 0 131 dS_choose_130 rfl rfl ?_
                      refine x_istore 133 dS_choose_131 rfl (by decide) rfl ?_
                      refine x_iinc 136 dS_choose_133 rfl rfl (by decide) rfl ?_
                      refine x_goto 18 dS_choose_136 (by decide) ?_
                      exact ih _ _ _ _ _ _ _ (by rw [i_inc (by omega) (by omega)]; omega) (by rw [i_inc (by omega) (by omega)]; omega) (by simp only [chs, if_pos h40, if_pos h49, if_pos h57, if_neg h75, if_neg h92, if_neg h101, if_pos h106, if_neg h118, if_pos h123])
                    · skip
                      refine x_iconst 1 127 dS_choose_126 rfl rfl ?_
                      refine x_goto 131 dS_choose_127 (by decide) ?_
                      refine x_istore 133 dS_choose_131 rfl (by decide) rfl ?_
                      refine x_iinc 136 dS_choose_133 rfl rfl (by decide) rfl ?_
                      refine x_goto 18 dS_choose_136 (by decide) ?_
                      exact ih _ _ _ _ _ _ _ (by rw [i_inc (by omega) (by omega)]; omega) (by rw [i_inc (by omega) (by omega)]; omega) (by simp only [chs, if_pos h40, if_pos h49, if_pos h57, if_neg h75, if_neg h92, if_neg h101, if_pos h106, if_neg h118, if_neg h123])
                · skip
                  refine x_iconst 1 110 dS_choose_109 rfl rfl ?_
                  refine x_goto 114 dS_choose_110 (by decide) ?_
                  refine x_istore 116 dS_choose_114 rfl (by decide) rfl ?_
                  refine x_iload 118 dS_choose_116 rfl rfl ?_
                  refine x_if_eq 130 121 dS_choose_118 (by decide) rfl (fun h118 => ?_) (fun h118 => ?_)
                  · skip
                    refine x_iconst 0 131 dS_choose_130 rfl rfl ?_
                    refine x_istore 133 dS_choose_131 rfl (by decide) rfl ?_
                    refine x_iinc 136 dS_choose_133 rfl rfl (by decide) rfl ?_
                    refine x_goto 18 dS_choose_136 (by decide) ?_
                    exact ih _ _ _ _ _ _ _ (by rw [i_inc (by omega) (by omega)]; omega) (by rw [i_inc (by omega) (by omega)]; omega) (by simp only [chs, if_pos h40, if_pos h49, if_pos h57, if_neg h75, if_neg h92, if_neg h101, if_neg h106, if_pos h118])
                  · skip
                    refine x_iload 123 dS_choose_121 rfl rfl ?_
                    refine x_if_ge 130 126 dS_choose_123 (by decide) rfl (fun h123 => ?_) (fun h123 => ?_)
                    · skip
                      refine x_iconst 0 131 dS_choose_130 rfl rfl ?_
                      refine x_istore 133 dS_choose_131 rfl (by decide) rfl ?_
                      refine x_iinc 136 dS_choose_133 rfl rfl (by decide) rfl ?_
                      refine x_goto 18 dS_choose_136 (by decide) ?_
                      exact ih _ _ _ _ _ _ _ (by rw [i_inc (by omega) (by omega)]; omega) (by rw [i_inc (by omega) (by omega)]; omega) (by simp only [chs, if_pos h40, if_pos h49, if_pos h57, if_neg h75, if_neg h92, if_neg h101, if_neg h106, if_neg h118, if_pos h123])
                    · skip
                      refine x_iconst 1 127 dS_choose_126 rfl rfl ?_
                      refine x_goto 131 dS_choose_127 (by decide) ?_
                      refine x_istore 133 dS_choose_131 rfl (by decide) rfl ?_
                      refine x_iinc 136 dS_choose_133 rfl rfl (by decide) rfl ?_
                      refine x_goto 18 dS_choose_136 (by decide) ?_
                      exact ih _ _ _ _ _ _ _ (by rw [i_inc (by omega) (by omega)]; omega) (by rw [i_inc (by omega) (by omega)]; omega) (by simp only [chs, if_pos h40, if_pos h49, if_pos h57, if_neg h75, if_neg h92, if_neg h101, if_neg h106, if_neg h118, if_neg h123])
      · skip
        refine x_goto 133 dS_choose_52 (by decide) ?_
        refine x_iinc 136 dS_choose_133 rfl rfl (by decide) rfl ?_
        refine x_goto 18 dS_choose_136 (by decide) ?_
        exact ih _ _ _ _ _ _ _ (by rw [i_inc (by omega) (by omega)]; omega) (by rw [i_inc (by omega) (by omega)]; omega) (by simp only [chs, if_pos h40, if_neg h49])
theorem cS_choose (v g rf : Int32) : x_C l G mS_choose 2 0 0 [xR (some (11, 0)), xI v, xI g, xI rf] (hp N I J P V A B) [] (x_is (some (xI (chs I v g rf 63 1 0 0 0 1 1))) (hp N I J P V A B)) := by
  refine x_C.at [some (xR (some (11, 0))), some (xI v), some (xI g), some (xI rf), none, none, none, none, none, none, none] rfl (Nat.le_of_ble_eq_true rfl) rfl ?_
  refine x_iconst 0 1 dS_choose_0 rfl rfl ?_
  refine x_istore 3 dS_choose_1 rfl (by decide) rfl ?_
  refine x_iconst 0 4 dS_choose_3 rfl rfl ?_
  refine x_istore 6 dS_choose_4 rfl (by decide) rfl ?_
  refine x_iconst 0 7 dS_choose_6 rfl rfl ?_
  refine x_istore 9 dS_choose_7 rfl (by decide) rfl ?_
  refine x_iconst 1 10 dS_choose_9 rfl rfl ?_
  refine x_istore 12 dS_choose_10 rfl (by decide) rfl ?_
  refine x_iconst 1 13 dS_choose_12 rfl rfl ?_
  refine x_istore 15 dS_choose_13 rfl (by decide) rfl ?_
  refine x_iconst 1 16 dS_choose_15 rfl rfl ?_
  refine x_istore 18 dS_choose_16 rfl (by decide) rfl ?_
  exact lp_choose v g rf _ 63 1 0 0 0 1 1 _ (by decide) (by decide) rfl
theorem lp_fcp {i : Nat} (hi : i < 2) (T : Int32) : ∀ (n : Nat) (p mv lg : Int32) (x y : Option xV), p.toInt + n = 64 → 1 ≤ p.toInt → fcp I (I 11 i) n p mv lg = T → x_X l G mS_findCallPrice 3 0 0 [] (x_is (some (xI T)) (hp N I J P V A B)) 12 [some (xR (some (11, 0))), some (xR (some (3, i))), some (xI mv), some (xI lg), some (xI p), x, y] [] (hp N I J P V A B) := by
  intro n
  induction n with
  | zero =>
    intro p mv lg x y hp1 hp2 hT
    subst hT
    refine x_iload 14 dS_findCallPrice_12 rfl rfl ?_
    refine x_bipush (63) 16 dS_findCallPrice_14 rfl rfl ?_
    refine x_icmp_gt 68 19 dS_findCallPrice_16 (by decide) rfl (fun h16 => ?_) (fun h16 => absurd (show (63 : Int32) < p from by rw [i_lt, c63]; omega) h16)
    refine x_iload_n 69 dS_findCallPrice_68 rfl rfl ?_
    refine x_if_ne 76 72 dS_findCallPrice_69 (by decide) rfl (fun h69 => ?_) (fun h69 => ?_)
    · skip
      refine x_aload_n 77 dS_findCallPrice_76 rfl rfl ?_
      refine x_iload_n 78 dS_findCallPrice_77 rfl rfl ?_
      refine x_iload_n 79 dS_findCallPrice_78 rfl rfl ?_
      refine x_aload_n 80 dS_findCallPrice_79 rfl rfl ?_
      refine x_get _ 83 fS_34 dS_findCallPrice_80 rfl (h_B (by assumption)) rfl ?_
      refine x_fVv 86 (cS_choose _ _ _) kS_40 oS_choose rfl rfl dS_findCallPrice_83 rfl rfl (by decide) (Nat.le_of_ble_eq_true rfl) ?_
      exact x_iret dS_findCallPrice_86 rfl rfl ⟨by simp only [fcp, h16, h69, if_true, if_false], rfl⟩
    · skip
      refine x_iconst 0 73 dS_findCallPrice_72 rfl rfl ?_
      refine x_goto 86 dS_findCallPrice_73 (by decide) ?_
      exact x_iret dS_findCallPrice_86 rfl rfl ⟨by simp only [fcp, h16, h69, if_true, if_false], rfl⟩
  | succ n ih =>
    intro p mv lg x y hp1 hp2 hT
    subst hT
    have hin : vp_in p 65 := vp_of (by omega) (by omega)
    have hlt : ¬ (63 : Int32) < p := by rw [i_lt, c63]; omega
    refine x_iload 14 dS_findCallPrice_12 rfl rfl ?_
    refine x_bipush (63) 16 dS_findCallPrice_14 rfl rfl ?_
    refine x_icmp_gt 68 19 dS_findCallPrice_16 (by decide) rfl (fun h16 => absurd h16 hlt) (fun h16 => ?_)
    refine x_aload_n 20 dS_findCallPrice_19 rfl rfl ?_
    refine x_iload 22 dS_findCallPrice_20 rfl rfl ?_
    refine x_fVv 25 (cS_volumeAt hin) kS_22 oS_volumeAt rfl rfl dS_findCallPrice_22 rfl rfl (by decide) (Nat.le_of_ble_eq_true rfl) ?_
    refine x_istore 27 dS_findCallPrice_25 rfl (by decide) rfl ?_
    refine x_aload_n 28 dS_findCallPrice_27 rfl rfl ?_
    refine x_iload 30 dS_findCallPrice_28 rfl rfl ?_
    refine x_fVv 33 (cS_surplusAt hin) kS_26 oS_surplusAt rfl rfl dS_findCallPrice_30 rfl rfl (by decide) (Nat.le_of_ble_eq_true rfl) ?_
    refine x_mabs 36 kS_29 dS_findCallPrice_33 rfl (by decide) (Nat.le_of_ble_eq_true rfl) ?_
    refine x_istore 38 dS_findCallPrice_36 rfl (by decide) rfl ?_
    refine x_iload 40 dS_findCallPrice_38 rfl rfl ?_
    refine x_iload_n 41 dS_findCallPrice_40 rfl rfl ?_
    refine x_icmp_gt 56 44 dS_findCallPrice_41 (by decide) rfl (fun h41 => ?_) (fun h41 => ?_)
    · skip
      refine x_iload 58 dS_findCallPrice_56 rfl rfl ?_
      refine x_istore_n 59 dS_findCallPrice_58 rfl (by decide) rfl ?_
      refine x_iload 61 dS_findCallPrice_59 rfl rfl ?_
      refine x_istore_n 62 dS_findCallPrice_61 rfl (by decide) rfl ?_
      refine x_iinc 65 dS_findCallPrice_62 rfl rfl (by decide) rfl ?_
      refine x_goto 12 dS_findCallPrice_65 (by decide) ?_
      exact ih _ _ _ _ _ (by rw [i_inc (by omega) (by omega)]; omega) (by rw [i_inc (by omega) (by omega)]; omega) (by simp only [fcp, if_pos h41])
    · skip
      refine x_iload 46 dS_findCallPrice_44 rfl rfl ?_
      refine x_iload_n 47 dS_findCallPrice_46 rfl rfl ?_
      refine x_icmp_ne 62 50 dS_findCallPrice_47 (by decide) rfl (fun h47 => ?_) (fun h47 => ?_)
      · skip
        refine x_iinc 65 dS_findCallPrice_62 rfl rfl (by decide) rfl ?_
        refine x_goto 12 dS_findCallPrice_65 (by decide) ?_
        exact ih _ _ _ _ _ (by rw [i_inc (by omega) (by omega)]; omega) (by rw [i_inc (by omega) (by omega)]; omega) (by simp only [fcp, if_neg h41, if_neg h47])
      · skip
        refine x_iload 52 dS_findCallPrice_50 rfl rfl ?_
        refine x_iload_n 53 dS_findCallPrice_52 rfl rfl ?_
        refine x_icmp_ge 62 56 dS_findCallPrice_53 (by decide) rfl (fun h53 => ?_) (fun h53 => ?_)
        · skip
          refine x_iinc 65 dS_findCallPrice_62 rfl rfl (by decide) rfl ?_
          refine x_goto 12 dS_findCallPrice_65 (by decide) ?_
          exact ih _ _ _ _ _ (by rw [i_inc (by omega) (by omega)]; omega) (by rw [i_inc (by omega) (by omega)]; omega) (by simp only [fcp, if_neg h41, if_pos h47, if_pos h53])
        · skip
          refine x_iload 58 dS_findCallPrice_56 rfl rfl ?_
          refine x_istore_n 59 dS_findCallPrice_58 rfl (by decide) rfl ?_
          refine x_iload 61 dS_findCallPrice_59 rfl rfl ?_
          refine x_istore_n 62 dS_findCallPrice_61 rfl (by decide) rfl ?_
          refine x_iinc 65 dS_findCallPrice_62 rfl rfl (by decide) rfl ?_
          refine x_goto 12 dS_findCallPrice_65 (by decide) ?_
          exact ih _ _ _ _ _ (by rw [i_inc (by omega) (by omega)]; omega) (by rw [i_inc (by omega) (by omega)]; omega) (by simp only [fcp, if_neg h41, if_pos h47, if_neg h53])
theorem cS_findCallPrice {i : Nat} (hi : i < 2) {cb cs : List Nat} (hcb : Ch P (P 1 (2 * i)) cb) (hlb : ∀ o ∈ cb, o < N) (hcs : Ch P (P 1 (2 * i + 1)) cs) (hls : ∀ o ∈ cs, o < N) (h5b : ∀ o ∈ cb, vp_in (I 5 o) 65) (h5s : ∀ o ∈ cs, vp_in (I 5 o) 65) : x_C l G mS_findCallPrice 3 0 0 [xR (some (11, 0)), xR (some (3, i))] (hp N I J P V A B) [] (x_is (some (xI (fcp (wgh I cb cs) (wgh I cb cs 11 i) 63 1 0 0))) (hp N (wgh I cb cs) J P V A B)) := by
  refine x_C.at [some (xR (some (11, 0))), some (xR (some (3, i))), none, none, none, none, none] rfl (Nat.le_of_ble_eq_true rfl) rfl ?_
  refine x_aload_n 1 dS_findCallPrice_0 rfl rfl ?_
  refine x_aload_n 2 dS_findCallPrice_1 rfl rfl ?_
  refine x_fVn 5 (cS_weigh hi hcb hlb hcs hls h5b h5s) kS_18 oS_weigh rfl rfl dS_findCallPrice_2 rfl rfl (by decide) (Nat.le_of_ble_eq_true rfl) ?_
  refine x_iconst 0 6 dS_findCallPrice_5 rfl rfl ?_
  refine x_istore_n 7 dS_findCallPrice_6 rfl (by decide) rfl ?_
  refine x_iconst 0 8 dS_findCallPrice_7 rfl rfl ?_
  refine x_istore_n 9 dS_findCallPrice_8 rfl (by decide) rfl ?_
  refine x_iconst 1 10 dS_findCallPrice_9 rfl rfl ?_
  refine x_istore 12 dS_findCallPrice_10 rfl (by decide) rfl ?_
  exact lp_fcp hi _ 63 1 0 0 _ _ (by decide) (by decide) rfl
def fnd (I : Nat → Nat → Int32) (x : Int32) : Option xQ := if x < 0 then none else if I 12 0 ≤ x then none else some (0, x.toNatClampNeg)
def FD (N : Nat) (I : Nat → Nat → Int32) (P : Nat → Nat → Option xQ) : Prop := ∀ x : Int32, ¬ x < 0 → ¬ I 12 0 ≤ x → vp_in x 120 ∧ P 2 x.toNatClampNeg = some (0, x.toNatClampNeg) ∧ x.toNatClampNeg < N
theorem fnd_cs (I : Nat → Nat → Int32) (x : Int32) : fnd I x = none ∨ (¬ x < 0 ∧ ¬ I 12 0 ≤ x ∧ fnd I x = some (0, x.toNatClampNeg)) := by
  unfold fnd
  split
  · exact Or.inl rfl
  · split
    · exact Or.inl rfl
    · exact Or.inr ⟨by assumption, by assumption, rfl⟩
theorem cC_find (hf : FD N I P) (x : Int32) : x_C l G mC_find 0 0 0 [xR (some (5, 0)), xI x] (hp N I J P V A B) [] (x_is (some (xR (fnd I x))) (hp N I J P V A B)) := by
  refine x_C.at [some (xR (some (5, 0))), some (xI x)] rfl (Nat.le_of_ble_eq_true rfl) rfl ?_
  refine x_iload_n 1 dC_find_0 rfl rfl ?_
  refine x_if_lt 21 4 dC_find_1 (by decide) rfl (fun h1 => ?_) (fun h1 => ?_)
  · skip
    refine x_null 22 dC_find_21 rfl ?_
    exact x_aret dC_find_22 rfl (Or.inl ⟨_, rfl⟩) ⟨by simp [fnd, h1], rfl⟩
  · skip
    refine x_iload_n 5 dC_find_4 rfl rfl ?_
    refine x_aload_n 6 dC_find_5 rfl rfl ?_
    refine x_get _ 9 fC_41 dC_find_6 rfl rfl rfl ?_
    refine x_icmp_ge 21 12 dC_find_9 (by decide) rfl (fun h9 => ?_) (fun h9 => ?_)
    · skip
      refine x_null 22 dC_find_21 rfl ?_
      exact x_aret dC_find_22 rfl (Or.inl ⟨_, rfl⟩) ⟨by simp [fnd, h1, h9], rfl⟩
    · skip
      refine x_aload_n 13 dC_find_12 rfl rfl ?_
      refine x_get _ 16 fC_23 dC_find_13 rfl rfl rfl ?_
      refine x_iload_n 17 dC_find_16 rfl rfl ?_
      refine x_aald 18 rfl dC_find_17 rfl rfl (hf x h1 h9).1 ?_
      refine x_goto 22 dC_find_18 (by decide) ?_
      exact x_aret dC_find_22 rfl (Or.inl ⟨_, rfl⟩) ⟨by simp [fnd, h1, h9, (hf x h1 h9).2.1], rfl⟩
theorem cC_find_n (hf : FD N I P) {x : Int32} (hq : fnd I x = none) : x_C l G mC_find 0 0 0 [xR (some (5, 0)), xI x] (hp N I J P V A B) [] (x_is (some (xR none)) (hp N I J P V A B)) := by
  have := cC_find (l := l) (G := G) (J := J) (V := V) (A := A) (B := B) hf x
  rw [hq] at this
  exact this
theorem cC_find_s (hf : FD N I P) {x : Int32} {a : xQ} (hq : fnd I x = some a) : x_C l G mC_find 0 0 0 [xR (some (5, 0)), xI x] (hp N I J P V A B) [] (x_is (some (xR (some a))) (hp N I J P V A B)) := by
  have := cC_find (l := l) (G := G) (J := J) (V := V) (A := A) (B := B) hf x
  rw [hq] at this
  exact this
def fndR (I : Nat → Nat → Int32) (m x : Int32) : Option xQ := if x < 0 then none else if I 12 0 ≤ x then none else if I 1 x.toNatClampNeg = m then (if I 8 x.toNatClampNeg = 0 then some (0, x.toNatClampNeg) else none) else none
theorem fndR_n {I : Nat → Nat → Int32} {m x : Int32} (h : fnd I x = none) : fndR I m x = none := by
  unfold fnd at h
  unfold fndR
  split
  · rfl
  · rename_i h1
    rw [if_neg h1] at h
    split
    · rfl
    · rename_i h2
      rw [if_neg h2] at h
      cases h
theorem fndR_cs (I : Nat → Nat → Int32) (m x : Int32) : fndR I m x = none ∨ (¬ x < 0 ∧ ¬ I 12 0 ≤ x ∧ I 1 x.toNatClampNeg = m ∧ I 8 x.toNatClampNeg = 0 ∧ fndR I m x = some (0, x.toNatClampNeg)) := by
  unfold fndR
  split
  · exact Or.inl rfl
  · split
    · exact Or.inl rfl
    · split
      · split
        · exact Or.inr ⟨by assumption, by assumption, by assumption, by assumption, rfl⟩
        · exact Or.inl rfl
      · exact Or.inl rfl
theorem cC_findResting (hf : FD N I P) (m x : Int32) : x_C l G mC_findResting 1 0 0 [xR (some (5, 0)), xI m, xI x] (hp N I J P V A B) [] (x_is (some (xR (fndR I m x))) (hp N I J P V A B)) := by
  refine x_C.at [some (xR (some (5, 0))), some (xI m), some (xI x), none] rfl (Nat.le_of_ble_eq_true rfl) rfl ?_
  rcases fnd_cs I x with hq | ⟨h1, h2, hq⟩
  · skip
    refine x_aload_n 1 dC_findResting_0 rfl rfl ?_
    refine x_iload_n 2 dC_findResting_1 rfl rfl ?_
    refine x_fVv 5 (cC_find_n hf hq) kC_153 oC_find rfl rfl dC_findResting_2 rfl rfl (by decide) (Nat.le_of_ble_eq_true rfl) ?_
    refine x_astore_n 6 dC_findResting_5 rfl (by decide) rfl ?_
    refine x_aload_n 7 dC_findResting_6 rfl rfl ?_
    refine x_ifnull_n 29 10 dC_findResting_7 (by decide) rfl ?_
    refine x_null 30 dC_findResting_29 rfl ?_
    exact x_aret dC_findResting_30 rfl (Or.inl ⟨_, rfl⟩) ⟨by rw [fndR_n hq], rfl⟩
  · have hk := (hf x h1 h2).2.2
    refine x_aload_n 1 dC_findResting_0 rfl rfl ?_
    refine x_iload_n 2 dC_findResting_1 rfl rfl ?_
    refine x_fVv 5 (cC_find_s hf hq) kC_153 oC_find rfl rfl dC_findResting_2 rfl rfl (by decide) (Nat.le_of_ble_eq_true rfl) ?_
    refine x_astore_n 6 dC_findResting_5 rfl (by decide) rfl ?_
    refine x_aload_n 7 dC_findResting_6 rfl rfl ?_
    refine x_ifnull_s 29 10 dC_findResting_7 (by decide) rfl ?_
    refine x_aload_n 11 dC_findResting_10 rfl rfl ?_
    refine x_get _ 14 fC_185 dC_findResting_11 rfl (h_O (by assumption)) rfl ?_
    refine x_iload_n 15 dC_findResting_14 rfl rfl ?_
    refine x_icmp_ne 29 18 dC_findResting_15 (by decide) rfl (fun h15 => ?_) (fun h15 => ?_)
    · skip
      refine x_null 30 dC_findResting_29 rfl ?_
      exact x_aret dC_findResting_30 rfl (Or.inl ⟨_, rfl⟩) ⟨by simp [fndR, h1, h2, h15], rfl⟩
    · skip
      refine x_aload_n 19 dC_findResting_18 rfl rfl ?_
      refine x_get _ 22 fC_157 dC_findResting_19 rfl (h_O (by assumption)) rfl ?_
      refine x_if_ne 29 25 dC_findResting_22 (by decide) rfl (fun h22 => ?_) (fun h22 => ?_)
      · skip
        refine x_null 30 dC_findResting_29 rfl ?_
        exact x_aret dC_findResting_30 rfl (Or.inl ⟨_, rfl⟩) ⟨by simp [fndR, h1, h2, h15, h22], rfl⟩
      · skip
        refine x_aload_n 26 dC_findResting_25 rfl rfl ?_
        refine x_goto 30 dC_findResting_26 (by decide) ?_
        exact x_aret dC_findResting_30 rfl (Or.inl ⟨_, rfl⟩) ⟨by simp [fndR, h1, h2, h15, h22], rfl⟩
theorem cC_findResting_n (hf : FD N I P) {m x : Int32} (hq : fndR I m x = none) : x_C l G mC_findResting 1 0 0 [xR (some (5, 0)), xI m, xI x] (hp N I J P V A B) [] (x_is (some (xR (none))) (hp N I J P V A B)) := by
  have := cC_findResting (l := l) (G := G) (J := J) (V := V) (A := A) (B := B) hf m x
  rw [hq] at this
  exact this
theorem cC_findResting_s (hf : FD N I P) {m x : Int32} {a : xQ} (hq : fndR I m x = some a) : x_C l G mC_findResting 1 0 0 [xR (some (5, 0)), xI m, xI x] (hp N I J P V A B) [] (x_is (some (xR (some a))) (hp N I J P V A B)) := by
  have := cC_findResting (l := l) (G := G) (J := J) (V := V) (A := A) (B := B) hf m x
  rw [hq] at this
  exact this
def rk1 (I V : Nat → Nat → Int32) (ls : Nat → List Nat) (m i s q e : Int32) : Int64 := (if e.toNatClampNeg = 0 then (3 : Int32) else 5).toInt64 * (i_max (i_abs (if e = i then (if s = 0 then V m.toNatClampNeg e.toNatClampNeg + lfo I m 0 (ls (2 * e.toNatClampNeg)) + q else V m.toNatClampNeg e.toNatClampNeg + lfo I m 0 (ls (2 * e.toNatClampNeg))) else V m.toNatClampNeg e.toNatClampNeg + lfo I m 0 (ls (2 * e.toNatClampNeg)))) (i_abs (if e = i then (if s = 1 then V m.toNatClampNeg e.toNatClampNeg - lfo I m 0 (ls (2 * e.toNatClampNeg + 1)) - q else V m.toNatClampNeg e.toNatClampNeg - lfo I m 0 (ls (2 * e.toNatClampNeg + 1))) else V m.toNatClampNeg e.toNatClampNeg - lfo I m 0 (ls (2 * e.toNatClampNeg + 1))))).toInt64
def rkF (I V : Nat → Nat → Int32) (ls : Nat → List Nat) (m i s q : Int32) : Nat → Int32 → Int64 → Int64
  | 0, _, sum => sum
  | n + 1, e, sum => rkF I V ls m i s q n (e + Int32.ofInt 1) (sum + rk1 I V ls m i s q e)
def rsk (I V : Nat → Nat → Int32) (ls : Nat → List Nat) (m i s q : Int32) : Int64 := rkF I V ls m i s q 2 0 0
theorem c2 : (2 : Int32).toInt = 2 := by decide
theorem lp_risk {m : Int32} (hm : vp_in m 5) {ls : Nat → List Nat} (hc : ∀ j < 4, Ch P (P 1 j) (ls j)) (hl : ∀ j < 4, ∀ o ∈ ls j, o < N) (i s q : Int32) (T : Int64) : ∀ (n : Nat) (e : Int32) (sum : Int64) (x y z : Option xV), e.toInt + n = 2 → 0 ≤ e.toInt → rkF I V ls m i s q n e sum = T → x_X l G mC_riskWith 1 0 0 [] (x_is (some (xJ T)) (hp N I J P V A B)) 6 [some (xR (some (5, 0))), some (xI m), some (xI i), some (xI s), some (xI q), some (xJ sum), none, some (xI e), x, y, z] [] (hp N I J P V A B) := by
  intro n
  induction n with
  | zero =>
    intro e sum x y z hp1 hp2 hT
    subst hT
    refine x_iload 8 dC_riskWith_6 rfl rfl ?_
    refine x_iconst 2 9 dC_riskWith_8 rfl rfl ?_
    refine x_icmp_ge 132 12 dC_riskWith_9 (by decide) rfl (fun h9 => ?_) (fun h9 => absurd (show (2 : Int32) ≤ e from by rw [i_le, c2]; omega) h9)
    refine x_lload 134 dC_riskWith_132 rfl rfl ?_
    exact x_lret dC_riskWith_134 rfl ⟨rfl, rfl⟩
  | succ n ih =>
    intro e sum x y z hp1 hp2 hT
    subst hT
    have hin : vp_in e 2 := vp_of (by omega) (by omega)
    have he2 := vp_lt hin
    have hm5 := vp_lt hm
    have hlt : ¬ (2 : Int32) ≤ e := by rw [i_le, c2]; omega
    refine x_iload 8 dC_riskWith_6 rfl rfl ?_
    refine x_iconst 2 9 dC_riskWith_8 rfl rfl ?_
    refine x_icmp_ge 132 12 dC_riskWith_9 (by decide) rfl (fun h9 => absurd h9 hlt) (fun h9 => ?_)
    refine x_aload_n 13 dC_riskWith_12 rfl rfl ?_
    refine x_get _ 16 fC_11 dC_riskWith_13 rfl rfl rfl ?_
    refine x_iload_n 17 dC_riskWith_16 rfl rfl ?_
    refine x_aald 18 rfl dC_riskWith_17 rfl rfl (by assumption) ?_
    refine x_get _ 21 fC_175 dC_riskWith_18 rfl (h_A (by assumption)) rfl ?_
    refine x_iload 23 dC_riskWith_21 rfl rfl ?_
    refine x_iald 24 dC_riskWith_23 rfl (h_P (by assumption)) (by assumption) ?_
    refine x_istore 26 dC_riskWith_24 rfl (by decide) rfl ?_
    refine x_iload 28 dC_riskWith_26 rfl rfl ?_
    refine x_aload_n 29 dC_riskWith_28 rfl rfl ?_
    refine x_get _ 32 fC_17 dC_riskWith_29 rfl rfl rfl ?_
    refine x_iload 34 dC_riskWith_32 rfl rfl ?_
    refine x_aald 35 rfl dC_riskWith_34 rfl rfl (by assumption) ?_
    refine x_get _ 38 fC_188 dC_riskWith_35 rfl (h_B (by assumption)) rfl ?_
    refine x_iload_n 39 dC_riskWith_38 rfl rfl ?_
    refine x_fVv 42 (cD_leftOf (by omega) (hc _ (by omega)) (hl _ (by omega)) _) kC_192 oD_leftOf rfl (h_D (by omega)) dC_riskWith_39 rfl rfl (by decide) (Nat.le_of_ble_eq_true rfl) ?_
    refine x_iadd 43 dC_riskWith_42 rfl ?_
    refine x_istore 45 dC_riskWith_43 rfl (by decide) rfl ?_
    refine x_iload 47 dC_riskWith_45 rfl rfl ?_
    refine x_aload_n 48 dC_riskWith_47 rfl rfl ?_
    refine x_get _ 51 fC_17 dC_riskWith_48 rfl rfl rfl ?_
    refine x_iload 53 dC_riskWith_51 rfl rfl ?_
    refine x_aald 54 rfl dC_riskWith_53 rfl rfl (by assumption) ?_
    refine x_get _ 57 fC_195 dC_riskWith_54 rfl (h_B (by assumption)) rfl ?_
    refine x_iload_n 58 dC_riskWith_57 rfl rfl ?_
    refine x_fVv 61 (cD_leftOf (by omega) (hc _ (by omega)) (hl _ (by omega)) _) kC_192 oD_leftOf rfl (h_D (by omega)) dC_riskWith_58 rfl rfl (by decide) (Nat.le_of_ble_eq_true rfl) ?_
    refine x_isub 62 dC_riskWith_61 rfl ?_
    refine x_istore 64 dC_riskWith_62 rfl (by decide) rfl ?_
    refine x_iload 66 dC_riskWith_64 rfl rfl ?_
    refine x_iload_n 67 dC_riskWith_66 rfl rfl ?_
    refine x_icmp_ne 81 70 dC_riskWith_67 (by decide) rfl (fun h67 => ?_) (fun h67 => ?_)
    · skip
      refine x_iload 83 dC_riskWith_81 rfl rfl ?_
      refine x_iload_n 84 dC_riskWith_83 rfl rfl ?_
      refine x_icmp_ne 99 87 dC_riskWith_84 (by decide) rfl (fun h84 => ?_) (fun h84 => ?_)
      · skip
        refine x_lload 101 dC_riskWith_99 rfl rfl ?_
        refine x_gets 104 sC_riskWith_198 dC_riskWith_101 rfl ?_
        refine x_iload 106 dC_riskWith_104 rfl rfl ?_
        refine x_rate 107 dC_riskWith_106 rfl (by assumption) ?_
        refine x_i2l 108 dC_riskWith_107 rfl ?_
        refine x_iload 110 dC_riskWith_108 rfl rfl ?_
        refine x_mabs 113 kC_201 dC_riskWith_110 rfl (by decide) (Nat.le_of_ble_eq_true rfl) ?_
        refine x_iload 115 dC_riskWith_113 rfl rfl ?_
        refine x_mabs 118 kC_201 dC_riskWith_115 rfl (by decide) (Nat.le_of_ble_eq_true rfl) ?_
        refine x_mmax 121 kC_204 dC_riskWith_118 rfl (by decide) (Nat.le_of_ble_eq_true rfl) ?_
        refine x_i2l 122 dC_riskWith_121 rfl ?_
        refine x_lmul 123 dC_riskWith_122 rfl ?_
        refine x_ladd 124 dC_riskWith_123 rfl ?_
        refine x_lstore 126 dC_riskWith_124 rfl (by decide) rfl ?_
        refine x_iinc 129 dC_riskWith_126 rfl rfl (by decide) rfl ?_
        refine x_goto 6 dC_riskWith_129 (by decide) ?_
        exact ih _ _ _ _ _ (by rw [i_inc (by omega) (by omega)]; omega) (by rw [i_inc (by omega) (by omega)]; omega) (by first | (simp only [rkF, rk1, if_neg h67, if_neg h84]; done) | contradiction)
      · skip
        refine x_iload_n 88 dC_riskWith_87 rfl rfl ?_
        refine x_iconst 1 89 dC_riskWith_88 rfl rfl ?_
        refine x_icmp_ne 99 92 dC_riskWith_89 (by decide) rfl (fun h89 => ?_) (fun h89 => ?_)
        · skip
          refine x_lload 101 dC_riskWith_99 rfl rfl ?_
          refine x_gets 104 sC_riskWith_198 dC_riskWith_101 rfl ?_
          refine x_iload 106 dC_riskWith_104 rfl rfl ?_
          refine x_rate 107 dC_riskWith_106 rfl (by assumption) ?_
          refine x_i2l 108 dC_riskWith_107 rfl ?_
          refine x_iload 110 dC_riskWith_108 rfl rfl ?_
          refine x_mabs 113 kC_201 dC_riskWith_110 rfl (by decide) (Nat.le_of_ble_eq_true rfl) ?_
          refine x_iload 115 dC_riskWith_113 rfl rfl ?_
          refine x_mabs 118 kC_201 dC_riskWith_115 rfl (by decide) (Nat.le_of_ble_eq_true rfl) ?_
          refine x_mmax 121 kC_204 dC_riskWith_118 rfl (by decide) (Nat.le_of_ble_eq_true rfl) ?_
          refine x_i2l 122 dC_riskWith_121 rfl ?_
          refine x_lmul 123 dC_riskWith_122 rfl ?_
          refine x_ladd 124 dC_riskWith_123 rfl ?_
          refine x_lstore 126 dC_riskWith_124 rfl (by decide) rfl ?_
          refine x_iinc 129 dC_riskWith_126 rfl rfl (by decide) rfl ?_
          refine x_goto 6 dC_riskWith_129 (by decide) ?_
          exact ih _ _ _ _ _ (by rw [i_inc (by omega) (by omega)]; omega) (by rw [i_inc (by omega) (by omega)]; omega) (by first | (simp only [rkF, rk1, if_neg h67, if_pos h84, if_neg h89]; done) | contradiction)
        · skip
          refine x_iload 94 dC_riskWith_92 rfl rfl ?_
          refine x_iload 96 dC_riskWith_94 rfl rfl ?_
          refine x_isub 97 dC_riskWith_96 rfl ?_
          refine x_istore 99 dC_riskWith_97 rfl (by decide) rfl ?_
          refine x_lload 101 dC_riskWith_99 rfl rfl ?_
          refine x_gets 104 sC_riskWith_198 dC_riskWith_101 rfl ?_
          refine x_iload 106 dC_riskWith_104 rfl rfl ?_
          refine x_rate 107 dC_riskWith_106 rfl (by assumption) ?_
          refine x_i2l 108 dC_riskWith_107 rfl ?_
          refine x_iload 110 dC_riskWith_108 rfl rfl ?_
          refine x_mabs 113 kC_201 dC_riskWith_110 rfl (by decide) (Nat.le_of_ble_eq_true rfl) ?_
          refine x_iload 115 dC_riskWith_113 rfl rfl ?_
          refine x_mabs 118 kC_201 dC_riskWith_115 rfl (by decide) (Nat.le_of_ble_eq_true rfl) ?_
          refine x_mmax 121 kC_204 dC_riskWith_118 rfl (by decide) (Nat.le_of_ble_eq_true rfl) ?_
          refine x_i2l 122 dC_riskWith_121 rfl ?_
          refine x_lmul 123 dC_riskWith_122 rfl ?_
          refine x_ladd 124 dC_riskWith_123 rfl ?_
          refine x_lstore 126 dC_riskWith_124 rfl (by decide) rfl ?_
          refine x_iinc 129 dC_riskWith_126 rfl rfl (by decide) rfl ?_
          refine x_goto 6 dC_riskWith_129 (by decide) ?_
          exact ih _ _ _ _ _ (by rw [i_inc (by omega) (by omega)]; omega) (by rw [i_inc (by omega) (by omega)]; omega) (by first | (simp only [rkF, rk1, if_neg h67, if_pos h84, if_pos h89]; done) | contradiction)
    · skip
      refine x_iload_n 71 dC_riskWith_70 rfl rfl ?_
      refine x_if_ne 81 74 dC_riskWith_71 (by decide) rfl (fun h71 => ?_) (fun h71 => ?_)
      · skip
        refine x_iload 83 dC_riskWith_81 rfl rfl ?_
        refine x_iload_n 84 dC_riskWith_83 rfl rfl ?_
        refine x_icmp_ne 99 87 dC_riskWith_84 (by decide) rfl (fun h84 => ?_) (fun h84 => ?_)
        · skip
          refine x_lload 101 dC_riskWith_99 rfl rfl ?_
          refine x_gets 104 sC_riskWith_198 dC_riskWith_101 rfl ?_
          refine x_iload 106 dC_riskWith_104 rfl rfl ?_
          refine x_rate 107 dC_riskWith_106 rfl (by assumption) ?_
          refine x_i2l 108 dC_riskWith_107 rfl ?_
          refine x_iload 110 dC_riskWith_108 rfl rfl ?_
          refine x_mabs 113 kC_201 dC_riskWith_110 rfl (by decide) (Nat.le_of_ble_eq_true rfl) ?_
          refine x_iload 115 dC_riskWith_113 rfl rfl ?_
          refine x_mabs 118 kC_201 dC_riskWith_115 rfl (by decide) (Nat.le_of_ble_eq_true rfl) ?_
          refine x_mmax 121 kC_204 dC_riskWith_118 rfl (by decide) (Nat.le_of_ble_eq_true rfl) ?_
          refine x_i2l 122 dC_riskWith_121 rfl ?_
          refine x_lmul 123 dC_riskWith_122 rfl ?_
          refine x_ladd 124 dC_riskWith_123 rfl ?_
          refine x_lstore 126 dC_riskWith_124 rfl (by decide) rfl ?_
          refine x_iinc 129 dC_riskWith_126 rfl rfl (by decide) rfl ?_
          refine x_goto 6 dC_riskWith_129 (by decide) ?_
          exact ih _ _ _ _ _ (by rw [i_inc (by omega) (by omega)]; omega) (by rw [i_inc (by omega) (by omega)]; omega) (by first | (simp only [rkF, rk1, if_pos h67, if_neg h71, if_neg h84]; done) | contradiction)
        · skip
          refine x_iload_n 88 dC_riskWith_87 rfl rfl ?_
          refine x_iconst 1 89 dC_riskWith_88 rfl rfl ?_
          refine x_icmp_ne 99 92 dC_riskWith_89 (by decide) rfl (fun h89 => ?_) (fun h89 => ?_)
          · skip
            refine x_lload 101 dC_riskWith_99 rfl rfl ?_
            refine x_gets 104 sC_riskWith_198 dC_riskWith_101 rfl ?_
            refine x_iload 106 dC_riskWith_104 rfl rfl ?_
            refine x_rate 107 dC_riskWith_106 rfl (by assumption) ?_
            refine x_i2l 108 dC_riskWith_107 rfl ?_
            refine x_iload 110 dC_riskWith_108 rfl rfl ?_
            refine x_mabs 113 kC_201 dC_riskWith_110 rfl (by decide) (Nat.le_of_ble_eq_true rfl) ?_
            refine x_iload 115 dC_riskWith_113 rfl rfl ?_
            refine x_mabs 118 kC_201 dC_riskWith_115 rfl (by decide) (Nat.le_of_ble_eq_true rfl) ?_
            refine x_mmax 121 kC_204 dC_riskWith_118 rfl (by decide) (Nat.le_of_ble_eq_true rfl) ?_
            refine x_i2l 122 dC_riskWith_121 rfl ?_
            refine x_lmul 123 dC_riskWith_122 rfl ?_
            refine x_ladd 124 dC_riskWith_123 rfl ?_
            refine x_lstore 126 dC_riskWith_124 rfl (by decide) rfl ?_
            refine x_iinc 129 dC_riskWith_126 rfl rfl (by decide) rfl ?_
            refine x_goto 6 dC_riskWith_129 (by decide) ?_
            exact ih _ _ _ _ _ (by rw [i_inc (by omega) (by omega)]; omega) (by rw [i_inc (by omega) (by omega)]; omega) (by first | (simp only [rkF, rk1, if_pos h67, if_neg h71, if_pos h84, if_neg h89]; done) | contradiction)
          · skip
            refine x_iload 94 dC_riskWith_92 rfl rfl ?_
            refine x_iload 96 dC_riskWith_94 rfl rfl ?_
            refine x_isub 97 dC_riskWith_96 rfl ?_
            refine x_istore 99 dC_riskWith_97 rfl (by decide) rfl ?_
            refine x_lload 101 dC_riskWith_99 rfl rfl ?_
            refine x_gets 104 sC_riskWith_198 dC_riskWith_101 rfl ?_
            refine x_iload 106 dC_riskWith_104 rfl rfl ?_
            refine x_rate 107 dC_riskWith_106 rfl (by assumption) ?_
            refine x_i2l 108 dC_riskWith_107 rfl ?_
            refine x_iload 110 dC_riskWith_108 rfl rfl ?_
            refine x_mabs 113 kC_201 dC_riskWith_110 rfl (by decide) (Nat.le_of_ble_eq_true rfl) ?_
            refine x_iload 115 dC_riskWith_113 rfl rfl ?_
            refine x_mabs 118 kC_201 dC_riskWith_115 rfl (by decide) (Nat.le_of_ble_eq_true rfl) ?_
            refine x_mmax 121 kC_204 dC_riskWith_118 rfl (by decide) (Nat.le_of_ble_eq_true rfl) ?_
            refine x_i2l 122 dC_riskWith_121 rfl ?_
            refine x_lmul 123 dC_riskWith_122 rfl ?_
            refine x_ladd 124 dC_riskWith_123 rfl ?_
            refine x_lstore 126 dC_riskWith_124 rfl (by decide) rfl ?_
            refine x_iinc 129 dC_riskWith_126 rfl rfl (by decide) rfl ?_
            refine x_goto 6 dC_riskWith_129 (by decide) ?_
            exact ih _ _ _ _ _ (by rw [i_inc (by omega) (by omega)]; omega) (by rw [i_inc (by omega) (by omega)]; omega) (by first | (simp only [rkF, rk1, if_pos h67, if_neg h71, if_pos h84, if_pos h89]; done) | contradiction)
      · skip
        refine x_iload 76 dC_riskWith_74 rfl rfl ?_
        refine x_iload 78 dC_riskWith_76 rfl rfl ?_
        refine x_iadd 79 dC_riskWith_78 rfl ?_
        refine x_istore 81 dC_riskWith_79 rfl (by decide) rfl ?_
        refine x_iload 83 dC_riskWith_81 rfl rfl ?_
        refine x_iload_n 84 dC_riskWith_83 rfl rfl ?_
        refine x_icmp_ne 99 87 dC_riskWith_84 (by decide) rfl (fun h84 => ?_) (fun h84 => ?_)
        · skip
          refine x_lload 101 dC_riskWith_99 rfl rfl ?_
          refine x_gets 104 sC_riskWith_198 dC_riskWith_101 rfl ?_
          refine x_iload 106 dC_riskWith_104 rfl rfl ?_
          refine x_rate 107 dC_riskWith_106 rfl (by assumption) ?_
          refine x_i2l 108 dC_riskWith_107 rfl ?_
          refine x_iload 110 dC_riskWith_108 rfl rfl ?_
          refine x_mabs 113 kC_201 dC_riskWith_110 rfl (by decide) (Nat.le_of_ble_eq_true rfl) ?_
          refine x_iload 115 dC_riskWith_113 rfl rfl ?_
          refine x_mabs 118 kC_201 dC_riskWith_115 rfl (by decide) (Nat.le_of_ble_eq_true rfl) ?_
          refine x_mmax 121 kC_204 dC_riskWith_118 rfl (by decide) (Nat.le_of_ble_eq_true rfl) ?_
          refine x_i2l 122 dC_riskWith_121 rfl ?_
          refine x_lmul 123 dC_riskWith_122 rfl ?_
          refine x_ladd 124 dC_riskWith_123 rfl ?_
          refine x_lstore 126 dC_riskWith_124 rfl (by decide) rfl ?_
          refine x_iinc 129 dC_riskWith_126 rfl rfl (by decide) rfl ?_
          refine x_goto 6 dC_riskWith_129 (by decide) ?_
          exact ih _ _ _ _ _ (by rw [i_inc (by omega) (by omega)]; omega) (by rw [i_inc (by omega) (by omega)]; omega) (by first | (simp only [rkF, rk1, if_pos h67, if_pos h71, if_neg h84]; done) | contradiction)
        · skip
          refine x_iload_n 88 dC_riskWith_87 rfl rfl ?_
          refine x_iconst 1 89 dC_riskWith_88 rfl rfl ?_
          refine x_icmp_ne 99 92 dC_riskWith_89 (by decide) rfl (fun h89 => ?_) (fun h89 => ?_)
          · skip
            refine x_lload 101 dC_riskWith_99 rfl rfl ?_
            refine x_gets 104 sC_riskWith_198 dC_riskWith_101 rfl ?_
            refine x_iload 106 dC_riskWith_104 rfl rfl ?_
            refine x_rate 107 dC_riskWith_106 rfl (by assumption) ?_
            refine x_i2l 108 dC_riskWith_107 rfl ?_
            refine x_iload 110 dC_riskWith_108 rfl rfl ?_
            refine x_mabs 113 kC_201 dC_riskWith_110 rfl (by decide) (Nat.le_of_ble_eq_true rfl) ?_
            refine x_iload 115 dC_riskWith_113 rfl rfl ?_
            refine x_mabs 118 kC_201 dC_riskWith_115 rfl (by decide) (Nat.le_of_ble_eq_true rfl) ?_
            refine x_mmax 121 kC_204 dC_riskWith_118 rfl (by decide) (Nat.le_of_ble_eq_true rfl) ?_
            refine x_i2l 122 dC_riskWith_121 rfl ?_
            refine x_lmul 123 dC_riskWith_122 rfl ?_
            refine x_ladd 124 dC_riskWith_123 rfl ?_
            refine x_lstore 126 dC_riskWith_124 rfl (by decide) rfl ?_
            refine x_iinc 129 dC_riskWith_126 rfl rfl (by decide) rfl ?_
            refine x_goto 6 dC_riskWith_129 (by decide) ?_
            exact ih _ _ _ _ _ (by rw [i_inc (by omega) (by omega)]; omega) (by rw [i_inc (by omega) (by omega)]; omega) (by first | (simp only [rkF, rk1, if_pos h67, if_pos h71, if_pos h84, if_neg h89]; done) | contradiction)
          · skip
            refine x_iload 94 dC_riskWith_92 rfl rfl ?_
            refine x_iload 96 dC_riskWith_94 rfl rfl ?_
            refine x_isub 97 dC_riskWith_96 rfl ?_
            refine x_istore 99 dC_riskWith_97 rfl (by decide) rfl ?_
            refine x_lload 101 dC_riskWith_99 rfl rfl ?_
            refine x_gets 104 sC_riskWith_198 dC_riskWith_101 rfl ?_
            refine x_iload 106 dC_riskWith_104 rfl rfl ?_
            refine x_rate 107 dC_riskWith_106 rfl (by assumption) ?_
            refine x_i2l 108 dC_riskWith_107 rfl ?_
            refine x_iload 110 dC_riskWith_108 rfl rfl ?_
            refine x_mabs 113 kC_201 dC_riskWith_110 rfl (by decide) (Nat.le_of_ble_eq_true rfl) ?_
            refine x_iload 115 dC_riskWith_113 rfl rfl ?_
            refine x_mabs 118 kC_201 dC_riskWith_115 rfl (by decide) (Nat.le_of_ble_eq_true rfl) ?_
            refine x_mmax 121 kC_204 dC_riskWith_118 rfl (by decide) (Nat.le_of_ble_eq_true rfl) ?_
            refine x_i2l 122 dC_riskWith_121 rfl ?_
            refine x_lmul 123 dC_riskWith_122 rfl ?_
            refine x_ladd 124 dC_riskWith_123 rfl ?_
            refine x_lstore 126 dC_riskWith_124 rfl (by decide) rfl ?_
            refine x_iinc 129 dC_riskWith_126 rfl rfl (by decide) rfl ?_
            refine x_goto 6 dC_riskWith_129 (by decide) ?_
            exact ih _ _ _ _ _ (by rw [i_inc (by omega) (by omega)]; omega) (by rw [i_inc (by omega) (by omega)]; omega) (by first | (simp only [rkF, rk1, if_pos h67, if_pos h71, if_pos h84, if_pos h89]; done) | contradiction)
theorem cC_riskWith {m : Int32} (hm : vp_in m 5) {ls : Nat → List Nat} (hc : ∀ j < 4, Ch P (P 1 j) (ls j)) (hl : ∀ j < 4, ∀ o ∈ ls j, o < N) (i s q : Int32) : x_C l G mC_riskWith 1 0 0 [xR (some (5, 0)), xI m, xI i, xI s, xI q] (hp N I J P V A B) [] (x_is (some (xJ (rsk I V ls m i s q))) (hp N I J P V A B)) := by
  refine x_C.at [some (xR (some (5, 0))), some (xI m), some (xI i), some (xI s), some (xI q), none, none, none, none, none, none] rfl (Nat.le_of_ble_eq_true rfl) rfl ?_
  refine x_lconst 0 1 dC_riskWith_0 rfl rfl ?_
  refine x_lstore 3 dC_riskWith_1 rfl (by decide) rfl ?_
  refine x_iconst 0 4 dC_riskWith_3 rfl rfl ?_
  refine x_istore 6 dC_riskWith_4 rfl (by decide) rfl ?_
  exact lp_risk hm hc hl i s q _ 2 0 0 _ _ _ (by decide) (by decide) rfl
theorem cC_riskOf {m : Int32} (hm : vp_in m 5) {ls : Nat → List Nat} (hc : ∀ j < 4, Ch P (P 1 j) (ls j)) (hl : ∀ j < 4, ∀ o ∈ ls j, o < N) : x_C l G mC_riskOf 2 0 0 [xR (some (5, 0)), xI m] (hp N I J P V A B) [] (x_is (some (xJ (rsk I V ls m 0 0 0))) (hp N I J P V A B)) := by
  refine x_C.at [some (xR (some (5, 0))), some (xI m)] rfl (Nat.le_of_ble_eq_true rfl) rfl ?_
  refine x_aload_n 1 dC_riskOf_0 rfl rfl ?_
  refine x_iload_n 2 dC_riskOf_1 rfl rfl ?_
  refine x_iconst 0 3 dC_riskOf_2 rfl rfl ?_
  refine x_iconst 0 4 dC_riskOf_3 rfl rfl ?_
  refine x_iconst 0 5 dC_riskOf_4 rfl rfl ?_
  refine x_fVv 8 (cC_riskWith hm hc hl 0 0 0) kC_81 oC_riskWith rfl rfl dC_riskOf_5 rfl rfl (by decide) (Nat.le_of_ble_eq_true rfl) ?_
  exact x_lret dC_riskOf_8 rfl ⟨rfl, rfl⟩
end M5
end
section
/-! the four chains, and what leaving and joining do to them -/
def QS (N : Nat) (P : Nat → Nat → Option xQ) (ls : Nat → List Nat) : Prop := (∀ j < 4, Ch P (P 1 j) (ls j)) ∧ (∀ j < 4, ∀ o ∈ ls j, o < N) ∧ (∀ j < 4, (ls j).Nodup) ∧ ∀ i < 4, ∀ j < 4, i ≠ j → ∀ o ∈ ls i, o ∉ ls j
def ptr (P : Nat → Nat → Option xQ) (j : Nat) (b : Option Nat) : Option xQ := match b with
  | none => P 1 j
  | some k => P 0 k
theorem Ch.re {P P' : Nat → Nat → Option xQ} : ∀ {c : List Nat} {q : Option xQ}, (∀ o ∈ c, P' 0 o = P 0 o) → Ch P q c → Ch P' q c
  | [], _, _, h => h
  | o :: c, q, he, h => ⟨h.1, by rw [he o List.mem_cons_self]; exact Ch.re (fun x hx => he x (List.mem_cons_of_mem _ hx)) h.2⟩
theorem sp_ne {P : Nat → Nat → Option xQ} {c k : Nat} {v : Option xQ} {c' k' : Nat} (h : ¬ (c' = c ∧ k' = k)) : sp P c k v c' k' = P c' k' := by
  unfold sp
  by_cases hc : c' = c
  · subst hc
    rw [if_pos rfl, x_uf_ne _ _ (fun q => h ⟨rfl, q⟩)]
  · rw [if_neg hc]
theorem sp_eq {P : Nat → Nat → Option xQ} {c k : Nat} {v : Option xQ} : sp P c k v c k = v := by
  unfold sp
  rw [if_pos rfl, x_uf_self]
theorem lnk_ptr (P : Nat → Nat → Option xQ) (j : Nat) (b : Option Nat) (r : Option xQ) : ptr (lnk P j b r) j b = r := by
  cases b with
  | none => show sp P 1 j r 1 j = r; exact sp_eq
  | some k => show sp P 0 k r 0 k = r; exact sp_eq
theorem lnk_0 {P : Nat → Nat → Option xQ} {j : Nat} {b : Option Nat} {r : Option xQ} {x : Nat} (h : b ≠ some x) : lnk P j b r 0 x = P 0 x := by
  cases b with
  | none => exact sp_ne (fun q => by cases q.1)
  | some k => exact sp_ne (fun q => h (by rw [q.2]))
theorem lnk_1 {P : Nat → Nat → Option xQ} {j : Nat} {b : Option Nat} {r : Option xQ} {x : Nat} (h : x ≠ j ∨ b ≠ none) : lnk P j b r 1 x = P 1 x := by
  cases b with
  | none => exact sp_ne (fun q => by rcases h with h | h; exact h q.2; exact h rfl)
  | some k => exact sp_ne (fun q => by cases q.1)
theorem lnk_2 {P : Nat → Nat → Option xQ} {j : Nat} {b : Option Nat} {r : Option xQ} : lnk P j b r 2 = P 2 := by
  cases b <;> rfl
/-- leaving: what the pointer of b holds, who else is touched -/
theorem lvP_ok {P : Nat → Nat → Option xQ} {j o : Nat} : ∀ (c : List Nat) (b : Option Nat), Ch P (ptr P j b) c → c.Nodup → (∀ x ∈ c, b ≠ some x) →
    Ch (lvP P j o b c) (ptr (lvP P j o b c) j b) (c.erase o) ∧ (∀ x, x ∉ c → b ≠ some x → lvP P j o b c 0 x = P 0 x) ∧ (∀ x, x ≠ j ∨ b ≠ none → lvP P j o b c 1 x = P 1 x) ∧ lvP P j o b c 2 = P 2
  | [], b, hc, _, _ => ⟨hc, fun _ _ _ => rfl, fun _ _ => rfl, rfl⟩
  | a :: c, b, hc, hn, hb => by
    obtain ⟨hq, hc⟩ := hc
    have hna : a ∉ c := (List.nodup_cons.mp hn).1
    have hnc : c.Nodup := (List.nodup_cons.mp hn).2
    have hba : b ≠ some a := hb a List.mem_cons_self
    unfold lvP
    by_cases ha : a = o
    · subst ha
      rw [if_pos rfl, List.erase_cons_head]
      have e0 : ∀ x, x ≠ a → b ≠ some x → sp (lnk P j b (P 0 a)) 0 a none 0 x = P 0 x := fun x hx hbx => by
        rw [sp_ne (fun q => hx q.2), lnk_0 hbx]
      refine ⟨?_, fun x hx hbx => e0 x (fun q => hx (by rw [q]; exact List.mem_cons_self)) hbx, fun x hx => ?_, ?_⟩
      · have hp1 : ptr (sp (lnk P j b (P 0 a)) 0 a none) j b = P 0 a := by
          have := lnk_ptr P j b (P 0 a)
          cases b with
          | none => exact this
          | some k =>
            show sp (lnk P j (some k) (P 0 a)) 0 a none 0 k = P 0 a
            rw [sp_ne (fun q => hba (by rw [q.2]))]
            exact this
        rw [hp1]
        exact Ch.re (fun x hx => e0 x (fun q => hna (by rw [← q]; exact hx)) (hb x (List.mem_cons_of_mem _ hx))) hc
      · rw [sp_ne (fun q => by cases q.1), lnk_1 hx]
      · show lnk P j b (P 0 a) 2 = P 2
        exact lnk_2
    · rw [if_neg ha]
      obtain ⟨i1, i2, i3, i4⟩ := lvP_ok (P := P) (j := j) (o := o) c (some a) hc hnc (fun x hx q => hna (by cases q; exact hx))
      have hpt : ptr (lvP P j o (some a) c) j b = some (0, a) := by
        cases b with
        | none => rw [← hq]; exact i3 j (Or.inr (fun q => by cases q))
        | some k =>
          rw [← hq]
          exact i2 k (fun hk => hb k (List.mem_cons_of_mem _ hk) rfl) (fun q => hba (by cases q; rfl))
      refine ⟨?_, fun x hx hbx => i2 x (fun q => hx (List.mem_cons_of_mem _ q)) (fun q => hx (by cases q; exact List.mem_cons_self)), fun x _ => i3 x (Or.inr (fun q => by cases q)), i4⟩
      rw [List.erase_cons_tail (by simpa using ha)]
      exact ⟨hpt, i1⟩
theorem x_ufs {α : Type} (f : Nat → α) (j : Nat) (v : α) : x_uf f j v j = v := x_uf_self f j v
def lvL (ls : Nat → List Nat) (j o : Nat) : Nat → List Nat := x_uf ls j ((ls j).erase o)
theorem lvL_sub {ls : Nat → List Nat} {j o i x : Nat} (h : x ∈ lvL ls j o i) : x ∈ ls i := by
  unfold lvL at h
  by_cases hi : i = j
  · subst hi
    rw [x_uf_self] at h
    exact List.mem_of_mem_erase h
  · rw [x_uf_ne _ _ hi] at h
    exact h
theorem QS.leave {N : Nat} {P : Nat → Nat → Option xQ} {ls : Nat → List Nat} (h : QS N P ls) {j o : Nat} (hj : j < 4) : QS N (lvP P j o none (ls j)) (lvL ls j o) ∧ lvP P j o none (ls j) 2 = P 2 := by
  obtain ⟨h1, h2, h3, h4⟩ := h
  obtain ⟨i1, i2, i3, i4⟩ := lvP_ok (o := o) (ls j) none (h1 j hj) (h3 j hj) (fun x _ q => by cases q)
  refine ⟨⟨fun i hi => ?_, fun i hi x hx => h2 i hi x (lvL_sub hx), fun i hi => ?_, fun i hi k hk hik x hx => fun q => h4 i hi k hk hik x (lvL_sub hx) (lvL_sub q)⟩, i4⟩
  · by_cases hij : i = j
    · subst hij
      unfold lvL
      rw [x_uf_self]
      exact i1
    · unfold lvL
      rw [x_uf_ne _ _ hij, i3 i (Or.inl hij)]
      exact Ch.re (fun x hx => i2 x (h4 i hi j hj hij x hx) (fun q => by cases q)) (h1 i hi)
  · unfold lvL
    by_cases hij : i = j
    · subst hij
      rw [x_uf_self]
      exact (h3 i hi).erase o
    · rw [x_uf_ne _ _ hij]
      exact h3 i hi
/-- joining -/
def ins (I : Nat → Nat → Int32) (o : Nat) : List Nat → List Nat
  | [] => [o]
  | a :: c => if btr I o a then o :: a :: c else a :: ins I o c
theorem mem_ins {I : Nat → Nat → Int32} {o x : Nat} : ∀ {c : List Nat}, x ∈ ins I o c ↔ x = o ∨ x ∈ c
  | [] => by simp [ins]
  | a :: c => by
    unfold ins
    split
    · simp
    · rw [List.mem_cons, mem_ins, List.mem_cons]
      constructor
      · rintro (h | h | h)
        · exact Or.inr (Or.inl h)
        · exact Or.inl h
        · exact Or.inr (Or.inr h)
      · rintro (h | h | h)
        · exact Or.inr (Or.inl h)
        · exact Or.inl h
        · exact Or.inr (Or.inr h)
theorem nodup_ins {I : Nat → Nat → Int32} {o : Nat} : ∀ {c : List Nat}, c.Nodup → o ∉ c → (ins I o c).Nodup
  | [], _, _ => by simp [ins]
  | a :: c, hn, ho => by
    unfold ins
    split
    · exact List.nodup_cons.mpr ⟨ho, hn⟩
    · have h1 := List.nodup_cons.mp hn
      refine List.nodup_cons.mpr ⟨fun q => ?_, nodup_ins h1.2 (fun q => ho (List.mem_cons_of_mem _ q))⟩
      rcases mem_ins.mp q with q | q
      · exact ho (by rw [← q]; exact List.mem_cons_self)
      · exact h1.1 q
theorem jnP_ok {I : Nat → Nat → Int32} {P : Nat → Nat → Option xQ} {j o : Nat} : ∀ (c : List Nat) (b : Option Nat), Ch P (ptr P j b) c → o ∉ c → b ≠ some o → c.Nodup → (∀ x ∈ c, b ≠ some x) →
    Ch (jnP I P j o b c) (ptr (jnP I P j o b c) j b) (ins I o c) ∧ (∀ x, x ∉ c → x ≠ o → b ≠ some x → jnP I P j o b c 0 x = P 0 x) ∧ (∀ x, x ≠ j ∨ b ≠ none → jnP I P j o b c 1 x = P 1 x) ∧ jnP I P j o b c 2 = P 2
  | [], b, _, _, hbo, _, _ => by
    unfold jnP ins
    refine ⟨?_, fun x _ hx hb => ?_, fun x hx => ?_, ?_⟩
    · rw [lnk_ptr]
      refine ⟨rfl, ?_⟩
      show lnk (sp P 0 o none) j b (some (0, o)) 0 o = none
      rw [lnk_0 hbo, sp_eq]
    · rw [lnk_0 hb, sp_ne (fun q => hx q.2)]
    · rw [lnk_1 hx, sp_ne (fun q => by cases q.1)]
    · rw [lnk_2]; rfl
  | a :: c, b, hc, ho, hbo, hn, hb => by
    obtain ⟨hq, hc⟩ := hc
    have hna : a ∉ c := (List.nodup_cons.mp hn).1
    have hnc : c.Nodup := (List.nodup_cons.mp hn).2
    have hba : b ≠ some a := hb a List.mem_cons_self
    have hao : a ≠ o := fun q => ho (by rw [q]; exact List.mem_cons_self)
    unfold jnP ins
    by_cases ht : btr I o a
    · rw [if_pos ht, if_pos ht]
      have e0 : ∀ x, x ≠ o → b ≠ some x → lnk (sp P 0 o (some (0, a))) j b (some (0, o)) 0 x = P 0 x := fun x hx hb => by
        rw [lnk_0 hb, sp_ne (fun q => hx q.2)]
      refine ⟨?_, fun x _ hx hb => e0 x hx hb, fun x hx => ?_, ?_⟩
      · rw [lnk_ptr]
        refine ⟨rfl, ?_, ?_⟩
        · rw [lnk_0 hbo, sp_eq]
        · rw [e0 a hao hba]
          exact Ch.re (fun x hx => e0 x (fun q => ho (by rw [← q]; exact List.mem_cons_of_mem _ hx)) (hb x (List.mem_cons_of_mem _ hx))) hc
      · rw [lnk_1 hx, sp_ne (fun q => by cases q.1)]
      · rw [lnk_2]; rfl
    · rw [if_neg ht, if_neg ht]
      obtain ⟨i1, i2, i3, i4⟩ := jnP_ok (I := I) (P := P) (j := j) (o := o) c (some a) hc (fun q => ho (List.mem_cons_of_mem _ q)) (fun q => hao (by cases q; rfl)) hnc (fun x hx q => hna (by cases q; exact hx))
      have hpt : ptr (jnP I P j o (some a) c) j b = some (0, a) := by
        cases b with
        | none => rw [← hq]; exact i3 j (Or.inr (fun q => by cases q))
        | some k =>
          rw [← hq]
          exact i2 k (fun hk => hb k (List.mem_cons_of_mem _ hk) rfl) (fun q => hbo (by rw [q])) (fun q => hba (by cases q; rfl))
      exact ⟨⟨hpt, i1⟩, fun x hx hxo hbx => i2 x (fun q => hx (List.mem_cons_of_mem _ q)) hxo (fun q => hx (by cases q; exact List.mem_cons_self)), fun x _ => i3 x (Or.inr (fun q => by cases q)), i4⟩
def jnL (I : Nat → Nat → Int32) (ls : Nat → List Nat) (j o : Nat) : Nat → List Nat := x_uf ls j (ins I o (ls j))
theorem mem_jnL {I : Nat → Nat → Int32} {ls : Nat → List Nat} {j o i x : Nat} (h : x ∈ jnL I ls j o i) : x ∈ ls i ∨ (i = j ∧ x = o) := by
  unfold jnL at h
  by_cases hi : i = j
  · subst hi
    rw [x_uf_self] at h
    rcases mem_ins.mp h with h | h
    · exact Or.inr ⟨rfl, h⟩
    · exact Or.inl h
  · rw [x_uf_ne _ _ hi] at h
    exact Or.inl h
theorem QS.join {N : Nat} {I : Nat → Nat → Int32} {P : Nat → Nat → Option xQ} {ls : Nat → List Nat} (h : QS N P ls) {j o : Nat} (hj : j < 4) (ho : o < N) (hno : ∀ i < 4, o ∉ ls i) : QS N (jnP I P j o none (ls j)) (jnL I ls j o) ∧ jnP I P j o none (ls j) 2 = P 2 := by
  obtain ⟨h1, h2, h3, h4⟩ := h
  obtain ⟨i1, i2, i3, i4⟩ := jnP_ok (I := I) (o := o) (ls j) none (h1 j hj) (hno j hj) (fun q => by cases q) (h3 j hj) (fun x _ q => by cases q)
  refine ⟨⟨fun i hi => ?_, fun i hi x hx => ?_, fun i hi => ?_, fun i hi k hk hik x hx q => ?_⟩, i4⟩
  · unfold jnL
    by_cases hij : i = j
    · subst hij
      rw [x_uf_self]
      exact i1
    · rw [x_uf_ne _ _ hij, i3 i (Or.inl hij)]
      exact Ch.re (fun x hx => i2 x (h4 i hi j hj hij x hx) (fun q => hno i hi (by rw [← q]; exact hx)) (fun q => by cases q)) (h1 i hi)
  · rcases mem_jnL hx with hx | hx
    · exact h2 i hi x hx
    · rw [hx.2]; exact ho
  · unfold jnL
    by_cases hij : i = j
    · subst hij
      rw [x_uf_self]
      exact nodup_ins (h3 i hi) (hno i hi)
    · rw [x_uf_ne _ _ hij]
      exact h3 i hi
  · rcases mem_jnL hx with hx | hx
    · rcases mem_jnL q with q | q
      · exact h4 i hi k hk hik x hx q
      · rw [q.2] at hx; exact hno i hi hx
    · rcases mem_jnL q with q | q
      · rw [hx.2] at q; exact hno k hk q
      · exact hik (hx.1.trans q.1.symm)
/-- references stay within the orders -/
def RG (N : Nat) (P : Nat → Nat → Option xQ) : Prop := ∀ (c k : Nat) (a : xQ), c < 2 → P c k = some a → a.1 = 0 ∧ a.2 < N
def PP (N : Nat) (P : Nat → Nat → Option xQ) : Prop := (∀ k, k < N → P 2 k = some (0, k)) ∧ (∀ k, N ≤ k → P 2 k = none) ∧ RG N P
theorem RG.sp {N : Nat} {P : Nat → Nat → Option xQ} (h : RG N P) {c k : Nat} {v : Option xQ} (hv : ∀ a, v = some a → a.1 = 0 ∧ a.2 < N) : RG N (sp P c k v) := by
  intro c' k' a hc ha
  by_cases hk : c' = c ∧ k' = k
  · obtain ⟨rfl, rfl⟩ := hk
    rw [sp_eq] at ha
    exact hv a ha
  · rw [sp_ne hk] at ha
    exact h c' k' a hc ha
theorem RG.lnk {N : Nat} {P : Nat → Nat → Option xQ} (h : RG N P) {j : Nat} {b : Option Nat} {v : Option xQ} (hv : ∀ a, v = some a → a.1 = 0 ∧ a.2 < N) : RG N (lnk P j b v) := by
  cases b with
  | none => exact h.sp hv
  | some k => exact h.sp hv
theorem RG.lv {N : Nat} {P : Nat → Nat → Option xQ} (h : RG N P) {j o : Nat} : ∀ (c : List Nat) (b : Option Nat), RG N (lvP P j o b c)
  | [], _ => h
  | a :: c, b => by
    unfold lvP
    split
    · exact (h.lnk (fun x hx => h 0 a x (by decide) hx)).sp (fun x hx => by cases hx)
    · exact h.lv c (some a)
theorem RG.jn {N : Nat} {I : Nat → Nat → Int32} {P : Nat → Nat → Option xQ} (h : RG N P) {j o : Nat} (ho : o < N) : ∀ (c : List Nat) (b : Option Nat), (∀ x ∈ c, x < N) → RG N (jnP I P j o b c)
  | [], b, _ => by
    unfold jnP
    exact (h.sp (fun x hx => by cases hx)).lnk (fun x hx => by cases hx; exact ⟨rfl, ho⟩)
  | a :: c, b, hl => by
    unfold jnP
    split
    · exact (h.sp (fun x hx => by cases hx; exact ⟨rfl, hl a List.mem_cons_self⟩)).lnk (fun x hx => by cases hx; exact ⟨rfl, ho⟩)
    · exact h.jn ho c (some a) (fun x hx => hl x (List.mem_cons_of_mem _ hx))
theorem PP.leave {N : Nat} {P : Nat → Nat → Option xQ} {ls : Nat → List Nat} (q : PP N P) (h : QS N P ls) {j o : Nat} (hj : j < 4) : PP N (lvP P j o none (ls j)) := by
  refine ⟨fun k hk => ?_, fun k hk => ?_, q.2.2.lv _ _⟩
  · rw [(h.leave hj).2]; exact q.1 k hk
  · rw [(h.leave hj).2]; exact q.2.1 k hk
theorem PP.join {N : Nat} {I : Nat → Nat → Int32} {P : Nat → Nat → Option xQ} {ls : Nat → List Nat} (q : PP N P) (h : QS N P ls) {j o : Nat} (hj : j < 4) (ho : o < N) (hno : ∀ i < 4, o ∉ ls i) : PP N (jnP I P j o none (ls j)) := by
  refine ⟨fun k hk => ?_, fun k hk => ?_, q.2.2.jn ho _ _ (h.2.1 j hj)⟩
  · rw [(h.join hj ho hno).2]; exact q.1 k hk
  · rw [(h.join hj ho hno).2]; exact q.2.1 k hk
theorem QS.clear {N : Nat} {P : Nat → Nat → Option xQ} {ls : Nat → List Nat} (h : QS N P ls) (j : Nat) : QS N (sp P 1 j none) (x_uf ls j []) := by
  obtain ⟨h1, h2, h3, h4⟩ := h
  have hs : ∀ i x, x ∈ x_uf ls j [] i → x ∈ ls i := fun i x hx => by
    by_cases hij : i = j
    · subst hij; rw [x_uf_self] at hx; cases hx
    · rwa [x_uf_ne _ _ hij] at hx
  refine ⟨fun i hi => ?_, fun i hi x hx => h2 i hi x (hs i x hx), fun i hi => ?_, fun i hi k hk hik x hx q => h4 i hi k hk hik x (hs i x hx) (hs k x q)⟩
  · by_cases hij : i = j
    · subst hij
      rw [x_uf_self, sp_eq]
      rfl
    · rw [x_uf_ne _ _ hij, sp_ne (fun q => hij q.2)]
      exact Ch.re (fun x _ => sp_ne (fun q => by cases q.1)) (h1 i hi)
  · by_cases hij : i = j
    · subst hij; rw [x_uf_self]; exact List.nodup_nil
    · rw [x_uf_ne _ _ hij]; exact h3 i hi
theorem PP.clear {N : Nat} {P : Nat → Nat → Option xQ} (q : PP N P) (j : Nat) : PP N (sp P 1 j none) := ⟨q.1, q.2.1, q.2.2.sp (fun x hx => by cases hx)⟩
end
section
section M6
variable {l : Launch} {G : xG} {N : Nat} {I : Nat → Nat → Int32} {J : Nat → Nat → Int64} {P : Nat → Nat → Option xQ} {V : Nat → Nat → Int32} {A : Nat → Nat → Int32} {B : Nat → Nat → Int64}
variable {h : xH} {ls : Nat → List Nat}
abbrev cS : Type := (Nat → Nat → Int32) × (Nat → Nat → Int64) × (Nat → Nat → Int32) × (Nat → List Nat)
/-- the class's part of the heap is S -/
def HS (N : Nat) (S : cS) (A : Nat → Nat → Int32) (B : Nat → Nat → Int64) (h : xH) : Prop := ∃ P : Nat → Nat → Option xQ, h = hp N S.1 S.2.1 P S.2.2.1 A B ∧ QS N P S.2.2.2 ∧ PP N P
theorem HS.out (q : HS N (I, J, V, ls) A B h) : ∃ P : Nat → Nat → Option xQ, h = hp N I J P V A B ∧ QS N P ls ∧ PP N P := q
theorem trow_in {c : Int32} (h : 0 ≤ c.toInt) : (trow c).toInt = c.toInt % 100 * 4 ∧ vp_in (trow c) 400 ∧ vp_in (trow c + 1) 400 ∧ vp_in (trow c + 2) 400 ∧ vp_in (trow c + 3) 400 := by
  have c100 : (100 : Int32).toInt = 100 := by decide
  have hb := c.toInt_lt
  have e1 : (c / 100).toInt = c.toInt / 100 := by
    rw [Kit.i32_div (by rw [c100]; omega), c100, Int.tdiv_eq_ediv_of_nonneg h]
  have e2 : (c / 100 * 100).toInt = c.toInt / 100 * 100 := by
    rw [Kit.i32_mul (by rw [e1, c100]; omega) (by rw [e1, c100]; omega), e1, c100]
  have e3 : (c - c / 100 * 100).toInt = c.toInt % 100 := by
    rw [Kit.i32_sub (by rw [e2]; omega) (by rw [e2]; omega), e2]
    omega
  have e4 : (trow c).toInt = c.toInt % 100 * 4 := by
    unfold trow
    rw [Kit.i32_mul (by rw [e3, show (4 : Int32).toInt = 4 by decide]; omega) (by rw [e3, show (4 : Int32).toInt = 4 by decide]; omega), e3, show (4 : Int32).toInt = 4 by decide]
  have a1 : (trow c + 1).toInt = (trow c).toInt + 1 := by
    rw [Kit.i32_add (by rw [e4, show (1 : Int32).toInt = 1 by decide]; omega) (by rw [e4, show (1 : Int32).toInt = 1 by decide]; omega), show (1 : Int32).toInt = 1 by decide]
  have a2 : (trow c + 2).toInt = (trow c).toInt + 2 := by
    rw [Kit.i32_add (by rw [e4, show (2 : Int32).toInt = 2 by decide]; omega) (by rw [e4, show (2 : Int32).toInt = 2 by decide]; omega), show (2 : Int32).toInt = 2 by decide]
  have a3 : (trow c + 3).toInt = (trow c).toInt + 3 := by
    rw [Kit.i32_add (by rw [e4, show (3 : Int32).toInt = 3 by decide]; omega) (by rw [e4, show (3 : Int32).toInt = 3 by decide]; omega), show (3 : Int32).toInt = 3 by decide]
  exact ⟨e4, vp_of (by omega) (by omega), vp_of (by omega) (by omega), vp_of (by omega) (by omega), vp_of (by omega) (by omega)⟩
/-- an order's fixed fields are in their ranges -/
def OK1 (I : Nat → Nat → Int32) (k : Nat) : Prop := vp_in (I 1 k) 5 ∧ vp_in (I 2 k) 2 ∧ (I 3 k = 0 ∨ I 3 k = 1) ∧ 1 ≤ (I 5 k).toInt ∧ (I 5 k).toInt ≤ 63
def exI (I : Nat → Nat → Int32) (b s : Nat) (p a : Int32) : Nat → Nat → Int32 := twr (si (si (si I 6 b (I 6 b - a)) 6 s (si I 6 b (I 6 b - a) 6 s - a)) 11 (I 2 b).toNatClampNeg p) (I 0 b) (I 0 s) p a
def exV (I V : Nat → Nat → Int32) (b s : Nat) (a : Int32) : Nat → Nat → Int32 := si (si V (I 1 b).toNatClampNeg (I 2 b).toNatClampNeg (V (I 1 b).toNatClampNeg (I 2 b).toNatClampNeg + a)) (I 1 s).toNatClampNeg (I 2 s).toNatClampNeg (si V (I 1 b).toNatClampNeg (I 2 b).toNatClampNeg (V (I 1 b).toNatClampNeg (I 2 b).toNatClampNeg + a) (I 1 s).toNatClampNeg (I 2 s).toNatClampNeg + -a)
def exJ (I : Nat → Nat → Int32) (J : Nat → Nat → Int64) (b s : Nat) (p a : Int32) : Nat → Nat → Int64 := sj (sj J 1 (I 1 b).toNatClampNeg (J 1 (I 1 b).toNatClampNeg - a.toInt64 * p.toInt64)) 1 (I 1 s).toNatClampNeg (sj J 1 (I 1 b).toNatClampNeg (J 1 (I 1 b).toNatClampNeg - a.toInt64 * p.toInt64) 1 (I 1 s).toNatClampNeg - (-a).toInt64 * p.toInt64)
theorem cC_exchange {b s : Nat} (hb : b < N) (hs : s < N) (ob : OK1 I b) (os : OK1 I s) (hT : 0 ≤ (I 13 0).toInt) (p a : Int32) : x_C l G mC_exchange 1 0 0 [xR (some (5, 0)), xR (some (0, b)), xR (some (0, s)), xI p, xI a] (hp N I J P V A B) [] (x_is none (hp N (exI I b s p a) (exJ I J b s p a) P (exV I V b s a) A B)) := by
  refine x_C.at [some (xR (some (5, 0))), some (xR (some (0, b))), some (xR (some (0, s))), some (xI p), some (xI a)] rfl (Nat.le_of_ble_eq_true rfl) rfl ?_
  refine x_aload_n 1 dC_exchange_0 rfl rfl ?_
  refine x_dup 2 dC_exchange_1 rfl rfl ?_
  refine x_get _ 5 fC_107 dC_exchange_2 rfl (h_O (by assumption)) rfl ?_
  refine x_iload 7 dC_exchange_5 rfl rfl ?_
  refine x_isub 8 dC_exchange_7 rfl ?_
  refine y_O6 11 pC_exchange_107 dC_exchange_8 rfl (by assumption) ?_
  refine x_aload_n 12 dC_exchange_11 rfl rfl ?_
  refine x_dup 13 dC_exchange_12 rfl rfl ?_
  refine x_get _ 16 fC_107 dC_exchange_13 rfl (h_O (by assumption)) rfl ?_
  refine x_iload 18 dC_exchange_16 rfl rfl ?_
  refine x_isub 19 dC_exchange_18 rfl ?_
  refine y_O6 22 pC_exchange_107 dC_exchange_19 rfl (by assumption) ?_
  refine x_aload_n 23 dC_exchange_22 rfl rfl ?_
  refine x_get _ 26 fC_11 dC_exchange_23 rfl rfl rfl ?_
  refine x_aload_n 27 dC_exchange_26 rfl rfl ?_
  refine x_get _ 30 fC_185 dC_exchange_27 rfl (h_O (by assumption)) rfl ?_
  refine x_aald 31 rfl dC_exchange_30 rfl rfl ob.1 ?_
  refine x_aload_n 32 dC_exchange_31 rfl rfl ?_
  refine x_get _ 35 fC_160 dC_exchange_32 rfl (h_O (by assumption)) rfl ?_
  refine x_iload 37 dC_exchange_35 rfl rfl ?_
  refine x_iload_n 38 dC_exchange_37 rfl rfl ?_
  refine x_fVn 41 (cA_enter (vp_lt ob.1) ob.2.1 _ _) kC_240 oA_enter rfl (h_A (vp_lt ob.1)) dC_exchange_38 rfl rfl (by decide) (Nat.le_of_ble_eq_true rfl) ?_
  refine x_aload_n 42 dC_exchange_41 rfl rfl ?_
  refine x_get _ 45 fC_11 dC_exchange_42 rfl rfl rfl ?_
  refine x_aload_n 46 dC_exchange_45 rfl rfl ?_
  refine x_get _ 49 fC_185 dC_exchange_46 rfl (h_O (by assumption)) rfl ?_
  refine x_aald 50 rfl dC_exchange_49 rfl rfl os.1 ?_
  refine x_aload_n 51 dC_exchange_50 rfl rfl ?_
  refine x_get _ 54 fC_160 dC_exchange_51 rfl (h_O (by assumption)) rfl ?_
  refine x_iload 56 dC_exchange_54 rfl rfl ?_
  refine x_ineg 57 dC_exchange_56 rfl ?_
  refine x_iload_n 58 dC_exchange_57 rfl rfl ?_
  refine x_fVn 61 (cA_enter (vp_lt os.1) os.2.1 _ _) kC_240 oA_enter rfl (h_A (vp_lt os.1)) dC_exchange_58 rfl rfl (by decide) (Nat.le_of_ble_eq_true rfl) ?_
  refine x_aload_n 62 dC_exchange_61 rfl rfl ?_
  refine x_get _ 65 fC_17 dC_exchange_62 rfl rfl rfl ?_
  refine x_aload_n 66 dC_exchange_65 rfl rfl ?_
  refine x_get _ 69 fC_160 dC_exchange_66 rfl (h_O (by assumption)) rfl ?_
  refine x_aald 70 rfl dC_exchange_69 rfl rfl ob.2.1 ?_
  refine x_iload_n 71 dC_exchange_70 rfl rfl ?_
  refine y_B3 74 pC_exchange_244 dC_exchange_71 rfl (vp_lt ob.2.1) ?_
  refine x_aload_n 75 dC_exchange_74 rfl rfl ?_
  refine x_get _ 78 fC_30 dC_exchange_75 rfl rfl rfl ?_
  refine x_aload_n 79 dC_exchange_78 rfl rfl ?_
  refine x_get _ 82 fC_96 dC_exchange_79 rfl (h_O (by assumption)) rfl ?_
  refine x_aload_n 83 dC_exchange_82 rfl rfl ?_
  refine x_get _ 86 fC_96 dC_exchange_83 rfl (h_O (by assumption)) rfl ?_
  refine x_iload_n 87 dC_exchange_86 rfl rfl ?_
  refine x_iload 89 dC_exchange_87 rfl rfl ?_
  refine x_fVn 92 (cT_write (by exact (trow_in hT).2.1) (by exact (trow_in hT).2.2.1) (by exact (trow_in hT).2.2.2.1) (by exact (trow_in hT).2.2.2.2) _ _ _ _) kC_247 oT_write rfl rfl dC_exchange_89 rfl rfl (by decide) (Nat.le_of_ble_eq_true rfl) ?_
  exact x_vret dC_exchange_92 rfl ⟨rfl, rfl⟩
theorem HS.ip {c : Prop} [Decidable c] {S1 S2 : cS} (hc : c) (q : HS N S1 A B h) : HS N (if c then S1 else S2) A B h := by rw [if_pos hc]; exact q
theorem HS.ig {c : Prop} [Decidable c] {S1 S2 : cS} (hc : ¬ c) (q : HS N S2 A B h) : HS N (if c then S1 else S2) A B h := by rw [if_neg hc]; exact q
def tkL (I : Nat → Nat → Int32) (ls : Nat → List Nat) (o : Nat) : Nat → List Nat := lvL ls (sdx (I 2 o).toNatClampNeg (I 3 o)) o
theorem cC_takeAway {o : Nat} (hS : HS N (I, J, V, ls) A B h) (ho : o < N) (h2 : vp_in (I 2 o) 2) (st : Int32) : x_C l G mC_takeAway 2 0 0 [xR (some (5, 0)), xR (some (0, o)), xI st] (h) [] (x_ex none (HS N (si I 8 o st, J, V, tkL I ls o) A B)) := by
  obtain ⟨P, rfl, hQ, hP2⟩ := hS.out
  refine x_C.at [some (xR (some (5, 0))), some (xR (some (0, o))), some (xI st)] rfl (Nat.le_of_ble_eq_true rfl) rfl ?_
  refine x_aload_n 1 dC_takeAway_0 rfl rfl ?_
  refine x_get _ 4 fC_17 dC_takeAway_1 rfl rfl rfl ?_
  refine x_aload_n 5 dC_takeAway_4 rfl rfl ?_
  refine x_get _ 8 fC_160 dC_takeAway_5 rfl (h_O (by assumption)) rfl ?_
  refine x_aald 9 rfl dC_takeAway_8 rfl rfl h2 ?_
  refine x_aload_n 10 dC_takeAway_9 rfl rfl ?_
  refine x_get _ 13 fC_163 dC_takeAway_10 rfl (h_O (by assumption)) rfl ?_
  refine x_fVv 16 (cB_on (vp_lt h2) _) kC_136 oB_on rfl (h_B (vp_lt h2)) dC_takeAway_13 rfl rfl (by decide) (Nat.le_of_ble_eq_true rfl) ?_
  refine x_aload_n 17 dC_takeAway_16 rfl rfl ?_
  refine x_fVn 20 (cD_leave (sdx_lt (vp_lt h2) _) ho (hQ.1 _ (sdx_lt (vp_lt h2) _)) (hQ.2.1 _ (sdx_lt (vp_lt h2) _))) kC_234 oD_leave rfl (h_D (sdx_lt (vp_lt h2) _)) dC_takeAway_17 rfl rfl (by decide) (Nat.le_of_ble_eq_true rfl) ?_
  refine x_aload_n 21 dC_takeAway_20 rfl rfl ?_
  refine x_iload_n 22 dC_takeAway_21 rfl rfl ?_
  refine y_O8 25 pC_takeAway_157 dC_takeAway_22 rfl (by assumption) ?_
  exact x_vret dC_takeAway_25 rfl ⟨rfl, _, rfl, (hQ.leave (sdx_lt (vp_lt h2) _)).1, hP2.leave hQ (sdx_lt (vp_lt h2) _)⟩
def kfS (I : Nat → Nat → Int32) (J : Nat → Nat → Int64) (V : Nat → Nat → Int32) (ls : Nat → List Nat) (o : Nat) : cS := if I 6 o = 0 then (si I 8 o 1, J, V, tkL I ls o) else (si I 7 o (shw I o), J, V, ls)
theorem cC_keepOrFill {o : Nat} (hS : HS N (I, J, V, ls) A B h) (ho : o < N) (h2 : vp_in (I 2 o) 2) : x_C l G mC_keepOrFill 3 0 0 [xR (some (5, 0)), xR (some (0, o))] h [] (x_ex none (HS N (kfS I J V ls o) A B)) := by
  obtain ⟨P, rfl, hQ, hP2⟩ := hS.out
  refine x_C.at [some (xR (some (5, 0))), some (xR (some (0, o)))] rfl (Nat.le_of_ble_eq_true rfl) rfl ?_
  refine x_aload_n 1 dC_keepOrFill_0 rfl rfl ?_
  refine x_get _ 4 fC_107 dC_keepOrFill_1 rfl (h_O (by assumption)) rfl ?_
  refine x_if_ne 16 7 dC_keepOrFill_4 (by decide) rfl (fun h4 => ?_) (fun h4 => ?_)
  · skip
    refine x_aload_n 17 dC_keepOrFill_16 rfl rfl ?_
    refine x_fVn 20 (cO_showAnew ho) kC_213 oO_showAnew rfl (h_O (by assumption)) dC_keepOrFill_17 rfl rfl (by decide) (Nat.le_of_ble_eq_true rfl) ?_
    exact x_vret dC_keepOrFill_20 rfl ⟨rfl, by unfold kfS; rw [if_neg h4]; exact ⟨P, rfl, hQ, hP2⟩⟩
  · skip
    refine x_aload_n 8 dC_keepOrFill_7 rfl rfl ?_
    refine x_aload_n 9 dC_keepOrFill_8 rfl rfl ?_
    refine x_iconst 1 10 dC_keepOrFill_9 rfl rfl ?_
    refine x_gVn 13 (cC_takeAway hS ho h2 1) kC_103 oC_takeAway rfl rfl dC_keepOrFill_10 rfl rfl (by decide) (Nat.le_of_ble_eq_true rfl) (fun h1 hq => ?_)
    have hq1 : HS N (kfS I J V ls o) A B h1 := by unfold kfS; rw [if_pos h4]; exact hq
    refine x_goto 20 dC_keepOrFill_13 (by decide) ?_
    exact x_vret dC_keepOrFill_20 rfl ⟨rfl, hq1⟩
def tw1 (I : Nat → Nat → Int32) (k r : Nat) : Nat → Nat → Int32 := si I 7 r (I 7 r - i_min (I 6 k) (I 7 r))
def tw2 (I : Nat → Nat → Int32) (J : Nat → Nat → Int64) (V : Nat → Nat → Int32) (ls : Nat → List Nat) (r j : Nat) : cS := if I 6 r = 0 then (si I 8 r 1, J, V, tkL I ls r) else if I 7 r = 0 then (si I 7 r (shw I r), J, V, jnL (si I 7 r (shw I r)) (lvL ls j r) j r) else (I, J, V, ls)
def tws (I : Nat → Nat → Int32) (J : Nat → Nat → Int64) (V : Nat → Nat → Int32) (ls : Nat → List Nat) (k r j : Nat) : cS := if I 3 k = 0 then tw2 (exI (tw1 I k r) k r (I 5 r) (i_min (I 6 k) (I 7 r))) (exJ (tw1 I k r) J k r (I 5 r) (i_min (I 6 k) (I 7 r))) (exV (tw1 I k r) V k r (i_min (I 6 k) (I 7 r))) ls r j else tw2 (exI (tw1 I k r) r k (I 5 r) (i_min (I 6 k) (I 7 r))) (exJ (tw1 I k r) J r k (I 5 r) (i_min (I 6 k) (I 7 r))) (exV (tw1 I k r) V r k (i_min (I 6 k) (I 7 r))) ls r j
theorem cC_tradeWithShown {k r j : Nat} (hS : HS N (I, J, V, ls) A B h) (hk : k < N) (hr : r < N) (hj : j < 4) (ok : OK1 I k) (or : OK1 I r) (hT : 0 ≤ (I 13 0).toInt) (hrj : ∀ i < 4, r ∈ ls i → i = j) : x_C l G mC_tradeWithShown 3 0 0 [xR (some (5, 0)), xR (some (0, k)), xR (some (0, r)), xR (some (4, j))] h [] (x_ex none (HS N (tws I J V ls k r j) A B)) := by
  obtain ⟨P, rfl, hQ, hP2⟩ := hS.out
  have hlv := hQ.leave (o := r) hj
  have hno : ∀ i < 4, r ∉ lvL ls j r i := fun i hi q => by
    have hij := hrj i hi (lvL_sub q)
    subst hij
    unfold lvL at q
    rw [x_uf_self] at q
    exact (List.Nodup.mem_erase_iff (hQ.2.2.1 i hi)).mp q |>.1 rfl
  refine x_C.at [some (xR (some (5, 0))), some (xR (some (0, k))), some (xR (some (0, r))), some (xR (some (4, j))), none] rfl (Nat.le_of_ble_eq_true rfl) rfl ?_
  refine x_aload_n 1 dC_tradeWithShown_0 rfl rfl ?_
  refine x_get _ 4 fC_107 dC_tradeWithShown_1 rfl (h_O (by assumption)) rfl ?_
  refine x_aload_n 5 dC_tradeWithShown_4 rfl rfl ?_
  refine x_get _ 8 fC_110 dC_tradeWithShown_5 rfl (h_O (by assumption)) rfl ?_
  refine x_mmin 11 kC_113 dC_tradeWithShown_8 rfl (by decide) (Nat.le_of_ble_eq_true rfl) ?_
  refine x_istore 13 dC_tradeWithShown_11 rfl (by decide) rfl ?_
  refine x_aload_n 14 dC_tradeWithShown_13 rfl rfl ?_
  refine x_dup 15 dC_tradeWithShown_14 rfl rfl ?_
  refine x_get _ 18 fC_110 dC_tradeWithShown_15 rfl (h_O (by assumption)) rfl ?_
  refine x_iload 20 dC_tradeWithShown_18 rfl rfl ?_
  refine x_isub 21 dC_tradeWithShown_20 rfl ?_
  refine y_O7 24 pC_tradeWithShown_110 dC_tradeWithShown_21 rfl (by assumption) ?_
  refine x_aload_n 25 dC_tradeWithShown_24 rfl rfl ?_
  refine x_get _ 28 fC_163 dC_tradeWithShown_25 rfl (h_O (by assumption)) rfl ?_
  refine x_if_ne 46 31 dC_tradeWithShown_28 (by decide) rfl (fun h28 => ?_) (fun h28 => ?_)
  · skip
    refine x_aload_n 47 dC_tradeWithShown_46 rfl rfl ?_
    refine x_aload_n 48 dC_tradeWithShown_47 rfl rfl ?_
    refine x_aload_n 49 dC_tradeWithShown_48 rfl rfl ?_
    refine x_aload_n 50 dC_tradeWithShown_49 rfl rfl ?_
    refine x_get _ 53 fC_146 dC_tradeWithShown_50 rfl (h_O (by assumption)) rfl ?_
    refine x_iload 55 dC_tradeWithShown_53 rfl rfl ?_
    refine x_fVn 58 (cC_exchange hr hk (by exact or) (by exact ok) (by exact hT) _ _) kC_230 oC_exchange rfl rfl dC_tradeWithShown_55 rfl rfl (by decide) (Nat.le_of_ble_eq_true rfl) ?_
    refine x_aload_n 59 dC_tradeWithShown_58 rfl rfl ?_
    refine x_get _ 62 fC_107 dC_tradeWithShown_59 rfl (h_O (by assumption)) rfl ?_
    refine x_if_ne 74 65 dC_tradeWithShown_62 (by decide) rfl (fun h62 => ?_) (fun h62 => ?_)
    · skip
      refine x_aload_n 75 dC_tradeWithShown_74 rfl rfl ?_
      refine x_get _ 78 fC_110 dC_tradeWithShown_75 rfl (h_O (by assumption)) rfl ?_
      refine x_if_ne 95 81 dC_tradeWithShown_78 (by decide) rfl (fun h78 => ?_) (fun h78 => ?_)
      · skip
        exact x_vret dC_tradeWithShown_95 rfl ⟨rfl, HS.ig h28 (HS.ig h62 (HS.ig h78 ⟨P, rfl, hQ, hP2⟩))⟩
      · skip
        refine x_aload_n 82 dC_tradeWithShown_81 rfl rfl ?_
        refine x_aload_n 83 dC_tradeWithShown_82 rfl rfl ?_
        refine x_fVn 86 (cD_leave hj hr (hQ.1 j hj) (hQ.2.1 j hj)) kC_234 oD_leave rfl (h_D (by omega)) dC_tradeWithShown_83 rfl rfl (by decide) (Nat.le_of_ble_eq_true rfl) ?_
        refine x_aload_n 87 dC_tradeWithShown_86 rfl rfl ?_
        refine x_fVn 90 (cO_showAnew hr) kC_213 oO_showAnew rfl (h_O (by assumption)) dC_tradeWithShown_87 rfl rfl (by decide) (Nat.le_of_ble_eq_true rfl) ?_
        refine x_aload_n 91 dC_tradeWithShown_90 rfl rfl ?_
        refine x_aload_n 92 dC_tradeWithShown_91 rfl rfl ?_
        refine x_fVn 95 (cD_join hj hr (hlv.1.1 j hj) (hlv.1.2.1 j hj)) kC_216 oD_join rfl (h_D (by omega)) dC_tradeWithShown_92 rfl rfl (by decide) (Nat.le_of_ble_eq_true rfl) ?_
        exact x_vret dC_tradeWithShown_95 rfl ⟨rfl, HS.ig h28 (HS.ig h62 (HS.ip h78 ⟨_, rfl, (hlv.1.join hj hr hno).1, (hP2.leave hQ hj).join hlv.1 hj hr hno⟩))⟩
    · skip
      refine x_aload_n 66 dC_tradeWithShown_65 rfl rfl ?_
      refine x_aload_n 67 dC_tradeWithShown_66 rfl rfl ?_
      refine x_iconst 1 68 dC_tradeWithShown_67 rfl rfl ?_
      refine x_gVn 71 (cC_takeAway (ls := ls) (by exact ⟨P, rfl, hQ, hP2⟩) hr (by exact or.2.1) 1) kC_103 oC_takeAway rfl rfl dC_tradeWithShown_68 rfl rfl (by decide) (Nat.le_of_ble_eq_true rfl) (fun h1 hq => ?_)
      skip
      refine x_goto 95 dC_tradeWithShown_71 (by decide) ?_
      exact x_vret dC_tradeWithShown_95 rfl ⟨rfl, HS.ig h28 (HS.ip h62 hq)⟩
  · skip
    refine x_aload_n 32 dC_tradeWithShown_31 rfl rfl ?_
    refine x_aload_n 33 dC_tradeWithShown_32 rfl rfl ?_
    refine x_aload_n 34 dC_tradeWithShown_33 rfl rfl ?_
    refine x_aload_n 35 dC_tradeWithShown_34 rfl rfl ?_
    refine x_get _ 38 fC_146 dC_tradeWithShown_35 rfl (h_O (by assumption)) rfl ?_
    refine x_iload 40 dC_tradeWithShown_38 rfl rfl ?_
    refine x_fVn 43 (cC_exchange hk hr (by exact ok) (by exact or) (by exact hT) _ _) kC_230 oC_exchange rfl rfl dC_tradeWithShown_40 rfl rfl (by decide) (Nat.le_of_ble_eq_true rfl) ?_
    refine x_goto 58 dC_tradeWithShown_43 (by decide) ?_
    refine x_aload_n 59 dC_tradeWithShown_58 rfl rfl ?_
    refine x_get _ 62 fC_107 dC_tradeWithShown_59 rfl (h_O (by assumption)) rfl ?_
    refine x_if_ne 74 65 dC_tradeWithShown_62 (by decide) rfl (fun h62 => ?_) (fun h62 => ?_)
    · skip
      refine x_aload_n 75 dC_tradeWithShown_74 rfl rfl ?_
      refine x_get _ 78 fC_110 dC_tradeWithShown_75 rfl (h_O (by assumption)) rfl ?_
      refine x_if_ne 95 81 dC_tradeWithShown_78 (by decide) rfl (fun h78 => ?_) (fun h78 => ?_)
      · skip
        exact x_vret dC_tradeWithShown_95 rfl ⟨rfl, HS.ip h28 (HS.ig h62 (HS.ig h78 ⟨P, rfl, hQ, hP2⟩))⟩
      · skip
        refine x_aload_n 82 dC_tradeWithShown_81 rfl rfl ?_
        refine x_aload_n 83 dC_tradeWithShown_82 rfl rfl ?_
        refine x_fVn 86 (cD_leave hj hr (hQ.1 j hj) (hQ.2.1 j hj)) kC_234 oD_leave rfl (h_D (by omega)) dC_tradeWithShown_83 rfl rfl (by decide) (Nat.le_of_ble_eq_true rfl) ?_
        refine x_aload_n 87 dC_tradeWithShown_86 rfl rfl ?_
        refine x_fVn 90 (cO_showAnew hr) kC_213 oO_showAnew rfl (h_O (by assumption)) dC_tradeWithShown_87 rfl rfl (by decide) (Nat.le_of_ble_eq_true rfl) ?_
        refine x_aload_n 91 dC_tradeWithShown_90 rfl rfl ?_
        refine x_aload_n 92 dC_tradeWithShown_91 rfl rfl ?_
        refine x_fVn 95 (cD_join hj hr (hlv.1.1 j hj) (hlv.1.2.1 j hj)) kC_216 oD_join rfl (h_D (by omega)) dC_tradeWithShown_92 rfl rfl (by decide) (Nat.le_of_ble_eq_true rfl) ?_
        exact x_vret dC_tradeWithShown_95 rfl ⟨rfl, HS.ip h28 (HS.ig h62 (HS.ip h78 ⟨_, rfl, (hlv.1.join hj hr hno).1, (hP2.leave hQ hj).join hlv.1 hj hr hno⟩))⟩
    · skip
      refine x_aload_n 66 dC_tradeWithShown_65 rfl rfl ?_
      refine x_aload_n 67 dC_tradeWithShown_66 rfl rfl ?_
      refine x_iconst 1 68 dC_tradeWithShown_67 rfl rfl ?_
      refine x_gVn 71 (cC_takeAway (ls := ls) (by exact ⟨P, rfl, hQ, hP2⟩) hr (by exact or.2.1) 1) kC_103 oC_takeAway rfl rfl dC_tradeWithShown_68 rfl rfl (by decide) (Nat.le_of_ble_eq_true rfl) (fun h1 hq => ?_)
      skip
      refine x_goto 95 dC_tradeWithShown_71 (by decide) ?_
      exact x_vret dC_tradeWithShown_95 rfl ⟨rfl, HS.ip h28 (HS.ip h62 hq)⟩
def tkS (I : Nat → Nat → Int32) (J : Nat → Nat → Int64) (V : Nat → Nat → Int32) (ls : Nat → List Nat) (o : Nat) (st : Int32) : cS := (si I 8 o st, J, V, tkL I ls o)
def mtF (k j : Nat) : Nat → cS → cS
  | 0, S => S
  | n + 1, S => if S.1 6 k ≤ 0 then S else match S.2.2.2 j with
    | [] => S
    | r :: _ => if acc S.1 k (S.1 5 r) then (if S.1 1 r = S.1 1 k then mtF k j n (tkS S.1 S.2.1 S.2.2.1 S.2.2.2 r 2) else mtF k j n (tws S.1 S.2.1 S.2.2.1 S.2.2.2 k r j)) else S
/-- what a meeting needs: orders in their ranges, chains of the right side -/
def CI (N : Nat) (I : Nat → Nat → Int32) (ls : Nat → List Nat) : Prop := (∀ k < N, OK1 I k) ∧ ∀ j < 4, ∀ o ∈ ls j, sdx (I 2 o).toNatClampNeg (I 3 o) = j
theorem CI.re {I I' : Nat → Nat → Int32} {ls ls' : Nat → List Nat} (q : CI N I ls) (h1 : I' 1 = I 1) (h2 : I' 2 = I 2) (h3 : I' 3 = I 3) (h5 : I' 5 = I 5) (hl : ∀ j < 4, ∀ o ∈ ls' j, o ∈ ls j ∨ sdx (I 2 o).toNatClampNeg (I 3 o) = j) : CI N I' ls' := by
  refine ⟨fun k hk => ?_, fun j hj o ho => ?_⟩
  · have := q.1 k hk
    unfold OK1 at this ⊢
    rw [h1, h2, h3, h5]
    exact this
  · rw [h2, h3]
    rcases hl j hj o ho with h | h
    · exact q.2 j hj o h
    · exact h
/-- the fixed fields stay -/
def KP (I I' : Nat → Nat → Int32) : Prop := I' 0 = I 0 ∧ I' 1 = I 1 ∧ I' 2 = I 2 ∧ I' 3 = I 3 ∧ I' 4 = I 4 ∧ I' 5 = I 5 ∧ I' 10 = I 10 ∧ I' 12 = I 12
theorem KP.rf (I : Nat → Nat → Int32) : KP I I := ⟨rfl, rfl, rfl, rfl, rfl, rfl, rfl, rfl⟩
theorem KP.tr {I1 I2 I3 : Nat → Nat → Int32} (a : KP I1 I2) (b : KP I2 I3) : KP I1 I3 := ⟨b.1.trans a.1, b.2.1.trans a.2.1, b.2.2.1.trans a.2.2.1, b.2.2.2.1.trans a.2.2.2.1, b.2.2.2.2.1.trans a.2.2.2.2.1, b.2.2.2.2.2.1.trans a.2.2.2.2.2.1, b.2.2.2.2.2.2.1.trans a.2.2.2.2.2.2.1, b.2.2.2.2.2.2.2.trans a.2.2.2.2.2.2.2⟩
theorem tws_KP (k r j : Nat) : KP I (tws I J V ls k r j).1 ∧ (tws I J V ls k r j).1 13 0 = I 13 0 + 1 := by
  unfold tws tw2
  split <;> (split <;> first | exact ⟨⟨rfl, rfl, rfl, rfl, rfl, rfl, rfl, rfl⟩, rfl⟩ | (split <;> exact ⟨⟨rfl, rfl, rfl, rfl, rfl, rfl, rfl, rfl⟩, rfl⟩))
theorem tws_ls {k r j : Nat} (hr : sdx (I 2 r).toNatClampNeg (I 3 r) = j) : ∀ i < 4, ∀ o ∈ (tws I J V ls k r j).2.2.2 i, o ∈ ls i ∨ (i = j ∧ o = r) := by
  intro i hi o ho
  have key : ∀ (I2 : Nat → Nat → Int32) (J2 : Nat → Nat → Int64) (V2 : Nat → Nat → Int32), o ∈ (tw2 I2 J2 V2 ls r j).2.2.2 i → o ∈ ls i ∨ (i = j ∧ o = r) := by
    intro I2 J2 V2 ho
    unfold tw2 at ho
    split at ho
    · exact Or.inl (lvL_sub ho)
    · split at ho
      · rcases mem_jnL ho with ho | ho
        · exact Or.inl (lvL_sub ho)
        · exact Or.inr ho
      · exact Or.inl ho
  unfold tws at ho
  split at ho
  · exact key _ _ _ ho
  · exact key _ _ _ ho
theorem tws_CI {k r j : Nat} (q : CI N I ls) (hr : sdx (I 2 r).toNatClampNeg (I 3 r) = j) : CI N (tws I J V ls k r j).1 (tws I J V ls k r j).2.2.2 := by
  obtain ⟨⟨-, a1, a2, a3, -, a5, -⟩, -⟩ := tws_KP (I := I) (J := J) (V := V) (ls := ls) k r j
  refine q.re a1 a2 a3 a5 (fun i hi o ho => ?_)
  rcases tws_ls hr i hi o ho with h | h
  · exact Or.inl h
  · exact Or.inr (by rw [h.2, h.1]; exact hr)
theorem tk_CI {r : Nat} {st : Int32} (q : CI N I ls) : CI N (si I 8 r st) (tkL I ls r) := q.re rfl rfl rfl rfl (fun _ _ _ ho => Or.inl (lvL_sub ho))
theorem mtF_a {k j n r : Nat} {c : List Nat} (h24 : ¬ I 6 k ≤ 0) (hl : ls j = r :: c) (ha : acc I k (I 5 r)) (hm : I 1 r = I 1 k) : mtF k j (n + 1) (I, J, V, ls) = mtF k j n (tkS I J V ls r 2) := by
  simp only [mtF, if_neg h24, hl, if_pos ha, if_pos hm]
theorem mtF_b {k j n r : Nat} {c : List Nat} (h24 : ¬ I 6 k ≤ 0) (hl : ls j = r :: c) (ha : acc I k (I 5 r)) (hm : ¬ I 1 r = I 1 k) : mtF k j (n + 1) (I, J, V, ls) = mtF k j n (tws I J V ls k r j) := by
  simp only [mtF, if_neg h24, hl, if_pos ha, if_neg hm]
theorem c219 : (219 : Int32).toInt = 219 := by decide
theorem lp_meet {k i j : Nat} (hk : k < N) (hj : j < 4) (T : cS) : ∀ (n : Nat) (I : Nat → Nat → Int32) (J : Nat → Nat → Int64) (V : Nat → Nat → Int32) (ls : Nat → List Nat) (e : Int32) (x : Option xV) (h : xH), HS N (I, J, V, ls) A B h → CI N I ls → e.toInt + n = 219 → 0 ≤ e.toInt → 0 ≤ (I 13 0).toInt → (I 13 0).toInt + n < 2147483648 → mtF k j n (I, J, V, ls) = T → x_X l G mC_meet 4 0 0 [] (x_ex none (HS N T A B)) 12 [some (xR (some (5, 0))), some (xR (some (0, k))), some (xR (some (3, i))), some (xR (some (4, j))), some (xI e), x] [] h := by
  intro n
  induction n with
  | zero =>
    intro I J V ls e x h hS hC he1 he0 hT0 hT1 hT
    subst hT
    obtain ⟨P, rfl, hQ, hP2⟩ := hS.out
    refine x_iload 14 dC_meet_12 rfl rfl ?_
    refine x_sipush (219) 17 dC_meet_14 rfl rfl ?_
    refine x_icmp_ge 87 20 dC_meet_17 (by decide) rfl (fun h17 => ?_) (fun h17 => absurd (show (219 : Int32) ≤ e from by rw [i_le, c219]; omega) h17)
    exact x_vret dC_meet_87 rfl ⟨rfl, P, rfl, hQ, hP2⟩
  | succ n ih =>
    intro I J V ls e x h hS hC he1 he0 hT0 hT1 hT
    obtain ⟨P, rfl, hQ, hP2⟩ := hS.out
    have hlt : ¬ (219 : Int32) ≤ e := by rw [i_le, c219]; omega
    have hch := hQ.1 j hj
    have hi1 := i_inc (p := e) (by omega) (by omega)
    cases hl : ls j with
    | nil =>
      rw [hl] at hch
      have hch : P 1 j = none := hch
      refine x_iload 14 dC_meet_12 rfl rfl ?_
      refine x_sipush (219) 17 dC_meet_14 rfl rfl ?_
      refine x_icmp_ge 87 20 dC_meet_17 (by decide) rfl (fun h17 => absurd h17 hlt) (fun h17 => ?_)
      refine x_aload_n 21 dC_meet_20 rfl rfl ?_
      refine x_get _ 24 fC_107 dC_meet_21 rfl (h_O (by assumption)) rfl ?_
      refine x_if_le 87 27 dC_meet_24 (by decide) rfl (fun h24 => ?_) (fun h24 => ?_)
      · skip
        exact x_vret dC_meet_87 rfl ⟨rfl, by rw [← hT]; unfold mtF; dsimp only; first | (rw [if_pos h24]; exact ⟨P, rfl, hQ, hP2⟩) | (rw [if_neg h24, hl]; exact ⟨P, rfl, hQ, hP2⟩) | (rw [if_neg h24, hl]; dsimp only; rw [if_neg (b01_z.mp h47)]; exact ⟨P, rfl, hQ, hP2⟩)⟩
      · skip
        refine x_aload_n 28 dC_meet_27 rfl rfl ?_
        refine x_get _ 31 fC_140 dC_meet_28 rfl (h_D (by omega)) rfl ?_
        rw [hch]
        refine x_astore 33 dC_meet_31 rfl (by decide) rfl ?_
        refine x_aload 35 dC_meet_33 rfl rfl ?_
        refine x_ifnull_n 50 38 dC_meet_35 (by decide) rfl ?_
        exact x_vret dC_meet_50 rfl ⟨rfl, by rw [← hT]; unfold mtF; dsimp only; first | (rw [if_pos h24]; exact ⟨P, rfl, hQ, hP2⟩) | (rw [if_neg h24, hl]; exact ⟨P, rfl, hQ, hP2⟩) | (rw [if_neg h24, hl]; dsimp only; rw [if_neg (b01_z.mp h47)]; exact ⟨P, rfl, hQ, hP2⟩)⟩
    | cons r c =>
      rw [hl] at hch
      have hch1 : P 1 j = some (0, r) := hch.1
      have hrl : r ∈ ls j := by rw [hl]; exact List.mem_cons_self
      have hr := hQ.2.1 j hj r hrl
      have ok := hC.1 k hk
      have or := hC.1 r hr
      have hrs := hC.2 j hj r hrl
      have hrj : ∀ i < 4, r ∈ ls i → i = j := fun i hi hri => (hC.2 i hi r hri).symm.trans hrs
      refine x_iload 14 dC_meet_12 rfl rfl ?_
      refine x_sipush (219) 17 dC_meet_14 rfl rfl ?_
      refine x_icmp_ge 87 20 dC_meet_17 (by decide) rfl (fun h17 => absurd h17 hlt) (fun h17 => ?_)
      refine x_aload_n 21 dC_meet_20 rfl rfl ?_
      refine x_get _ 24 fC_107 dC_meet_21 rfl (h_O (by assumption)) rfl ?_
      refine x_if_le 87 27 dC_meet_24 (by decide) rfl (fun h24 => ?_) (fun h24 => ?_)
      · skip
        exact x_vret dC_meet_87 rfl ⟨rfl, by rw [← hT]; unfold mtF; dsimp only; first | (rw [if_pos h24]; exact ⟨P, rfl, hQ, hP2⟩) | (rw [if_neg h24, hl]; exact ⟨P, rfl, hQ, hP2⟩) | (rw [if_neg h24, hl]; dsimp only; rw [if_neg (b01_z.mp h47)]; exact ⟨P, rfl, hQ, hP2⟩)⟩
      · skip
        refine x_aload_n 28 dC_meet_27 rfl rfl ?_
        refine x_get _ 31 fC_140 dC_meet_28 rfl (h_D hj) rfl ?_
        rw [hch1]
        refine x_astore 33 dC_meet_31 rfl (by decide) rfl ?_
        refine x_aload 35 dC_meet_33 rfl rfl ?_
        refine x_ifnull_s 50 38 dC_meet_35 (by decide) rfl ?_
        refine x_aload_n 39 dC_meet_38 rfl rfl ?_
        refine x_aload 41 dC_meet_39 rfl rfl ?_
        refine x_get _ 44 fC_146 dC_meet_41 rfl (h_O (by assumption)) rfl ?_
        refine x_fVv 47 (cO_accepts hk _) kC_223 oO_accepts rfl (h_O (by assumption)) dC_meet_44 rfl rfl (by decide) (Nat.le_of_ble_eq_true rfl) ?_
        refine x_if_ne 51 50 dC_meet_47 (by decide) rfl (fun h47 => ?_) (fun h47 => ?_)
        · skip
          refine x_aload 53 dC_meet_51 rfl rfl ?_
          refine x_get _ 56 fC_185 dC_meet_53 rfl (h_O (by assumption)) rfl ?_
          refine x_aload_n 57 dC_meet_56 rfl rfl ?_
          refine x_get _ 60 fC_185 dC_meet_57 rfl (h_O (by assumption)) rfl ?_
          refine x_icmp_ne 73 63 dC_meet_60 (by decide) rfl (fun h60 => ?_) (fun h60 => ?_)
          · skip
            refine x_aload_n 74 dC_meet_73 rfl rfl ?_
            refine x_aload_n 75 dC_meet_74 rfl rfl ?_
            refine x_aload 77 dC_meet_75 rfl rfl ?_
            refine x_aload_n 78 dC_meet_77 rfl rfl ?_
            refine x_gVn 81 (cC_tradeWithShown hS hk hr hj ok or hT0 hrj) kC_226 oC_tradeWithShown rfl rfl dC_meet_78 rfl rfl (by decide) (Nat.le_of_ble_eq_true rfl) (fun h1 hq => ?_)
            skip
            refine x_iinc 84 dC_meet_81 rfl rfl (by decide) rfl ?_
            refine x_goto 12 dC_meet_84 (by decide) ?_
            have h13 := (tws_KP (I := I) (J := J) (V := V) (ls := ls) k r j).2
            have hi13 : ((tws I J V ls k r j).1 13 0).toInt = (I 13 0).toInt + 1 := by rw [h13]; exact i_p1 hT0 (by omega)
            exact ih (tws I J V ls k r j).1 (tws I J V ls k r j).2.1 (tws I J V ls k r j).2.2.1 (tws I J V ls k r j).2.2.2 _ _ h1 hq (tws_CI hC hrs) (by rw [hi1]; omega) (by rw [hi1]; omega) (by rw [hi13]; omega) (by rw [hi13]; omega) (by rw [← hT, mtF_b h24 hl (b01_nz.mp h47) h60])
          · skip
            refine x_aload_n 64 dC_meet_63 rfl rfl ?_
            refine x_aload 66 dC_meet_64 rfl rfl ?_
            refine x_iconst 2 67 dC_meet_66 rfl rfl ?_
            refine x_gVn 70 (cC_takeAway hS hr or.2.1 2) kC_103 oC_takeAway rfl rfl dC_meet_67 rfl rfl (by decide) (Nat.le_of_ble_eq_true rfl) (fun h1 hq => ?_)
            skip
            refine x_goto 81 dC_meet_70 (by decide) ?_
            refine x_iinc 84 dC_meet_81 rfl rfl (by decide) rfl ?_
            refine x_goto 12 dC_meet_84 (by decide) ?_
            exact ih (si I 8 r 2) J V (tkL I ls r) _ _ h1 hq (tk_CI hC) (by rw [hi1]; omega) (by rw [hi1]; omega) hT0 (by show (I 13 0).toInt + _ < _; omega) (by rw [← hT, mtF_a h24 hl (b01_nz.mp h47) h60]; rfl)
        · skip
          exact x_vret dC_meet_50 rfl ⟨rfl, by rw [← hT]; unfold mtF; dsimp only; first | (rw [if_pos h24]; exact ⟨P, rfl, hQ, hP2⟩) | (rw [if_neg h24, hl]; exact ⟨P, rfl, hQ, hP2⟩) | (rw [if_neg h24, hl]; dsimp only; rw [if_neg (b01_z.mp h47)]; exact ⟨P, rfl, hQ, hP2⟩)⟩
end M6
end
section
section M7
variable {l : Launch} {G : xG} {N : Nat} {I : Nat → Nat → Int32} {J : Nat → Nat → Int64} {P : Nat → Nat → Option xQ} {V : Nat → Nat → Int32} {A : Nat → Nat → Int32} {B : Nat → Nat → Int64}
variable {h : xH} {ls : Nat → List Nat}
theorem cC_meet {k i : Nat} (hS : HS N (I, J, V, ls) A B h) (hC : CI N I ls) (hk : k < N) (hi : i < 2) (hT0 : 0 ≤ (I 13 0).toInt) (hT1 : (I 13 0).toInt + 219 < 2147483648) : x_C l G mC_meet 4 0 0 [xR (some (5, 0)), xR (some (0, k)), xR (some (3, i))] (h) [] (x_ex none (HS N (mtF k (fdx i (I 3 k)) 219 (I, J, V, ls)) A B)) := by
  obtain ⟨P, rfl, hQ, hP2⟩ := hS.out
  refine x_C.at [some (xR (some (5, 0))), some (xR (some (0, k))), some (xR (some (3, i))), none, none, none] rfl (Nat.le_of_ble_eq_true rfl) rfl ?_
  refine x_aload_n 1 dC_meet_0 rfl rfl ?_
  refine x_aload_n 2 dC_meet_1 rfl rfl ?_
  refine x_get _ 5 fC_163 dC_meet_2 rfl (h_O (by assumption)) rfl ?_
  refine x_fVv 8 (cB_facing hi _) kC_220 oB_facing rfl (h_B (by assumption)) dC_meet_5 rfl rfl (by decide) (Nat.le_of_ble_eq_true rfl) ?_
  refine x_astore_n 9 dC_meet_8 rfl (by decide) rfl ?_
  refine x_iconst 0 10 dC_meet_9 rfl rfl ?_
  refine x_istore 12 dC_meet_10 rfl (by decide) rfl ?_
  exact lp_meet hk (fdx_lt hi _) _ 219 I J V ls 0 _ _ hS hC (by decide) (by decide) hT0 (by omega) rfl
/-- what a meeting leaves as it was -/
theorem mtF_ok (k j : Nat) (hj : j < 4) : ∀ (n : Nat) (I : Nat → Nat → Int32) (J : Nat → Nat → Int64) (V : Nat → Nat → Int32) (ls : Nat → List Nat), CI N I ls → 0 ≤ (I 13 0).toInt → (I 13 0).toInt + n < 2147483648 →
    KP I (mtF k j n (I, J, V, ls)).1 ∧ CI N (mtF k j n (I, J, V, ls)).1 (mtF k j n (I, J, V, ls)).2.2.2 ∧ (∀ i < 4, ∀ o ∈ (mtF k j n (I, J, V, ls)).2.2.2 i, o ∈ ls i) ∧ (I 13 0).toInt ≤ ((mtF k j n (I, J, V, ls)).1 13 0).toInt ∧ ((mtF k j n (I, J, V, ls)).1 13 0).toInt ≤ (I 13 0).toInt + n := by
  intro n
  induction n with
  | zero => intro I J V ls hC h0 h1; exact ⟨KP.rf I, hC, fun _ _ _ q => q, Int.le_refl _, by simp [mtF]⟩
  | succ n ih =>
    intro I J V ls hC h0 h1
    have same : mtF k j (n + 1) (I, J, V, ls) = (I, J, V, ls) → KP I (mtF k j (n + 1) (I, J, V, ls)).1 ∧ CI N (mtF k j (n + 1) (I, J, V, ls)).1 (mtF k j (n + 1) (I, J, V, ls)).2.2.2 ∧ (∀ i < 4, ∀ o ∈ (mtF k j (n + 1) (I, J, V, ls)).2.2.2 i, o ∈ ls i) ∧ (I 13 0).toInt ≤ ((mtF k j (n + 1) (I, J, V, ls)).1 13 0).toInt ∧ ((mtF k j (n + 1) (I, J, V, ls)).1 13 0).toInt ≤ (I 13 0).toInt + (n + 1 : Nat) := by
      intro e
      rw [e]
      exact ⟨KP.rf I, hC, fun _ _ _ q => q, Int.le_refl _, by dsimp only; omega⟩
    by_cases h24 : I 6 k ≤ 0
    · exact same (by simp only [mtF, if_pos h24])
    · cases hl : ls j with
      | nil => exact same (by simp only [mtF, if_neg h24, hl])
      | cons r c =>
        by_cases ha : acc I k (I 5 r)
        · have hrl : r ∈ ls j := by rw [hl]; exact List.mem_cons_self
          have hrs := hC.2 j hj r hrl
          by_cases hm : I 1 r = I 1 k
          · rw [mtF_a h24 hl ha hm]
            obtain ⟨a1, a2, a3, a4, a5⟩ := ih (si I 8 r 2) J V (tkL I ls r) (tk_CI hC) h0 (by show (I 13 0).toInt + _ < _; omega)
            exact ⟨KP.tr ⟨rfl, rfl, rfl, rfl, rfl, rfl, rfl, rfl⟩ a1, a2, fun i hi o ho => lvL_sub (a3 i hi o ho), a4, by refine Int.le_trans a5 ?_; show (I 13 0).toInt + (n : Int) ≤ _; omega⟩
          · rw [mtF_b h24 hl ha hm]
            have hT := tws_KP (I := I) (J := J) (V := V) (ls := ls) k r j
            have hi13 : ((tws I J V ls k r j).1 13 0).toInt = (I 13 0).toInt + 1 := by rw [hT.2]; exact i_p1 h0 (by omega)
            obtain ⟨a1, a2, a3, a4, a5⟩ := ih (tws I J V ls k r j).1 (tws I J V ls k r j).2.1 (tws I J V ls k r j).2.2.1 (tws I J V ls k r j).2.2.2 (tws_CI hC hrs) (by omega) (by omega)
            refine ⟨KP.tr hT.1 a1, a2, fun i hi o ho => ?_, ?_, ?_⟩
            · rcases tws_ls hrs i hi o (a3 i hi o ho) with q | q
              · exact q
              · rw [q.1, q.2]; exact hrl
            · exact Int.le_trans (by omega) a4
            · refine Int.le_trans a5 ?_
              omega
        · exact same (by simp only [mtF, if_neg h24, hl, if_neg ha])
def ad2 (S : cS) (k i : Nat) : cS := if S.1 6 k = 0 then (si S.1 8 k 1, S.2.1, S.2.2.1, S.2.2.2) else if S.1 4 k = 1 then (si S.1 8 k 2, S.2.1, S.2.2.1, S.2.2.2) else if ¬ S.1 4 k = 3 then (si S.1 7 k (shw S.1 k), S.2.1, S.2.2.1, jnL (si S.1 7 k (shw S.1 k)) S.2.2.2 (sdx i (S.1 3 k)) k) else (si S.1 8 k 2, S.2.1, S.2.2.1, S.2.2.2)
def adS (I : Nat → Nat → Int32) (J : Nat → Nat → Int64) (V : Nat → Nat → Int32) (ls : Nat → List Nat) (k i : Nat) : cS := if I 10 i = 0 then ad2 (I, J, V, ls) k i else ad2 (mtF k (fdx i (I 3 k)) 219 (I, J, V, ls)) k i
theorem lp_admit {k i : Nat} (hS : HS N (I, J, V, ls) A B h) (hk : k < N) (hi : i < 2) (hno : ∀ j < 4, k ∉ ls j) : x_X l G mC_admit 5 0 0 [] (x_ex none (HS N (ad2 (I, J, V, ls) k i) A B)) 13 [some (xR (some (5, 0))), some (xR (some (0, k))), some (xR (some (3, i)))] [] h := by
  obtain ⟨P, rfl, hQ, hP2⟩ := hS.out
  refine x_aload_n 14 dC_admit_13 rfl rfl ?_
  refine x_get _ 17 fC_107 dC_admit_14 rfl (h_O (by assumption)) rfl ?_
  refine x_if_ne 28 20 dC_admit_17 (by decide) rfl (fun h17 => ?_) (fun h17 => ?_)
  · skip
    refine x_aload_n 29 dC_admit_28 rfl rfl ?_
    refine x_get _ 32 fC_210 dC_admit_29 rfl (h_O (by assumption)) rfl ?_
    refine x_iconst 1 33 dC_admit_32 rfl rfl ?_
    refine x_icmp_eq 44 36 dC_admit_33 (by decide) rfl (fun h33 => ?_) (fun h33 => ?_)
    · skip
      refine x_aload_n 45 dC_admit_44 rfl rfl ?_
      refine x_iconst 2 46 dC_admit_45 rfl rfl ?_
      refine y_O8 49 pC_admit_157 dC_admit_46 rfl (by assumption) ?_
      refine x_goto 68 dC_admit_49 (by decide) ?_
      exact x_vret dC_admit_68 rfl ⟨rfl, HS.ig h17 (HS.ip h33 (⟨P, rfl, hQ, hP2⟩))⟩
    · skip
      refine x_aload_n 37 dC_admit_36 rfl rfl ?_
      refine x_get _ 40 fC_210 dC_admit_37 rfl (h_O (by assumption)) rfl ?_
      refine x_iconst 3 41 dC_admit_40 rfl rfl ?_
      refine x_icmp_ne 52 44 dC_admit_41 (by decide) rfl (fun h41 => ?_) (fun h41 => ?_)
      · skip
        refine x_aload_n 53 dC_admit_52 rfl rfl ?_
        refine x_fVn 56 (cO_showAnew hk) kC_213 oO_showAnew rfl (h_O (by assumption)) dC_admit_53 rfl rfl (by decide) (Nat.le_of_ble_eq_true rfl) ?_
        refine x_aload_n 57 dC_admit_56 rfl rfl ?_
        refine x_aload_n 58 dC_admit_57 rfl rfl ?_
        refine x_get _ 61 fC_163 dC_admit_58 rfl (h_O (by assumption)) rfl ?_
        refine x_fVv 64 (cB_on hi _) kC_136 oB_on rfl (h_B (by assumption)) dC_admit_61 rfl rfl (by decide) (Nat.le_of_ble_eq_true rfl) ?_
        refine x_aload_n 65 dC_admit_64 rfl rfl ?_
        refine x_fVn 68 (cD_join (sdx_lt hi _) hk (hQ.1 _ (sdx_lt hi _)) (hQ.2.1 _ (sdx_lt hi _))) kC_216 oD_join rfl (h_D (sdx_lt hi _)) dC_admit_65 rfl rfl (by decide) (Nat.le_of_ble_eq_true rfl) ?_
        exact x_vret dC_admit_68 rfl ⟨rfl, HS.ig h17 (HS.ig h33 (HS.ip h41 (⟨_, rfl, (hQ.join (sdx_lt hi _) hk hno).1, hP2.join hQ (sdx_lt hi _) hk hno⟩)))⟩
      · skip
        refine x_aload_n 45 dC_admit_44 rfl rfl ?_
        refine x_iconst 2 46 dC_admit_45 rfl rfl ?_
        refine y_O8 49 pC_admit_157 dC_admit_46 rfl (by assumption) ?_
        refine x_goto 68 dC_admit_49 (by decide) ?_
        exact x_vret dC_admit_68 rfl ⟨rfl, HS.ig h17 (HS.ig h33 (HS.ig (fun q => q h41) (⟨P, rfl, hQ, hP2⟩)))⟩
  · skip
    refine x_aload_n 21 dC_admit_20 rfl rfl ?_
    refine x_iconst 1 22 dC_admit_21 rfl rfl ?_
    refine y_O8 25 pC_admit_157 dC_admit_22 rfl (by assumption) ?_
    refine x_goto 68 dC_admit_25 (by decide) ?_
    exact x_vret dC_admit_68 rfl ⟨rfl, HS.ip h17 (⟨P, rfl, hQ, hP2⟩)⟩
theorem cC_admit {k i : Nat} (hS : HS N (I, J, V, ls) A B h) (hC : CI N I ls) (hk : k < N) (hi : i < 2) (hno : ∀ j < 4, k ∉ ls j) (hT0 : 0 ≤ (I 13 0).toInt) (hT1 : (I 13 0).toInt + 219 < 2147483648) : x_C l G mC_admit 5 0 0 [xR (some (5, 0)), xR (some (0, k)), xR (some (3, i))] h [] (x_ex none (HS N (adS I J V ls k i) A B)) := by
  obtain ⟨P, rfl, hQ, hP2⟩ := hS.out
  refine x_C.at [some (xR (some (5, 0))), some (xR (some (0, k))), some (xR (some (3, i)))] rfl (Nat.le_of_ble_eq_true rfl) rfl ?_
  refine x_aload_n 1 dC_admit_0 rfl rfl ?_
  refine x_get _ 4 fC_74 dC_admit_1 rfl (h_B (by assumption)) rfl ?_
  refine x_if_eq 13 7 dC_admit_4 (by decide) rfl (fun h4 => ?_) (fun h4 => ?_)
  · skip
    have hx := lp_admit (l := l) (G := G) hS hk hi hno
    unfold adS
    rw [if_pos h4]
    exact hx
  · skip
    refine x_aload_n 8 dC_admit_7 rfl rfl ?_
    refine x_aload_n 9 dC_admit_8 rfl rfl ?_
    refine x_aload_n 10 dC_admit_9 rfl rfl ?_
    refine x_gVn 13 (cC_meet hS hC hk hi hT0 hT1) kC_207 oC_meet rfl rfl dC_admit_10 rfl rfl (by decide) (Nat.le_of_ble_eq_true rfl) (fun h1 hq => ?_)
    skip
    have hm := (mtF_ok k (fdx i (I 3 k)) (fdx_lt hi _) 219 I J V ls hC hT0 (by omega)).2.2.1
    have hx := lp_admit (l := l) (G := G) (I := (mtF k (fdx i (I 3 k)) 219 (I, J, V, ls)).1) (J := (mtF k (fdx i (I 3 k)) 219 (I, J, V, ls)).2.1) (V := (mtF k (fdx i (I 3 k)) 219 (I, J, V, ls)).2.2.1) (ls := (mtF k (fdx i (I 3 k)) 219 (I, J, V, ls)).2.2.2) hq hk hi (fun j hj q => hno j hj (hm j hj k q))
    unfold adS
    rw [if_neg h4]
    exact hx
def exS (I : Nat → Nat → Int32) (J : Nat → Nat → Int64) (V : Nat → Nat → Int32) (ls : Nat → List Nat) (b s : Nat) (p : Int32) : cS := (exI I b s p (i_min (I 6 b) (I 6 s)), exJ I J b s p (i_min (I 6 b) (I 6 s)), exV I V b s (i_min (I 6 b) (I 6 s)), ls)
def kf2 (S : cS) (o : Nat) : cS := kfS S.1 S.2.1 S.2.2.1 S.2.2.2 o
def tas (I : Nat → Nat → Int32) (J : Nat → Nat → Int64) (V : Nat → Nat → Int32) (ls : Nat → List Nat) (b s : Nat) (p : Int32) : cS := kf2 (kf2 (exS I J V ls b s p) b) s
def taF (i : Nat) (p : Int32) : Nat → cS → Int32 → Int32 × cS
  | 0, S, v => (v, S)
  | n + 1, S, v => match S.2.2.2 (2 * i), S.2.2.2 (2 * i + 1) with
    | b :: _, s :: _ => if acc S.1 b p then (if acc S.1 s p then taF i p n (tas S.1 S.2.1 S.2.2.1 S.2.2.2 b s p) (v + i_min (S.1 6 b) (S.1 6 s)) else (v, S)) else (v, S)
    | _, _ => (v, S)
theorem kfS_KP (o : Nat) : KP I (kfS I J V ls o).1 ∧ (kfS I J V ls o).1 13 = I 13 := by
  unfold kfS
  split <;> exact ⟨⟨rfl, rfl, rfl, rfl, rfl, rfl, rfl, rfl⟩, rfl⟩
theorem kfS_ls (o : Nat) : ∀ i, ∀ x ∈ (kfS I J V ls o).2.2.2 i, x ∈ ls i := by
  unfold kfS
  intro i x hx
  split at hx
  · exact lvL_sub hx
  · exact hx
theorem tas_ok (b s : Nat) (p : Int32) : KP I (tas I J V ls b s p).1 ∧ (tas I J V ls b s p).1 13 0 = I 13 0 + 1 ∧ ∀ i, ∀ x ∈ (tas I J V ls b s p).2.2.2 i, x ∈ ls i := by
  have e1 : KP I (exS I J V ls b s p).1 ∧ (exS I J V ls b s p).1 13 0 = I 13 0 + 1 := ⟨⟨rfl, rfl, rfl, rfl, rfl, rfl, rfl, rfl⟩, rfl⟩
  have e2 := kfS_KP (I := (exS I J V ls b s p).1) (J := (exS I J V ls b s p).2.1) (V := (exS I J V ls b s p).2.2.1) (ls := (exS I J V ls b s p).2.2.2) b
  have e3 := kfS_KP (I := (kf2 (exS I J V ls b s p) b).1) (J := (kf2 (exS I J V ls b s p) b).2.1) (V := (kf2 (exS I J V ls b s p) b).2.2.1) (ls := (kf2 (exS I J V ls b s p) b).2.2.2) s
  refine ⟨KP.tr e1.1 (KP.tr e2.1 e3.1), ?_, fun i x hx => kfS_ls b i x (kfS_ls s i x hx)⟩
  have h3 : (tas I J V ls b s p).1 13 = (kf2 (exS I J V ls b s p) b).1 13 := e3.2
  have h2 : (kf2 (exS I J V ls b s p) b).1 13 = (exS I J V ls b s p).1 13 := e2.2
  rw [h3, h2]
  exact e1.2
theorem CI.sub {I' : Nat → Nat → Int32} {ls' : Nat → List Nat} (q : CI N I ls) (hk : KP I I') (hl : ∀ i, ∀ x ∈ ls' i, x ∈ ls i) : CI N I' ls' := q.re hk.2.1 hk.2.2.1 hk.2.2.2.1 hk.2.2.2.2.2.1 (fun j _ o ho => Or.inl (hl j o ho))
theorem taF_s {i n b s : Nat} {p v : Int32} {cb cs : List Nat} (hb : ls (2 * i) = b :: cb) (hs : ls (2 * i + 1) = s :: cs) (ha : acc I b p) (ha2 : acc I s p) : taF i p (n + 1) (I, J, V, ls) v = taF i p n (tas I J V ls b s p) (v + i_min (I 6 b) (I 6 s)) := by
  simp only [taF, hb, hs, if_pos ha, if_pos ha2]
theorem taF_0 {i n : Nat} {p v : Int32} (h0 : ls (2 * i) = [] ∨ ls (2 * i + 1) = [] ∨ ∃ b cb s cs, ls (2 * i) = b :: cb ∧ ls (2 * i + 1) = s :: cs ∧ (¬ acc I b p ∨ ¬ acc I s p)) : taF i p (n + 1) (I, J, V, ls) v = (v, (I, J, V, ls)) := by
  rcases h0 with h0 | h0 | ⟨b, cb, s, cs, hb, hs, h0⟩
  · simp only [taF, h0]
  · cases hb : ls (2 * i) with
    | nil => simp only [taF, hb]
    | cons b cb => simp only [taF, hb, h0]
  · rcases h0 with h0 | h0
    · simp only [taF, hb, hs, if_neg h0]
    · by_cases ha : acc I b p
      · simp only [taF, hb, hs, if_pos ha, if_neg h0]
      · simp only [taF, hb, hs, if_neg ha]
theorem c120 : (120 : Int32).toInt = 120 := by decide
/-- an int and the class's state -/
def QR (N : Nat) (R : Int32 × cS) (A : Nat → Nat → Int32) (B : Nat → Nat → Int64) : Option xV → xH → Prop := x_ex (some (xI R.1)) (HS N R.2 A B)
theorem QR.ip {c : Prop} [Decidable c] {S1 S2 : Int32 × cS} {r : Option xV} (hc : c) (q : QR N S1 A B r h) : QR N (if c then S1 else S2) A B r h := by rw [if_pos hc]; exact q
theorem QR.ig {c : Prop} [Decidable c] {S1 S2 : Int32 × cS} {r : Option xV} (hc : ¬ c) (q : QR N S2 A B r h) : QR N (if c then S1 else S2) A B r h := by rw [if_neg hc]; exact q
theorem lp_tradeAll {i : Nat} (hi : i < 2) (p : Int32) (T : Int32 × cS) : ∀ (n : Nat) (I : Nat → Nat → Int32) (J : Nat → Nat → Int64) (V : Nat → Nat → Int32) (ls : Nat → List Nat) (v e : Int32) (x y z : Option xV) (h : xH), HS N (I, J, V, ls) A B h → CI N I ls → e.toInt + n = 120 → 0 ≤ e.toInt → 0 ≤ (I 13 0).toInt → (I 13 0).toInt + n < 2147483648 → taF i p n (I, J, V, ls) v = T → x_X l G mC_tradeAll 4 0 0 [] (QR N T A B) 5 [some (xR (some (5, 0))), some (xR (some (3, i))), some (xI p), some (xI v), some (xI e), x, y, z] [] h := by
  intro n
  induction n with
  | zero =>
    intro I J V ls v e x y z h hS hC he1 he0 hT0 hT1 hT
    subst hT
    obtain ⟨P, rfl, hQ, hP2⟩ := hS.out
    refine x_iload 7 dC_tradeAll_5 rfl rfl ?_
    refine x_bipush (120) 9 dC_tradeAll_7 rfl rfl ?_
    refine x_icmp_ge 109 12 dC_tradeAll_9 (by decide) rfl (fun h9 => ?_) (fun h9 => absurd (show (120 : Int32) ≤ e from by rw [i_le, c120]; omega) h9)
    refine x_iload_n 110 dC_tradeAll_109 rfl rfl ?_
    exact x_iret dC_tradeAll_110 rfl rfl ⟨rfl, P, rfl, hQ, hP2⟩
  | succ n ih =>
    intro I J V ls v e x y z h hS hC he1 he0 hT0 hT1 hT
    obtain ⟨P, rfl, hQ, hP2⟩ := hS.out
    have hlt : ¬ (120 : Int32) ≤ e := by rw [i_le, c120]; omega
    have hj0 : 2 * i < 4 := by omega
    have hj1 : 2 * i + 1 < 4 := by omega
    have hcb := hQ.1 (2 * i) hj0
    have hcs := hQ.1 (2 * i + 1) hj1
    have hi1 := i_inc (p := e) (by omega) (by omega)
    cases hlb : ls (2 * i) with
    | nil =>
      rw [hlb] at hcb
      have hcb : P 1 (2 * i) = none := hcb
      refine x_iload 7 dC_tradeAll_5 rfl rfl ?_
      refine x_bipush (120) 9 dC_tradeAll_7 rfl rfl ?_
      refine x_icmp_ge 109 12 dC_tradeAll_9 (by decide) rfl (fun h9 => absurd h9 hlt) (fun h9 => ?_)
      refine x_aload_n 13 dC_tradeAll_12 rfl rfl ?_
      refine x_get _ 16 fC_188 dC_tradeAll_13 rfl (h_B (by assumption)) rfl ?_
      refine x_get _ 19 fC_140 dC_tradeAll_16 rfl (h_D (by assumption)) rfl ?_
      rw [hcb]
      refine x_astore 21 dC_tradeAll_19 rfl (by decide) rfl ?_
      refine x_aload_n 22 dC_tradeAll_21 rfl rfl ?_
      refine x_get _ 25 fC_195 dC_tradeAll_22 rfl (h_B (by assumption)) rfl ?_
      refine x_get _ 28 fC_140 dC_tradeAll_25 rfl (h_D (by assumption)) rfl ?_
      refine x_astore 30 dC_tradeAll_28 rfl (by decide) rfl ?_
      refine x_aload 32 dC_tradeAll_30 rfl rfl ?_
      refine x_ifnull_n 58 35 dC_tradeAll_32 (by decide) rfl ?_
      refine x_iload_n 59 dC_tradeAll_58 rfl rfl ?_
      exact x_iret dC_tradeAll_59 rfl rfl ⟨by rw [← hT, taF_0 (Or.inl hlb)], by rw [← hT, taF_0 (Or.inl hlb)]; exact ⟨P, rfl, hQ, hP2⟩⟩
    | cons b cb =>
      rw [hlb] at hcb
      have hcb : P 1 (2 * i) = some (0, b) := hcb.1
      have hbl : b ∈ ls (2 * i) := by rw [hlb]; exact List.mem_cons_self
      have hb := hQ.2.1 _ hj0 b hbl
      have ob := hC.1 b hb
      cases hls : ls (2 * i + 1) with
      | nil =>
        rw [hls] at hcs
        have hcs : P 1 (2 * i + 1) = none := hcs
        refine x_iload 7 dC_tradeAll_5 rfl rfl ?_
        refine x_bipush (120) 9 dC_tradeAll_7 rfl rfl ?_
        refine x_icmp_ge 109 12 dC_tradeAll_9 (by decide) rfl (fun h9 => absurd h9 hlt) (fun h9 => ?_)
        refine x_aload_n 13 dC_tradeAll_12 rfl rfl ?_
        refine x_get _ 16 fC_188 dC_tradeAll_13 rfl (h_B (by assumption)) rfl ?_
        refine x_get _ 19 fC_140 dC_tradeAll_16 rfl (h_D (by assumption)) rfl ?_
        rw [hcb]
        refine x_astore 21 dC_tradeAll_19 rfl (by decide) rfl ?_
        refine x_aload_n 22 dC_tradeAll_21 rfl rfl ?_
        refine x_get _ 25 fC_195 dC_tradeAll_22 rfl (h_B (by assumption)) rfl ?_
        refine x_get _ 28 fC_140 dC_tradeAll_25 rfl (h_D (by assumption)) rfl ?_
        rw [hcs]
        refine x_astore 30 dC_tradeAll_28 rfl (by decide) rfl ?_
        refine x_aload 32 dC_tradeAll_30 rfl rfl ?_
        refine x_ifnull_s 58 35 dC_tradeAll_32 (by decide) rfl ?_
        refine x_aload 37 dC_tradeAll_35 rfl rfl ?_
        refine x_ifnull_n 58 40 dC_tradeAll_37 (by decide) rfl ?_
        refine x_iload_n 59 dC_tradeAll_58 rfl rfl ?_
        exact x_iret dC_tradeAll_59 rfl rfl ⟨by rw [← hT, taF_0 (Or.inr (Or.inl hls))], by rw [← hT, taF_0 (Or.inr (Or.inl hls))]; exact ⟨P, rfl, hQ, hP2⟩⟩
      | cons s cs =>
        rw [hls] at hcs
        have hcs : P 1 (2 * i + 1) = some (0, s) := hcs.1
        have hsl : s ∈ ls (2 * i + 1) := by rw [hls]; exact List.mem_cons_self
        have hs := hQ.2.1 _ hj1 s hsl
        have os := hC.1 s hs
        refine x_iload 7 dC_tradeAll_5 rfl rfl ?_
        refine x_bipush (120) 9 dC_tradeAll_7 rfl rfl ?_
        refine x_icmp_ge 109 12 dC_tradeAll_9 (by decide) rfl (fun h9 => absurd h9 hlt) (fun h9 => ?_)
        refine x_aload_n 13 dC_tradeAll_12 rfl rfl ?_
        refine x_get _ 16 fC_188 dC_tradeAll_13 rfl (h_B (by assumption)) rfl ?_
        refine x_get _ 19 fC_140 dC_tradeAll_16 rfl (h_D (by assumption)) rfl ?_
        rw [hcb]
        refine x_astore 21 dC_tradeAll_19 rfl (by decide) rfl ?_
        refine x_aload_n 22 dC_tradeAll_21 rfl rfl ?_
        refine x_get _ 25 fC_195 dC_tradeAll_22 rfl (h_B (by assumption)) rfl ?_
        refine x_get _ 28 fC_140 dC_tradeAll_25 rfl (h_D (by assumption)) rfl ?_
        rw [hcs]
        refine x_astore 30 dC_tradeAll_28 rfl (by decide) rfl ?_
        refine x_aload 32 dC_tradeAll_30 rfl rfl ?_
        refine x_ifnull_s 58 35 dC_tradeAll_32 (by decide) rfl ?_
        refine x_aload 37 dC_tradeAll_35 rfl rfl ?_
        refine x_ifnull_s 58 40 dC_tradeAll_37 (by decide) rfl ?_
        refine x_aload 42 dC_tradeAll_40 rfl rfl ?_
        refine x_iload_n 43 dC_tradeAll_42 rfl rfl ?_
        refine x_fVv 46 (cO_accepts hb _) kC_223 oO_accepts rfl (h_O (by assumption)) dC_tradeAll_43 rfl rfl (by decide) (Nat.le_of_ble_eq_true rfl) ?_
        refine x_if_eq 58 49 dC_tradeAll_46 (by decide) rfl (fun h46 => ?_) (fun h46 => ?_)
        · skip
          refine x_iload_n 59 dC_tradeAll_58 rfl rfl ?_
          exact x_iret dC_tradeAll_59 rfl rfl ⟨by rw [← hT, taF_0 (Or.inr (Or.inr ⟨b, cb, s, cs, hlb, hls, Or.inl (b01_z.mp h46)⟩))], by rw [← hT, taF_0 (Or.inr (Or.inr ⟨b, cb, s, cs, hlb, hls, Or.inl (b01_z.mp h46)⟩))]; exact ⟨P, rfl, hQ, hP2⟩⟩
        · skip
          refine x_aload 51 dC_tradeAll_49 rfl rfl ?_
          refine x_iload_n 52 dC_tradeAll_51 rfl rfl ?_
          refine x_fVv 55 (cO_accepts hs _) kC_223 oO_accepts rfl (h_O (by assumption)) dC_tradeAll_52 rfl rfl (by decide) (Nat.le_of_ble_eq_true rfl) ?_
          refine x_if_ne 60 58 dC_tradeAll_55 (by decide) rfl (fun h55 => ?_) (fun h55 => ?_)
          · skip
            refine x_aload 62 dC_tradeAll_60 rfl rfl ?_
            refine x_get _ 65 fC_107 dC_tradeAll_62 rfl (h_O (by assumption)) rfl ?_
            refine x_aload 67 dC_tradeAll_65 rfl rfl ?_
            refine x_get _ 70 fC_107 dC_tradeAll_67 rfl (h_O (by assumption)) rfl ?_
            refine x_mmin 73 kC_113 dC_tradeAll_70 rfl (by decide) (Nat.le_of_ble_eq_true rfl) ?_
            refine x_istore 75 dC_tradeAll_73 rfl (by decide) rfl ?_
            refine x_aload_n 76 dC_tradeAll_75 rfl rfl ?_
            refine x_aload 78 dC_tradeAll_76 rfl rfl ?_
            refine x_aload 80 dC_tradeAll_78 rfl rfl ?_
            refine x_iload_n 81 dC_tradeAll_80 rfl rfl ?_
            refine x_iload 83 dC_tradeAll_81 rfl rfl ?_
            refine x_fVn 86 (cC_exchange hb hs ob os hT0 _ _) kC_230 oC_exchange rfl rfl dC_tradeAll_83 rfl rfl (by decide) (Nat.le_of_ble_eq_true rfl) ?_
            refine x_aload_n 87 dC_tradeAll_86 rfl rfl ?_
            refine x_aload 89 dC_tradeAll_87 rfl rfl ?_
            refine x_gVn 92 (cC_keepOrFill (I := (exS I J V ls b s p).1) (J := (exS I J V ls b s p).2.1) (V := (exS I J V ls b s p).2.2.1) (ls := ls) (by exact ⟨P, rfl, hQ, hP2⟩) hb (by exact ob.2.1)) kC_237 oC_keepOrFill rfl rfl dC_tradeAll_89 rfl rfl (by decide) (Nat.le_of_ble_eq_true rfl) (fun h1 hq => ?_)
            have hq1 : HS N (kf2 (exS I J V ls b s p) b) A B h1 := hq
            clear hq
            obtain ⟨P1, hh1, hQ1, hP21⟩ := hq1
            subst hh1
            refine x_aload_n 93 dC_tradeAll_92 rfl rfl ?_
            refine x_aload 95 dC_tradeAll_93 rfl rfl ?_
            refine x_gVn 98 (cC_keepOrFill (I := (kf2 (exS I J V ls b s p) b).1) (J := (kf2 (exS I J V ls b s p) b).2.1) (V := (kf2 (exS I J V ls b s p) b).2.2.1) (ls := (kf2 (exS I J V ls b s p) b).2.2.2) (by exact ⟨P1, rfl, hQ1, hP21⟩) hs (by have := (kfS_KP (I := (exS I J V ls b s p).1) (J := (exS I J V ls b s p).2.1) (V := (exS I J V ls b s p).2.2.1) (ls := (exS I J V ls b s p).2.2.2) b).1.2.2.1; show vp_in ((kfS _ _ _ _ b).1 2 s) 2; rw [this]; exact os.2.1)) kC_237 oC_keepOrFill rfl rfl dC_tradeAll_95 rfl rfl (by decide) (Nat.le_of_ble_eq_true rfl) (fun h1 hq => ?_)
            skip
            refine x_iload_n 99 dC_tradeAll_98 rfl rfl ?_
            refine x_iload 101 dC_tradeAll_99 rfl rfl ?_
            refine x_iadd 102 dC_tradeAll_101 rfl ?_
            refine x_istore_n 103 dC_tradeAll_102 rfl (by decide) rfl ?_
            refine x_iinc 106 dC_tradeAll_103 rfl rfl (by decide) rfl ?_
            refine x_goto 5 dC_tradeAll_106 (by decide) ?_
            have ht := tas_ok (I := I) (J := J) (V := V) (ls := ls) b s p
            have hi13 : ((tas I J V ls b s p).1 13 0).toInt = (I 13 0).toInt + 1 := by rw [ht.2.1]; exact i_p1 hT0 (by omega)
            exact ih (tas I J V ls b s p).1 (tas I J V ls b s p).2.1 (tas I J V ls b s p).2.2.1 (tas I J V ls b s p).2.2.2 _ _ _ _ _ h1 hq (hC.sub ht.1 ht.2.2) (by rw [hi1]; omega) (by rw [hi1]; omega) (by rw [hi13]; omega) (by rw [hi13]; omega) (by rw [← hT, taF_s hlb hls (b01_nz.mp h46) (b01_nz.mp h55)])
          · skip
            refine x_iload_n 59 dC_tradeAll_58 rfl rfl ?_
            exact x_iret dC_tradeAll_59 rfl rfl ⟨by rw [← hT, taF_0 (Or.inr (Or.inr ⟨b, cb, s, cs, hlb, hls, Or.inr (b01_z.mp h55)⟩))], by rw [← hT, taF_0 (Or.inr (Or.inr ⟨b, cb, s, cs, hlb, hls, Or.inr (b01_z.mp h55)⟩))]; exact ⟨P, rfl, hQ, hP2⟩⟩
theorem cC_tradeAll {i : Nat} (hS : HS N (I, J, V, ls) A B h) (hC : CI N I ls) (hi : i < 2) (p : Int32) (hT0 : 0 ≤ (I 13 0).toInt) (hT1 : (I 13 0).toInt + 120 < 2147483648) : x_C l G mC_tradeAll 4 0 0 [xR (some (5, 0)), xR (some (3, i)), xI p] (h) [] (QR N (taF i p 120 (I, J, V, ls) 0) A B) := by
  obtain ⟨P, rfl, hQ, hP2⟩ := hS.out
  refine x_C.at [some (xR (some (5, 0))), some (xR (some (3, i))), some (xI p), none, none, none, none, none] rfl (Nat.le_of_ble_eq_true rfl) rfl ?_
  refine x_iconst 0 1 dC_tradeAll_0 rfl rfl ?_
  refine x_istore_n 2 dC_tradeAll_1 rfl (by decide) rfl ?_
  refine x_iconst 0 3 dC_tradeAll_2 rfl rfl ?_
  refine x_istore 5 dC_tradeAll_3 rfl (by decide) rfl ?_
  exact lp_tradeAll hi p _ 120 I J V ls 0 0 _ _ _ _ hS hC (by decide) (by decide) hT0 (by omega) rfl
end M7
end
section
section M8
variable {l : Launch} {G : xG} {N : Nat} {I : Nat → Nat → Int32} {J : Nat → Nat → Int64} {P : Nat → Nat → Option xQ} {V : Nat → Nat → Int32} {A : Nat → Nat → Int32} {B : Nat → Nat → Int64}
variable {h : xH} {ls : Nat → List Nat}
abbrev isM (m : Int32) : Int32 := b01 (¬ m < 0 ∧ ¬ 5 ≤ m)
abbrev isN (m : Int32) : Int32 := b01 (¬ m < 0 ∧ ¬ 2 ≤ m)
abbrev isH (m : Int32) : Int32 := b01 (¬ m < 0 ∧ ¬ 12 ≤ m)
abbrev isD (m : Int32) : Int32 := b01 (m = 0 ∨ m = 1)
abbrev isP (m : Int32) : Int32 := b01 (¬ m < 1 ∧ ¬ 63 < m)
theorem vM {m : Int32} (h : ¬ isM m = 0) : vp_in m 5 := by
  have := b01_nz.mp h
  refine vp_of ?_ ?_
  · have h1 := this.1; rw [i_lt] at h1; have : (0 : Int32).toInt = 0 := by decide
    omega
  · have h1 := this.2; rw [i_le] at h1; have : (5 : Int32).toInt = 5 := by decide
    omega
theorem vN {m : Int32} (h : ¬ isN m = 0) : vp_in m 2 := by
  have := b01_nz.mp h
  refine vp_of ?_ ?_
  · have h1 := this.1; rw [i_lt] at h1; have : (0 : Int32).toInt = 0 := by decide
    omega
  · have h1 := this.2; rw [i_le] at h1; have : (2 : Int32).toInt = 2 := by decide
    omega
/-- the class's state between calls: t trades at most -/
def CV (N : Nat) (I : Nat → Nat → Int32) (ls : Nat → List Nat) (t : Int) : Prop := CI N I ls ∧ (I 12 0).toInt = N ∧ N ≤ 120 ∧ 0 ≤ (I 13 0).toInt ∧ (I 13 0).toInt ≤ t
theorem CV.FD {t : Int} (q : CV N I ls t) (p : PP N P) : FD N I P := by
  intro x h0 h1
  rw [i_lt] at h0
  rw [i_le] at h1
  have e0 : (0 : Int32).toInt = 0 := by decide
  have hx : x.toNatClampNeg < N := by rw [i_nat]; have := q.2.1; omega
  exact ⟨vp_of (by omega) (by have := q.2.1; have := q.2.2.1; omega), p.1 _ hx, hx⟩
theorem Ch.sd (hQ : QS N P ls) : ∀ j < 4, Ch P (P 1 j) (ls j) := hQ.1
-- deposit
def dpS (I : Nat → Nat → Int32) (J : Nat → Nat → Int64) (V : Nat → Nat → Int32) (ls : Nat → List Nat) (m a : Int32) : Int32 × cS := if isM m = 0 then (0, (I, J, V, ls)) else if a < -1000000 then (0, (I, J, V, ls)) else if a ≤ 1000000 then (if 0 ≤ a then (1, (I, sj J 0 m.toNatClampNeg (J 0 m.toNatClampNeg + a.toInt64), V, ls)) else if 0 ≤ lg_cmp (J 0 m.toNatClampNeg + a.toInt64) (rsk I V ls m 0 0 0) then (1, (I, sj J 0 m.toNatClampNeg (J 0 m.toNatClampNeg + a.toInt64), V, ls)) else (0, (I, J, V, ls))) else (0, (I, J, V, ls))
theorem cC_deposit (hS : HS N (I, J, V, ls) A B h) (m a : Int32) : x_C l G mC_deposit 3 0 0 [xR (some (5, 0)), xI m, xI a] (h) [] (QR N (dpS I J V ls m a) A B) := by
  obtain ⟨P, rfl, hQ, hP2⟩ := hS.out
  refine x_C.at [some (xR (some (5, 0))), some (xI m), some (xI a), none] rfl (Nat.le_of_ble_eq_true rfl) rfl ?_
  refine x_iload_n 1 dC_deposit_0 rfl rfl ?_
  refine x_fSv 4 (cC_isMember _) kC_47 oC_isMember dC_deposit_1 rfl rfl (by decide) (Nat.le_of_ble_eq_true rfl) ?_
  refine x_if_eq 19 7 dC_deposit_4 (by decide) rfl (fun h4 => ?_) (fun h4 => ?_)
  · skip
    refine x_iconst 0 20 dC_deposit_19 rfl rfl ?_
    exact x_iret dC_deposit_20 rfl rfl (QR.ip h4 (⟨rfl, P, rfl, hQ, hP2⟩))
  · skip
    refine x_iload_n 8 dC_deposit_7 rfl rfl ?_
    refine x_ldc (-1000000) 10 dC_deposit_8 rfl cC_deposit_51 ?_
    refine x_icmp_lt 19 13 dC_deposit_10 (by decide) rfl (fun h10 => ?_) (fun h10 => ?_)
    · skip
      refine x_iconst 0 20 dC_deposit_19 rfl rfl ?_
      exact x_iret dC_deposit_20 rfl rfl (QR.ig h4 (QR.ip h10 (⟨rfl, P, rfl, hQ, hP2⟩)))
    · skip
      refine x_iload_n 14 dC_deposit_13 rfl rfl ?_
      refine x_ldc (1000000) 16 dC_deposit_14 rfl cC_deposit_52 ?_
      refine x_icmp_le 21 19 dC_deposit_16 (by decide) rfl (fun h16 => ?_) (fun h16 => ?_)
      · skip
        refine x_aload_n 22 dC_deposit_21 rfl rfl ?_
        refine x_get _ 25 fC_11 dC_deposit_22 rfl rfl rfl ?_
        refine x_iload_n 26 dC_deposit_25 rfl rfl ?_
        refine x_aald 27 rfl dC_deposit_26 rfl rfl (vM h4) ?_
        refine x_astore_n 28 dC_deposit_27 rfl (by decide) rfl ?_
        refine x_iload_n 29 dC_deposit_28 rfl rfl ?_
        refine x_if_ge 50 32 dC_deposit_29 (by decide) rfl (fun h29 => ?_) (fun h29 => ?_)
        · skip
          refine x_aload_n 51 dC_deposit_50 rfl rfl ?_
          refine x_dup 52 dC_deposit_51 rfl rfl ?_
          refine x_get _ 55 fC_53 dC_deposit_52 rfl (h_A (vp_lt (vM h4))) rfl ?_
          refine x_iload_n 56 dC_deposit_55 rfl rfl ?_
          refine x_i2l 57 dC_deposit_56 rfl ?_
          refine x_ladd 58 dC_deposit_57 rfl ?_
          refine y_A1 61 pC_deposit_53 dC_deposit_58 rfl (vp_lt (vM h4)) ?_
          refine x_iconst 1 62 dC_deposit_61 rfl rfl ?_
          exact x_iret dC_deposit_62 rfl rfl (QR.ig h4 (QR.ig h10 (QR.ip h16 (QR.ip h29 (⟨rfl, P, rfl, hQ, hP2⟩)))))
        · skip
          refine x_aload_n 33 dC_deposit_32 rfl rfl ?_
          refine x_get _ 36 fC_53 dC_deposit_33 rfl (h_A (vp_lt (vM h4))) rfl ?_
          refine x_iload_n 37 dC_deposit_36 rfl rfl ?_
          refine x_i2l 38 dC_deposit_37 rfl ?_
          refine x_ladd 39 dC_deposit_38 rfl ?_
          refine x_aload_n 40 dC_deposit_39 rfl rfl ?_
          refine x_iload_n 41 dC_deposit_40 rfl rfl ?_
          refine x_fVv 44 (cC_riskOf (vM h4) hQ.1 hQ.2.1) kC_57 oC_riskOf rfl rfl dC_deposit_41 rfl rfl (by decide) (Nat.le_of_ble_eq_true rfl) ?_
          refine x_lcmp 45 dC_deposit_44 rfl ?_
          refine x_if_ge 50 48 dC_deposit_45 (by decide) rfl (fun h45 => ?_) (fun h45 => ?_)
          · skip
            refine x_aload_n 51 dC_deposit_50 rfl rfl ?_
            refine x_dup 52 dC_deposit_51 rfl rfl ?_
            refine x_get _ 55 fC_53 dC_deposit_52 rfl (h_A (vp_lt (vM h4))) rfl ?_
            refine x_iload_n 56 dC_deposit_55 rfl rfl ?_
            refine x_i2l 57 dC_deposit_56 rfl ?_
            refine x_ladd 58 dC_deposit_57 rfl ?_
            refine y_A1 61 pC_deposit_53 dC_deposit_58 rfl (vp_lt (vM h4)) ?_
            refine x_iconst 1 62 dC_deposit_61 rfl rfl ?_
            exact x_iret dC_deposit_62 rfl rfl (QR.ig h4 (QR.ig h10 (QR.ip h16 (QR.ig h29 (QR.ip h45 (⟨rfl, P, rfl, hQ, hP2⟩))))))
          · skip
            refine x_iconst 0 49 dC_deposit_48 rfl rfl ?_
            exact x_iret dC_deposit_49 rfl rfl (QR.ig h4 (QR.ig h10 (QR.ip h16 (QR.ig h29 (QR.ig h45 (⟨rfl, P, rfl, hQ, hP2⟩))))))
      · skip
        refine x_iconst 0 20 dC_deposit_19 rfl rfl ?_
        exact x_iret dC_deposit_20 rfl rfl (QR.ig h4 (QR.ig h10 (QR.ig h16 (⟨rfl, P, rfl, hQ, hP2⟩))))
def cnS (I : Nat → Nat → Int32) (J : Nat → Nat → Int64) (V : Nat → Nat → Int32) (ls : Nat → List Nat) (m x : Int32) : Int32 × cS := if fndR I m x = none then (0, (I, J, V, ls)) else (1, tkS I J V ls x.toNatClampNeg 2)
theorem cC_cancel {t : Int} (hS : HS N (I, J, V, ls) A B h) (hV : CV N I ls t) (m x : Int32) : x_C l G mC_cancel 3 0 0 [xR (some (5, 0)), xI m, xI x] h [] (QR N (cnS I J V ls m x) A B) := by
  obtain ⟨P, rfl, hQ, hP2⟩ := hS.out
  have hf := hV.FD hP2
  refine x_C.at [some (xR (some (5, 0))), some (xI m), some (xI x), none] rfl (Nat.le_of_ble_eq_true rfl) rfl ?_
  rcases fndR_cs I m x with hq | ⟨g1, g2, g3, g4, hq⟩
  · skip
    refine x_aload_n 1 dC_cancel_0 rfl rfl ?_
    refine x_iload_n 2 dC_cancel_1 rfl rfl ?_
    refine x_iload_n 3 dC_cancel_2 rfl rfl ?_
    refine x_fVv 6 (cC_findResting_n hf hq) kC_99 oC_findResting rfl rfl dC_cancel_3 rfl rfl (by decide) (Nat.le_of_ble_eq_true rfl) ?_
    refine x_astore_n 7 dC_cancel_6 rfl (by decide) rfl ?_
    refine x_aload_n 8 dC_cancel_7 rfl rfl ?_
    refine x_ifnonnull_n 13 11 dC_cancel_8 (by decide) rfl ?_
    refine x_iconst 0 12 dC_cancel_11 rfl rfl ?_
    exact x_iret dC_cancel_12 rfl rfl (QR.ip hq ⟨rfl, P, rfl, hQ, hP2⟩)
  · have hqN := hq
    have hk := (hf x g1 g2).2.2
    have ok := hV.1.1 _ hk
    refine x_aload_n 1 dC_cancel_0 rfl rfl ?_
    refine x_iload_n 2 dC_cancel_1 rfl rfl ?_
    refine x_iload_n 3 dC_cancel_2 rfl rfl ?_
    refine x_fVv 6 (cC_findResting_s hf hq) kC_99 oC_findResting rfl rfl dC_cancel_3 rfl rfl (by decide) (Nat.le_of_ble_eq_true rfl) ?_
    refine x_astore_n 7 dC_cancel_6 rfl (by decide) rfl ?_
    refine x_aload_n 8 dC_cancel_7 rfl rfl ?_
    refine x_ifnonnull_s 13 11 dC_cancel_8 (by decide) rfl ?_
    refine x_aload_n 14 dC_cancel_13 rfl rfl ?_
    refine x_aload_n 15 dC_cancel_14 rfl rfl ?_
    refine x_iconst 2 16 dC_cancel_15 rfl rfl ?_
    refine x_gVn 19 (cC_takeAway hS hk ok.2.1 2) kC_103 oC_takeAway rfl rfl dC_cancel_16 rfl rfl (by decide) (Nat.le_of_ble_eq_true rfl) (fun h1 hq => ?_)
    skip
    refine x_iconst 1 20 dC_cancel_19 rfl rfl ?_
    exact x_iret dC_cancel_20 rfl rfl (QR.ig (fun z => by rw [hqN] at z; cases z) ⟨rfl, hq⟩)
def amS (I : Nat → Nat → Int32) (J : Nat → Nat → Int64) (V : Nat → Nat → Int32) (ls : Nat → List Nat) (m x q : Int32) : Int32 × cS := if fndR I m x = none then (-6, (I, J, V, ls)) else if q < 1 then (-1, (I, J, V, ls)) else if q < I 6 x.toNatClampNeg then (0, (si (si I 6 x.toNatClampNeg q) 7 x.toNatClampNeg (i_min (I 7 x.toNatClampNeg) q), J, V, ls)) else (-1, (I, J, V, ls))
theorem cC_amend {t : Int} (hS : HS N (I, J, V, ls) A B h) (hV : CV N I ls t) (m x q : Int32) : x_C l G mC_amend 2 0 0 [xR (some (5, 0)), xI m, xI x, xI q] h [] (QR N (amS I J V ls m x q) A B) := by
  obtain ⟨P, rfl, hQ, hP2⟩ := hS.out
  have hf := hV.FD hP2
  refine x_C.at [some (xR (some (5, 0))), some (xI m), some (xI x), some (xI q), none] rfl (Nat.le_of_ble_eq_true rfl) rfl ?_
  rcases fndR_cs I m x with hq | ⟨g1, g2, g3, g4, hq⟩
  · skip
    refine x_aload_n 1 dC_amend_0 rfl rfl ?_
    refine x_iload_n 2 dC_amend_1 rfl rfl ?_
    refine x_iload_n 3 dC_amend_2 rfl rfl ?_
    refine x_fVv 6 (cC_findResting_n hf hq) kC_99 oC_findResting rfl rfl dC_amend_3 rfl rfl (by decide) (Nat.le_of_ble_eq_true rfl) ?_
    refine x_astore 8 dC_amend_6 rfl (by decide) rfl ?_
    refine x_aload 10 dC_amend_8 rfl rfl ?_
    refine x_ifnonnull_n 16 13 dC_amend_10 (by decide) rfl ?_
    refine x_bipush (-6) 15 dC_amend_13 rfl rfl ?_
    exact x_iret dC_amend_15 rfl rfl (QR.ip hq ⟨rfl, P, rfl, hQ, hP2⟩)
  · have hqN := hq
    have hk := (hf x g1 g2).2.2
    have ok := hV.1.1 _ hk
    refine x_aload_n 1 dC_amend_0 rfl rfl ?_
    refine x_iload_n 2 dC_amend_1 rfl rfl ?_
    refine x_iload_n 3 dC_amend_2 rfl rfl ?_
    refine x_fVv 6 (cC_findResting_s hf hq) kC_99 oC_findResting rfl rfl dC_amend_3 rfl rfl (by decide) (Nat.le_of_ble_eq_true rfl) ?_
    refine x_astore 8 dC_amend_6 rfl (by decide) rfl ?_
    refine x_aload 10 dC_amend_8 rfl rfl ?_
    refine x_ifnonnull_s 16 13 dC_amend_10 (by decide) rfl ?_
    refine x_iload_n 17 dC_amend_16 rfl rfl ?_
    refine x_iconst 1 18 dC_amend_17 rfl rfl ?_
    refine x_icmp_lt 30 21 dC_amend_18 (by decide) rfl (fun h18 => ?_) (fun h18 => ?_)
    · skip
      refine x_iconst (-1) 31 dC_amend_30 rfl rfl ?_
      exact x_iret dC_amend_31 rfl rfl (QR.ig (fun z => by rw [hq] at z; cases z) (QR.ip h18 (⟨rfl, P, rfl, hQ, hP2⟩)))
    · skip
      refine x_iload_n 22 dC_amend_21 rfl rfl ?_
      refine x_aload 24 dC_amend_22 rfl rfl ?_
      refine x_get _ 27 fC_107 dC_amend_24 rfl (h_O (by assumption)) rfl ?_
      refine x_icmp_lt 32 30 dC_amend_27 (by decide) rfl (fun h27 => ?_) (fun h27 => ?_)
      · skip
        refine x_aload 34 dC_amend_32 rfl rfl ?_
        refine x_iload_n 35 dC_amend_34 rfl rfl ?_
        refine y_O6 38 pC_amend_107 dC_amend_35 rfl (by assumption) ?_
        refine x_aload 40 dC_amend_38 rfl rfl ?_
        refine x_aload 42 dC_amend_40 rfl rfl ?_
        refine x_get _ 45 fC_110 dC_amend_42 rfl (h_O (by assumption)) rfl ?_
        refine x_iload_n 46 dC_amend_45 rfl rfl ?_
        refine x_mmin 49 kC_113 dC_amend_46 rfl (by decide) (Nat.le_of_ble_eq_true rfl) ?_
        refine y_O7 52 pC_amend_110 dC_amend_49 rfl (by assumption) ?_
        refine x_iconst 0 53 dC_amend_52 rfl rfl ?_
        exact x_iret dC_amend_53 rfl rfl (QR.ig (fun z => by rw [hq] at z; cases z) (QR.ig h18 (QR.ip h27 (⟨rfl, P, rfl, hQ, hP2⟩))))
      · skip
        refine x_iconst (-1) 31 dC_amend_30 rfl rfl ?_
        exact x_iret dC_amend_31 rfl rfl (QR.ig (fun z => by rw [hq] at z; cases z) (QR.ig h18 (QR.ig h27 (⟨rfl, P, rfl, hQ, hP2⟩))))
def clS (I : Nat → Nat → Int32) (J : Nat → Nat → Int64) (V : Nat → Nat → Int32) (ls : Nat → List Nat) (i : Int32) : Int32 × cS := if isN i = 0 then (-1, (I, J, V, ls)) else if I 10 i.toNatClampNeg = 0 then (-3, (I, J, V, ls)) else (0, (si I 10 i.toNatClampNeg 0, J, V, ls))
theorem cC_close (hS : HS N (I, J, V, ls) A B h) (i : Int32) : x_C l G mC_close 1 0 0 [xR (some (5, 0)), xI i] (h) [] (QR N (clS I J V ls i) A B) := by
  obtain ⟨P, rfl, hQ, hP2⟩ := hS.out
  refine x_C.at [some (xR (some (5, 0))), some (xI i)] rfl (Nat.le_of_ble_eq_true rfl) rfl ?_
  refine x_iload_n 1 dC_close_0 rfl rfl ?_
  refine x_fSv 4 (cC_isInstrument _) kC_61 oC_isInstrument dC_close_1 rfl rfl (by decide) (Nat.le_of_ble_eq_true rfl) ?_
  refine x_if_ne 9 7 dC_close_4 (by decide) rfl (fun h4 => ?_) (fun h4 => ?_)
  · skip
    refine x_aload_n 10 dC_close_9 rfl rfl ?_
    refine x_get _ 13 fC_17 dC_close_10 rfl rfl rfl ?_
    refine x_iload_n 14 dC_close_13 rfl rfl ?_
    refine x_aald 15 rfl dC_close_14 rfl rfl (vN h4) ?_
    refine x_get _ 18 fC_74 dC_close_15 rfl (h_B (vp_lt (vN h4))) rfl ?_
    refine x_if_ne 24 21 dC_close_18 (by decide) rfl (fun h18 => ?_) (fun h18 => ?_)
    · skip
      refine x_aload_n 25 dC_close_24 rfl rfl ?_
      refine x_get _ 28 fC_17 dC_close_25 rfl rfl rfl ?_
      refine x_iload_n 29 dC_close_28 rfl rfl ?_
      refine x_aald 30 rfl dC_close_29 rfl rfl (vN h4) ?_
      refine x_iconst 0 31 dC_close_30 rfl rfl ?_
      refine y_B2 34 pC_close_74 dC_close_31 rfl (vp_lt (vN h4)) (fun _ => ⟨rfl, rfl⟩) ?_
      refine x_iconst 0 35 dC_close_34 rfl rfl ?_
      exact x_iret dC_close_35 rfl rfl (QR.ig h4 (QR.ig h18 (⟨rfl, P, rfl, hQ, hP2⟩)))
    · skip
      refine x_bipush (-3) 23 dC_close_21 rfl rfl ?_
      exact x_iret dC_close_23 rfl rfl (QR.ig h4 (QR.ip h18 (⟨rfl, P, rfl, hQ, hP2⟩)))
  · skip
    refine x_iconst (-1) 8 dC_close_7 rfl rfl ?_
    exact x_iret dC_close_8 rfl rfl (QR.ip h4 (⟨rfl, P, rfl, hQ, hP2⟩))
end M8
end
section
section M8b
variable {l : Launch} {G : xG} {N : Nat} {I : Nat → Nat → Int32} {J : Nat → Nat → Int64} {P : Nat → Nat → Option xQ} {V : Nat → Nat → Int32} {A : Nat → Nat → Int32} {B : Nat → Nat → Int64}
variable {h : xH} {ls : Nat → List Nat}
theorem wgB_ne (c0 : Nat) : ∀ (c : List Nat) (I : Nat → Nat → Int32) (x : Nat), x ≠ c0 → wgB c0 I c x = I x
  | [], _, _, _ => rfl
  | o :: c, I, x, h => by
    rw [wgB, wgB_ne c0 c _ x h]
    exact if_neg h
theorem cumB_ne : ∀ (n : Nat) (p : Int32) (I : Nat → Nat → Int32) (x : Nat), x ≠ 15 → cumB n p I x = I x
  | 0, _, _, _, _ => rfl
  | n + 1, p, I, x, h => by
    rw [cumB, cumB_ne n _ _ x h]
    exact if_neg h
theorem cumS_ne : ∀ (n : Nat) (p : Int32) (I : Nat → Nat → Int32) (x : Nat), x ≠ 16 → cumS n p I x = I x
  | 0, _, _, _, _ => rfl
  | n + 1, p, I, x, h => by
    rw [cumS, cumS_ne n _ _ x h]
    exact if_neg h
theorem wgh_ne (I : Nat → Nat → Int32) (cb cs : List Nat) {x : Nat} (h5 : x ≠ 15) (h6 : x ≠ 16) : wgh I cb cs x = I x := by
  unfold wgh
  rw [cumS_ne _ _ _ _ h6, cumB_ne _ _ _ _ h5, wgB_ne _ _ _ _ h6, wgB_ne _ _ _ _ h5]
  show (if x = 16 then _ else (if x = 15 then _ else I x)) = I x
  rw [if_neg h6, if_neg h5]
theorem wgh_KP (I : Nat → Nat → Int32) (cb cs : List Nat) : KP I (wgh I cb cs) ∧ wgh I cb cs 13 = I 13 := by
  refine ⟨⟨?_, ?_, ?_, ?_, ?_, ?_, ?_, ?_⟩, ?_⟩ <;> exact wgh_ne I cb cs (by decide) (by decide)
theorem seal_ex {α : Type} (x : α) : ∃ y : α, y = x := ⟨x, rfl⟩
/-- a value that no unfolding opens -/
noncomputable def sealed {α : Type} (x : α) : α := Classical.choose (seal_ex x)
theorem sealed_eq {α : Type} (x : α) : sealed x = x := Classical.choose_spec (seal_ex x)
noncomputable def wgL (I : Nat → Nat → Int32) (ls : Nat → List Nat) (i : Nat) : Nat → Nat → Int32 := sealed (wgh I (ls (2 * i)) (ls (2 * i + 1)))
noncomputable def cprice (I : Nat → Nat → Int32) (ls : Nat → List Nat) (i : Nat) : Int32 := sealed (fcp (wgL I ls i) (wgL I ls i 11 i) 63 1 0 0)
theorem wgL_eq (I : Nat → Nat → Int32) (ls : Nat → List Nat) (i : Nat) : wgL I ls i = wgh I (ls (2 * i)) (ls (2 * i + 1)) := sealed_eq _
theorem cprice_eq (I : Nat → Nat → Int32) (ls : Nat → List Nat) (i : Nat) : cprice I ls i = fcp (wgh I (ls (2 * i)) (ls (2 * i + 1))) (wgh I (ls (2 * i)) (ls (2 * i + 1)) 11 i) 63 1 0 0 := by
  unfold cprice
  rw [sealed_eq, wgL_eq]
theorem h5_of (hC : CI N I ls) (hQ : QS N P ls) {j : Nat} (hj : j < 4) : ∀ o ∈ ls j, vp_in (I 5 o) 65 := fun o ho => by
  have := (hC.1 o (hQ.2.1 j hj o ho)).2.2.2
  exact vp_of (by omega) (by omega)
theorem cS_fcp {i : Nat} (hC : CI N I ls) (hQ : QS N P ls) (hi : i < 2) : x_C l G mS_findCallPrice 3 0 0 [xR (some (11, 0)), xR (some (3, i))] (hp N I J P V A B) [] (x_is (some (xI (cprice I ls i))) (hp N (wgL I ls i) J P V A B)) := by
  rw [cprice_eq, wgL_eq]
  have a0 : 2 * i < 4 := by omega
  have a1 : 2 * i + 1 < 4 := by omega
  exact cS_findCallPrice (cb := ls (2 * i)) (cs := ls (2 * i + 1)) hi (hQ.1 _ a0) (hQ.2.1 _ a0) (hQ.1 _ a1) (hQ.2.1 _ a1) (h5_of hC hQ a0) (h5_of hC hQ a1)
noncomputable def opS (I : Nat → Nat → Int32) (J : Nat → Nat → Int64) (V : Nat → Nat → Int32) (ls : Nat → List Nat) (i : Int32) : Int32 × cS := if isN i = 0 then (-1, (I, J, V, ls)) else if I 10 i.toNatClampNeg = 0 then (if cprice I ls i.toNatClampNeg = 0 then (0, (si (wgL I ls i.toNatClampNeg) 10 i.toNatClampNeg 1, J, V, ls)) else taF i.toNatClampNeg (cprice I ls i.toNatClampNeg) 120 (si (wgL I ls i.toNatClampNeg) 10 i.toNatClampNeg 1, J, V, ls) 0) else (-3, (I, J, V, ls))
theorem wgL_KP (I : Nat → Nat → Int32) (ls : Nat → List Nat) (i : Nat) : KP I (wgL I ls i) ∧ wgL I ls i 13 = I 13 := by rw [wgL_eq]; exact wgh_KP I (ls (2 * i)) (ls (2 * i + 1))
theorem CI.wgx {W : Nat → Nat → Int32} (q : CI N I ls) (k : KP I W) (x : Nat) (v : Int32) : CI N (si W 10 x v) ls := by
  refine CI.re (I' := si W 10 x v) (ls' := ls) q ?_ ?_ ?_ ?_ (fun _ _ _ h => Or.inl h)
  · show W 1 = I 1; exact k.2.1
  · show W 2 = I 2; exact k.2.2.1
  · show W 3 = I 3; exact k.2.2.2.1
  · show W 5 = I 5; exact k.2.2.2.2.2.1
theorem si_13 (W : Nat → Nat → Int32) (x : Nat) (v : Int32) : si W 10 x v 13 0 = W 13 0 := rfl
theorem CI.wg (q : CI N I ls) (i x : Nat) (v : Int32) : CI N (si (wgL I ls i) 10 x v) ls := CI.wgx q (wgL_KP I ls i).1 x v
theorem wg_13 (I : Nat → Nat → Int32) (ls : Nat → List Nat) (i x : Nat) (v : Int32) : si (wgL I ls i) 10 x v 13 0 = I 13 0 := (si_13 (wgL I ls i) x v).trans (congrFun (wgL_KP I ls i).2 0)

end M8b
end
section
section M8c
variable {l : Launch} {G : xG} {N : Nat} {I : Nat → Nat → Int32} {J : Nat → Nat → Int64} {P : Nat → Nat → Option xQ} {V : Nat → Nat → Int32} {A : Nat → Nat → Int32} {B : Nat → Nat → Int64}
variable {h : xH} {ls : Nat → List Nat}
theorem cC_open {t : Int} (hS : HS N (I, J, V, ls) A B h) (hV : CV N I ls t) (ht : t + 120 < 2147483648) (i : Int32) : x_C l G mC_open 5 0 0 [xR (some (5, 0)), xI i] (h) [] (QR N (opS I J V ls i) A B) := by
  obtain ⟨P, rfl, hQ, hP2⟩ := hS.out
  refine x_C.at [some (xR (some (5, 0))), some (xI i), none, none] rfl (Nat.le_of_ble_eq_true rfl) rfl ?_
  refine x_iload_n 1 dC_open_0 rfl rfl ?_
  refine x_fSv 4 (cC_isInstrument _) kC_61 oC_isInstrument dC_open_1 rfl rfl (by decide) (Nat.le_of_ble_eq_true rfl) ?_
  refine x_if_ne 9 7 dC_open_4 (by decide) rfl (fun h4 => ?_) (fun h4 => ?_)
  · skip
    refine x_aload_n 10 dC_open_9 rfl rfl ?_
    refine x_get _ 13 fC_17 dC_open_10 rfl rfl rfl ?_
    refine x_iload_n 14 dC_open_13 rfl rfl ?_
    refine x_aald 15 rfl dC_open_14 rfl rfl (vN h4) ?_
    refine x_astore_n 16 dC_open_15 rfl (by decide) rfl ?_
    refine x_aload_n 17 dC_open_16 rfl rfl ?_
    refine x_get _ 20 fC_74 dC_open_17 rfl (h_B (vp_lt (vN h4))) rfl ?_
    refine x_if_eq 26 23 dC_open_20 (by decide) rfl (fun h20 => ?_) (fun h20 => ?_)
    · skip
      refine x_aload_n 27 dC_open_26 rfl rfl ?_
      refine x_get _ 30 fC_37 dC_open_27 rfl rfl rfl ?_
      refine x_aload_n 31 dC_open_30 rfl rfl ?_
      refine x_fVv 34 (cS_fcp hV.1 hQ (vp_lt (vN h4))) kC_119 oS_findCallPrice rfl rfl dC_open_31 rfl rfl (by decide) (Nat.le_of_ble_eq_true rfl) ?_
      refine x_istore_n 35 dC_open_34 rfl (by decide) rfl ?_
      refine x_aload_n 36 dC_open_35 rfl rfl ?_
      refine x_iconst 1 37 dC_open_36 rfl rfl ?_
      refine y_B2 40 pC_open_74 dC_open_37 rfl (vp_lt (vN h4)) (fun _ => ⟨rfl, rfl⟩) ?_
      refine x_iload_n 41 dC_open_40 rfl rfl ?_
      refine x_if_ne 48 44 dC_open_41 (by decide) rfl (fun h41 => ?_) (fun h41 => ?_)
      · skip
        refine x_aload_n 49 dC_open_48 rfl rfl ?_
        refine x_aload_n 50 dC_open_49 rfl rfl ?_
        refine x_iload_n 51 dC_open_50 rfl rfl ?_
        refine x_gVv 54 (cC_tradeAll (I := si (wgL I ls i.toNatClampNeg) 10 i.toNatClampNeg 1) (ls := ls) (by exact ⟨P, rfl, hQ, hP2⟩) (hV.1.wg _ _ _) (vp_lt (vN h4)) _ (by rw [wg_13]; exact hV.2.2.2.1) (by rw [wg_13]; have := hV.2.2.2.2; omega)) kC_123 oC_tradeAll rfl rfl dC_open_51 rfl rfl (by decide) (Nat.le_of_ble_eq_true rfl) (fun h1 hq => ?_)
        skip
        exact x_iret dC_open_54 rfl rfl (QR.ig h4 (QR.ip h20 (QR.ig h41 (⟨rfl, hq⟩))))
      · skip
        refine x_iconst 0 45 dC_open_44 rfl rfl ?_
        refine x_goto 54 dC_open_45 (by decide) ?_
        exact x_iret dC_open_54 rfl rfl (QR.ig h4 (QR.ip h20 (QR.ip h41 (⟨rfl, P, rfl, hQ, hP2⟩))))
    · skip
      refine x_bipush (-3) 25 dC_open_23 rfl rfl ?_
      exact x_iret dC_open_25 rfl rfl (QR.ig h4 (QR.ig h20 (⟨rfl, P, rfl, hQ, hP2⟩)))
  · skip
    refine x_iconst (-1) 8 dC_open_7 rfl rfl ?_
    exact x_iret dC_open_8 rfl rfl (QR.ip h4 (⟨rfl, P, rfl, hQ, hP2⟩))

end M8c
end
section
section M8d
variable {l : Launch} {G : xG} {N : Nat} {I : Nat → Nat → Int32} {J : Nat → Nat → Int64} {P : Nat → Nat → Option xQ} {V : Nat → Nat → Int32} {A : Nat → Nat → Int32} {B : Nat → Nat → Int64}
variable {h : xH} {ls : Nat → List Nat}
theorem chs_rng (v g rf : Int32) : ∀ (n : Nat) (p le gr ne amb ams : Int32), p.toInt + n = 64 → 1 ≤ p.toInt → (0 ≤ le.toInt ∧ le.toInt ≤ 63) → (0 ≤ gr.toInt ∧ gr.toInt ≤ 63) → (0 ≤ ne.toInt ∧ ne.toInt ≤ 63) → 0 ≤ (chs I v g rf n p le gr ne amb ams).toInt ∧ (chs I v g rf n p le gr ne amb ams).toInt ≤ 63 := by
  intro n
  induction n with
  | zero =>
    intro p le gr ne amb ams _ _ h1 h2 h3
    unfold chs
    split
    · split
      · exact h3
      · exact h1
    · exact h2
  | succ n ih =>
    intro p le gr ne amb ams hp1 hp2 h1 h2 h3
    have e := i_inc (p := p) (by omega) (by omega)
    unfold chs
    split
    · split
      · refine ih _ _ _ _ _ _ (by rw [e]; omega) (by rw [e]; omega) ?_ (by omega) ?_
        · split
          · omega
          · exact h1
        · split
          · omega
          · split
            · exact h3
            · omega
      · exact ih _ _ _ _ _ _ (by rw [e]; omega) (by rw [e]; omega) h1 h2 h3
    · exact ih _ _ _ _ _ _ (by rw [e]; omega) (by rw [e]; omega) h1 h2 h3
theorem fcp_rng (rf : Int32) : ∀ (n : Nat) (p mv lg : Int32), 0 ≤ (fcp I rf n p mv lg).toInt ∧ (fcp I rf n p mv lg).toInt ≤ 63 := by
  intro n
  induction n with
  | zero =>
    intro p mv lg
    unfold fcp
    split
    · decide
    · exact chs_rng _ _ _ 63 1 0 0 0 1 1 (by decide) (by decide) (by decide) (by decide) (by decide)
  | succ n ih =>
    intro p mv lg
    unfold fcp
    split
    · exact ih _ _ _
    · split
      · split
        · exact ih _ _ _
        · exact ih _ _ _
      · exact ih _ _ _
theorem cprice_in (i : Nat) : vp_in (cprice I ls i) 65 := by
  have := fcp_rng (I := wgh I (ls (2 * i)) (ls (2 * i + 1))) (wgh I (ls (2 * i)) (ls (2 * i + 1)) 11 i) 63 1 0 0
  rw [← cprice_eq] at this
  exact vp_of this.1 (by omega)
noncomputable def inS (I : Nat → Nat → Int32) (J : Nat → Nat → Int64) (V : Nat → Nat → Int32) (ls : Nat → List Nat) (i p : Int32) : Int32 × cS := if isN i = 0 then (-1, (I, J, V, ls)) else if cprice I ls i.toNatClampNeg = 0 then (-6, (wgL I ls i.toNatClampNeg, J, V, ls)) else if p = 0 then (cprice I ls i.toNatClampNeg, (wgL I ls i.toNatClampNeg, J, V, ls)) else if p = 1 then (vol (wgL I ls i.toNatClampNeg) (cprice I ls i.toNatClampNeg), (wgL I ls i.toNatClampNeg, J, V, ls)) else if p = 2 then (sur (wgL I ls i.toNatClampNeg) (cprice I ls i.toNatClampNeg), (wgL I ls i.toNatClampNeg, J, V, ls)) else (-1, (wgL I ls i.toNatClampNeg, J, V, ls))

end M8d
end
section
section M8e
variable {l : Launch} {G : xG} {N : Nat} {I : Nat → Nat → Int32} {J : Nat → Nat → Int64} {P : Nat → Nat → Option xQ} {V : Nat → Nat → Int32} {A : Nat → Nat → Int32} {B : Nat → Nat → Int64}
variable {h : xH} {ls : Nat → List Nat}
theorem cC_indication {t : Int} (hS : HS N (I, J, V, ls) A B h) (hV : CV N I ls t) (i p : Int32) : x_C l G mC_indication 4 0 0 [xR (some (5, 0)), xI i, xI p] (h) [] (QR N (inS I J V ls i p) A B) := by
  obtain ⟨P, rfl, hQ, hP2⟩ := hS.out
  refine x_C.at [some (xR (some (5, 0))), some (xI i), some (xI p), none] rfl (Nat.le_of_ble_eq_true rfl) rfl ?_
  refine x_iload_n 1 dC_indication_0 rfl rfl ?_
  refine x_fSv 4 (cC_isInstrument _) kC_61 oC_isInstrument dC_indication_1 rfl rfl (by decide) (Nat.le_of_ble_eq_true rfl) ?_
  refine x_if_ne 9 7 dC_indication_4 (by decide) rfl (fun h4 => ?_) (fun h4 => ?_)
  · skip
    refine x_aload_n 10 dC_indication_9 rfl rfl ?_
    refine x_get _ 13 fC_37 dC_indication_10 rfl rfl rfl ?_
    refine x_aload_n 14 dC_indication_13 rfl rfl ?_
    refine x_get _ 17 fC_17 dC_indication_14 rfl rfl rfl ?_
    refine x_iload_n 18 dC_indication_17 rfl rfl ?_
    refine x_aald 19 rfl dC_indication_18 rfl rfl (vN h4) ?_
    refine x_fVv 22 (cS_fcp hV.1 hQ (vp_lt (vN h4))) kC_119 oS_findCallPrice rfl rfl dC_indication_19 rfl rfl (by decide) (Nat.le_of_ble_eq_true rfl) ?_
    refine x_istore_n 23 dC_indication_22 rfl (by decide) rfl ?_
    refine x_iload_n 24 dC_indication_23 rfl rfl ?_
    refine x_if_ne 30 27 dC_indication_24 (by decide) rfl (fun h24 => ?_) (fun h24 => ?_)
    · skip
      refine x_iload_n 31 dC_indication_30 rfl rfl ?_
      by_cases p0 : p = 0
      · skip
        refine x_tableIn (off := 25) 56 dC_indication_31 (by rw [p0]; decide) (by rw [p0]; decide) (by rw [p0]; rfl) (by decide) ?_
        refine x_iload_n 57 dC_indication_56 rfl rfl ?_
        exact x_iret dC_indication_57 rfl rfl (QR.ig h4 (QR.ig h24 (QR.ip p0 ⟨rfl, P, rfl, hQ, hP2⟩)))
      · by_cases p1 : p = 1
        · skip
          refine x_tableIn (off := 27) 58 dC_indication_31 (by rw [p1]; decide) (by rw [p1]; decide) (by rw [p1]; rfl) (by decide) ?_
          refine x_aload_n 59 dC_indication_58 rfl rfl ?_
          refine x_get _ 62 fC_37 dC_indication_59 rfl rfl rfl ?_
          refine x_iload_n 63 dC_indication_62 rfl rfl ?_
          refine x_fVv 66 (cS_volumeAt (cprice_in _)) kC_127 oS_volumeAt rfl rfl dC_indication_63 rfl rfl (by decide) (Nat.le_of_ble_eq_true rfl) ?_
          exact x_iret dC_indication_66 rfl rfl (QR.ig h4 (QR.ig h24 (QR.ig p0 (QR.ip p1 ⟨rfl, P, rfl, hQ, hP2⟩))))
        · by_cases p2 : p = 2
          · skip
            refine x_tableIn (off := 36) 67 dC_indication_31 (by rw [p2]; decide) (by rw [p2]; decide) (by rw [p2]; rfl) (by decide) ?_
            refine x_aload_n 68 dC_indication_67 rfl rfl ?_
            refine x_get _ 71 fC_37 dC_indication_68 rfl rfl rfl ?_
            refine x_iload_n 72 dC_indication_71 rfl rfl ?_
            refine x_fVv 75 (cS_surplusAt (cprice_in _)) kC_130 oS_surplusAt rfl rfl dC_indication_72 rfl rfl (by decide) (Nat.le_of_ble_eq_true rfl) ?_
            exact x_iret dC_indication_75 rfl rfl (QR.ig h4 (QR.ig h24 (QR.ig p0 (QR.ig p1 (QR.ip p2 ⟨rfl, P, rfl, hQ, hP2⟩)))))
          · refine x_tableOut 76 dC_indication_31 ?_ (by decide) ?_
            · have a0 : p.toInt ≠ 0 := fun q => p0 (Int32.toInt_inj.mp (by rw [q]; decide))
              have a1 : p.toInt ≠ 1 := fun q => p1 (Int32.toInt_inj.mp (by rw [q]; decide))
              have a2 : p.toInt ≠ 2 := fun q => p2 (Int32.toInt_inj.mp (by rw [q]; decide))
              omega
            · refine x_iconst (-1) 77 dC_indication_76 rfl rfl ?_
              exact x_iret dC_indication_77 rfl rfl (QR.ig h4 (QR.ig h24 (QR.ig p0 (QR.ig p1 (QR.ig p2 ⟨rfl, P, rfl, hQ, hP2⟩)))))
    · skip
      refine x_bipush (-6) 29 dC_indication_27 rfl rfl ?_
      exact x_iret dC_indication_29 rfl rfl (QR.ig h4 (QR.ip h24 (⟨rfl, P, rfl, hQ, hP2⟩)))
  · skip
    refine x_iconst (-1) 8 dC_indication_7 rfl rfl ?_
    exact x_iret dC_indication_8 rfl rfl (QR.ip h4 (⟨rfl, P, rfl, hQ, hP2⟩))

end M8e
end
section
section M9
variable {l : Launch} {G : xG} {N : Nat} {I : Nat → Nat → Int32} {J : Nat → Nat → Int64} {P : Nat → Nat → Option xQ} {V : Nat → Nat → Int32} {A : Nat → Nat → Int32} {B : Nat → Nat → Int64}
variable {h : xH} {ls : Nat → List Nat}
def bsA (I : Nat → Nat → Int32) (ls : Nat → List Nat) (i s : Int32) : Int32 := if isN i = 0 then -1 else if isD s = 0 then -1 else match ls (sdx i.toNatClampNeg s) with
  | [] => -6
  | o :: _ => I 5 o
def deA (I : Nat → Nat → Int32) (ls : Nat → List Nat) (i s p : Int32) : Int32 := if isN i = 0 then -1 else if isD s = 0 then -1 else if isP p = 0 then -1 else siq I p none 0 (ls (sdx i.toNatClampNeg s))
def ahA (I : Nat → Nat → Int32) (ls : Nat → List Nat) (x : Int32) : Int32 := if fnd I x = none then -6 else if I 8 x.toNatClampNeg = 0 then siq I (I 5 x.toNatClampNeg) (some (0, x.toNatClampNeg)) 0 (ls (sdx (I 2 x.toNatClampNeg).toNatClampNeg (I 3 x.toNatClampNeg))) else -6
def lfA (I : Nat → Nat → Int32) (c : Nat) (x : Int32) : Int32 := if fnd I x = none then -1 else I c x.toNatClampNeg
def trA (I : Nat → Nat → Int32) (k p : Int32) : Int32 := if p < 0 then -1 else if p < 4 then (if b01 (¬ k < 0 ∧ ¬ I 13 0 ≤ k ∧ ¬ k < I 13 0 - 100) = 0 then -6 else I 14 (trow k + p).toNatClampNeg) else -1
def poA (V : Nat → Nat → Int32) (m i : Int32) : Int32 := if isM m = 0 then 0 else if isN i = 0 then 0 else V m.toNatClampNeg i.toNatClampNeg
def moA (J : Nat → Nat → Int64) (c : Nat) (m : Int32) : Int64 := if isM m = 0 then 0 else J c m.toNatClampNeg
def riA (I V : Nat → Nat → Int32) (ls : Nat → List Nat) (m : Int32) : Int64 := if isM m = 0 then 0 else rsk I V ls m 0 0 0
theorem trow_p {k p : Int32} (hk : 0 ≤ k.toInt) (h0 : 0 ≤ p.toInt) (h4 : p.toInt < 4) : vp_in (trow k + p) 400 := by
  have e := (trow_in hk).1
  have a : (trow k + p).toInt = (trow k).toInt + p.toInt := Kit.i32_add (by rw [e]; omega) (by rw [e]; omega)
  exact vp_of (by rw [a, e]; omega) (by rw [a, e]; omega)
theorem cC_best (hS : HS N (I, J, V, ls) A B h) (i s : Int32) : x_C l G mC_best 1 0 0 [xR (some (5, 0)), xI i, xI s] h [] (x_is (some (xI (bsA I ls i s))) h) := by
  obtain ⟨P, rfl, hQ, hP2⟩ := hS.out
  refine x_C.at [some (xR (some (5, 0))), some (xI i), some (xI s), none] rfl (Nat.le_of_ble_eq_true rfl) rfl ?_
  cases hl : ls (sdx i.toNatClampNeg s) with
  | nil =>
    refine x_iload_n 1 dC_best_0 rfl rfl ?_
    refine x_fSv 4 (cC_isInstrument _) kC_61 oC_isInstrument dC_best_1 rfl rfl (by decide) (Nat.le_of_ble_eq_true rfl) ?_
    refine x_if_eq 14 7 dC_best_4 (by decide) rfl (fun h4 => ?_) (fun h4 => ?_)
    · skip
      refine x_iconst (-1) 15 dC_best_14 rfl rfl ?_
      exact x_iret dC_best_15 rfl rfl ⟨by unfold bsA; simp only [if_pos h4], rfl⟩
    · skip
      refine x_iload_n 8 dC_best_7 rfl rfl ?_
      refine x_fSv 11 (cC_isSide _) kC_133 oC_isSide dC_best_8 rfl rfl (by decide) (Nat.le_of_ble_eq_true rfl) ?_
      refine x_if_ne 16 14 dC_best_11 (by decide) rfl (fun h11 => ?_) (fun h11 => ?_)
      · skip
        refine x_aload_n 17 dC_best_16 rfl rfl ?_
        refine x_get _ 20 fC_17 dC_best_17 rfl rfl rfl ?_
        refine x_iload_n 21 dC_best_20 rfl rfl ?_
        refine x_aald 22 rfl dC_best_21 rfl rfl (vN h4) ?_
        refine x_iload_n 23 dC_best_22 rfl rfl ?_
        refine x_fVv 26 (cB_on (vp_lt (vN h4)) _) kC_136 oB_on rfl (h_B (vp_lt (vN h4))) dC_best_23 rfl rfl (by decide) (Nat.le_of_ble_eq_true rfl) ?_
        refine x_get _ 29 fC_140 dC_best_26 rfl (h_D (sdx_lt (vp_lt (vN h4)) _)) rfl ?_
        have hch := hQ.1 _ (sdx_lt (vp_lt (vN h4)) s)
        rw [hl] at hch
        rw [show P 1 (sdx i.toNatClampNeg s) = none from hch]
        refine x_astore_n 30 dC_best_29 rfl (by decide) rfl ?_
        refine x_aload_n 31 dC_best_30 rfl rfl ?_
        refine x_ifnonnull_n 39 34 dC_best_31 (by decide) rfl ?_
        refine x_bipush (-6) 36 dC_best_34 rfl rfl ?_
        refine x_goto 43 dC_best_36 (by decide) ?_
        exact x_iret dC_best_43 rfl rfl ⟨by unfold bsA; simp only [if_neg h4, if_neg h11, hl], rfl⟩
      · skip
        refine x_iconst (-1) 15 dC_best_14 rfl rfl ?_
        exact x_iret dC_best_15 rfl rfl ⟨by unfold bsA; simp only [if_neg h4, if_pos h11], rfl⟩
  | cons o c =>
    refine x_iload_n 1 dC_best_0 rfl rfl ?_
    refine x_fSv 4 (cC_isInstrument _) kC_61 oC_isInstrument dC_best_1 rfl rfl (by decide) (Nat.le_of_ble_eq_true rfl) ?_
    refine x_if_eq 14 7 dC_best_4 (by decide) rfl (fun h4 => ?_) (fun h4 => ?_)
    · skip
      refine x_iconst (-1) 15 dC_best_14 rfl rfl ?_
      exact x_iret dC_best_15 rfl rfl ⟨by unfold bsA; simp only [if_pos h4], rfl⟩
    · skip
      refine x_iload_n 8 dC_best_7 rfl rfl ?_
      refine x_fSv 11 (cC_isSide _) kC_133 oC_isSide dC_best_8 rfl rfl (by decide) (Nat.le_of_ble_eq_true rfl) ?_
      refine x_if_ne 16 14 dC_best_11 (by decide) rfl (fun h11 => ?_) (fun h11 => ?_)
      · skip
        refine x_aload_n 17 dC_best_16 rfl rfl ?_
        refine x_get _ 20 fC_17 dC_best_17 rfl rfl rfl ?_
        refine x_iload_n 21 dC_best_20 rfl rfl ?_
        refine x_aald 22 rfl dC_best_21 rfl rfl (vN h4) ?_
        refine x_iload_n 23 dC_best_22 rfl rfl ?_
        refine x_fVv 26 (cB_on (vp_lt (vN h4)) _) kC_136 oB_on rfl (h_B (vp_lt (vN h4))) dC_best_23 rfl rfl (by decide) (Nat.le_of_ble_eq_true rfl) ?_
        refine x_get _ 29 fC_140 dC_best_26 rfl (h_D (sdx_lt (vp_lt (vN h4)) _)) rfl ?_
        have hch := hQ.1 _ (sdx_lt (vp_lt (vN h4)) s)
        rw [hl] at hch
        have ho := hQ.2.1 _ (sdx_lt (vp_lt (vN h4)) s) o (by rw [hl]; exact List.mem_cons_self)
        rw [show P 1 (sdx i.toNatClampNeg s) = some (0, o) from hch.1]
        refine x_astore_n 30 dC_best_29 rfl (by decide) rfl ?_
        refine x_aload_n 31 dC_best_30 rfl rfl ?_
        refine x_ifnonnull_s 39 34 dC_best_31 (by decide) rfl ?_
        refine x_aload_n 40 dC_best_39 rfl rfl ?_
        refine x_get _ 43 fC_146 dC_best_40 rfl (h_O (by assumption)) rfl ?_
        exact x_iret dC_best_43 rfl rfl ⟨by unfold bsA; simp only [if_neg h4, if_neg h11, hl], rfl⟩
      · skip
        refine x_iconst (-1) 15 dC_best_14 rfl rfl ?_
        exact x_iret dC_best_15 rfl rfl ⟨by unfold bsA; simp only [if_neg h4, if_pos h11], rfl⟩
theorem cC_depth (hS : HS N (I, J, V, ls) A B h) (i s p : Int32) : x_C l G mC_depth 1 0 0 [xR (some (5, 0)), xI i, xI s, xI p] (h) [] (x_is (some (xI (deA I ls i s p))) h) := by
  obtain ⟨P, rfl, hQ, hP2⟩ := hS.out
  refine x_C.at [some (xR (some (5, 0))), some (xI i), some (xI s), some (xI p)] rfl (Nat.le_of_ble_eq_true rfl) rfl ?_
  refine x_iload_n 1 dC_depth_0 rfl rfl ?_
  refine x_fSv 4 (cC_isInstrument _) kC_61 oC_isInstrument dC_depth_1 rfl rfl (by decide) (Nat.le_of_ble_eq_true rfl) ?_
  refine x_if_eq 21 7 dC_depth_4 (by decide) rfl (fun h4 => ?_) (fun h4 => ?_)
  · skip
    refine x_iconst (-1) 22 dC_depth_21 rfl rfl ?_
    exact x_iret dC_depth_22 rfl rfl ⟨by unfold deA; simp only [if_pos h4], rfl⟩
  · skip
    refine x_iload_n 8 dC_depth_7 rfl rfl ?_
    refine x_fSv 11 (cC_isSide _) kC_133 oC_isSide dC_depth_8 rfl rfl (by decide) (Nat.le_of_ble_eq_true rfl) ?_
    refine x_if_eq 21 14 dC_depth_11 (by decide) rfl (fun h11 => ?_) (fun h11 => ?_)
    · skip
      refine x_iconst (-1) 22 dC_depth_21 rfl rfl ?_
      exact x_iret dC_depth_22 rfl rfl ⟨by unfold deA; simp only [if_neg h4, if_pos h11], rfl⟩
    · skip
      refine x_iload_n 15 dC_depth_14 rfl rfl ?_
      refine x_fSv 18 (cC_isPrice _) kC_71 oC_isPrice dC_depth_15 rfl rfl (by decide) (Nat.le_of_ble_eq_true rfl) ?_
      refine x_if_ne 23 21 dC_depth_18 (by decide) rfl (fun h18 => ?_) (fun h18 => ?_)
      · skip
        refine x_aload_n 24 dC_depth_23 rfl rfl ?_
        refine x_get _ 27 fC_17 dC_depth_24 rfl rfl rfl ?_
        refine x_iload_n 28 dC_depth_27 rfl rfl ?_
        refine x_aald 29 rfl dC_depth_28 rfl rfl (vN h4) ?_
        refine x_iload_n 30 dC_depth_29 rfl rfl ?_
        refine x_fVv 33 (cB_on (vp_lt (vN h4)) _) kC_136 oB_on rfl (h_B (vp_lt (vN h4))) dC_depth_30 rfl rfl (by decide) (Nat.le_of_ble_eq_true rfl) ?_
        refine x_iload_n 34 dC_depth_33 rfl rfl ?_
        refine x_null 35 dC_depth_34 rfl ?_
        refine x_fVv 38 (cD_shownInQueue (sdx_lt (vp_lt (vN h4)) _) (fun a ha => by cases ha) (hQ.1 _ (sdx_lt (vp_lt (vN h4)) _)) (hQ.2.1 _ (sdx_lt (vp_lt (vN h4)) _)) _) kC_149 oD_shownInQueue rfl (h_D (sdx_lt (vp_lt (vN h4)) _)) dC_depth_35 rfl rfl (by decide) (Nat.le_of_ble_eq_true rfl) ?_
        exact x_iret dC_depth_38 rfl rfl ⟨by unfold deA; simp only [if_neg h4, if_neg h11, if_neg h18], rfl⟩
      · skip
        refine x_iconst (-1) 22 dC_depth_21 rfl rfl ?_
        exact x_iret dC_depth_22 rfl rfl ⟨by unfold deA; simp only [if_neg h4, if_neg h11, if_pos h18], rfl⟩
theorem cC_ahead {t : Int} (hS : HS N (I, J, V, ls) A B h) (hV : CV N I ls t) (x : Int32) : x_C l G mC_ahead 1 0 0 [xR (some (5, 0)), xI x] h [] (x_is (some (xI (ahA I ls x))) h) := by
  obtain ⟨P, rfl, hQ, hP2⟩ := hS.out
  have hf := hV.FD hP2
  refine x_C.at [some (xR (some (5, 0))), some (xI x), none] rfl (Nat.le_of_ble_eq_true rfl) rfl ?_
  rcases fnd_cs I x with hq | ⟨g1, g2, hq⟩
  · skip
    refine x_aload_n 1 dC_ahead_0 rfl rfl ?_
    refine x_iload_n 2 dC_ahead_1 rfl rfl ?_
    refine x_fVv 5 (cC_find_n hf hq) kC_153 oC_find rfl rfl dC_ahead_2 rfl rfl (by decide) (Nat.le_of_ble_eq_true rfl) ?_
    refine x_astore_n 6 dC_ahead_5 rfl (by decide) rfl ?_
    refine x_aload_n 7 dC_ahead_6 rfl rfl ?_
    refine x_ifnull_n 17 10 dC_ahead_7 (by decide) rfl ?_
    refine x_bipush (-6) 19 dC_ahead_17 rfl rfl ?_
    exact x_iret dC_ahead_19 rfl rfl ⟨by unfold ahA; rw [if_pos hq], rfl⟩
  · have hk := (hf x g1 g2).2.2
    have ok := hV.1.1 _ hk
    have hn : ¬ fnd I x = none := fun z => by rw [hq] at z; cases z
    refine x_aload_n 1 dC_ahead_0 rfl rfl ?_
    refine x_iload_n 2 dC_ahead_1 rfl rfl ?_
    refine x_fVv 5 (cC_find_s hf hq) kC_153 oC_find rfl rfl dC_ahead_2 rfl rfl (by decide) (Nat.le_of_ble_eq_true rfl) ?_
    refine x_astore_n 6 dC_ahead_5 rfl (by decide) rfl ?_
    refine x_aload_n 7 dC_ahead_6 rfl rfl ?_
    refine x_ifnull_s 17 10 dC_ahead_7 (by decide) rfl ?_
    refine x_aload_n 11 dC_ahead_10 rfl rfl ?_
    refine x_get _ 14 fC_157 dC_ahead_11 rfl (h_O (by assumption)) rfl ?_
    refine x_if_eq 20 17 dC_ahead_14 (by decide) rfl (fun h14 => ?_) (fun h14 => ?_)
    · skip
      refine x_aload_n 21 dC_ahead_20 rfl rfl ?_
      refine x_get _ 24 fC_17 dC_ahead_21 rfl rfl rfl ?_
      refine x_aload_n 25 dC_ahead_24 rfl rfl ?_
      refine x_get _ 28 fC_160 dC_ahead_25 rfl (h_O (by assumption)) rfl ?_
      refine x_aald 29 rfl dC_ahead_28 rfl rfl ok.2.1 ?_
      refine x_aload_n 30 dC_ahead_29 rfl rfl ?_
      refine x_get _ 33 fC_163 dC_ahead_30 rfl (h_O (by assumption)) rfl ?_
      refine x_fVv 36 (cB_on (vp_lt ok.2.1) _) kC_136 oB_on rfl (h_B (vp_lt ok.2.1)) dC_ahead_33 rfl rfl (by decide) (Nat.le_of_ble_eq_true rfl) ?_
      refine x_aload_n 37 dC_ahead_36 rfl rfl ?_
      refine x_get _ 40 fC_146 dC_ahead_37 rfl (h_O (by assumption)) rfl ?_
      refine x_aload_n 41 dC_ahead_40 rfl rfl ?_
      refine x_fVv 44 (cD_shownInQueue (sdx_lt (vp_lt ok.2.1) _) (h_Oa hk) (hQ.1 _ (sdx_lt (vp_lt ok.2.1) _)) (hQ.2.1 _ (sdx_lt (vp_lt ok.2.1) _)) _) kC_149 oD_shownInQueue rfl (h_D (sdx_lt (vp_lt ok.2.1) _)) dC_ahead_41 rfl rfl (by decide) (Nat.le_of_ble_eq_true rfl) ?_
      exact x_iret dC_ahead_44 rfl rfl ⟨by unfold ahA; rw [if_neg hn, if_pos h14], rfl⟩
    · skip
      refine x_bipush (-6) 19 dC_ahead_17 rfl rfl ?_
      exact x_iret dC_ahead_19 rfl rfl ⟨by unfold ahA; rw [if_neg hn, if_neg h14], rfl⟩
theorem cC_left {t : Int} (hS : HS N (I, J, V, ls) A B h) (hV : CV N I ls t) (x : Int32) : x_C l G mC_left 1 0 0 [xR (some (5, 0)), xI x] h [] (x_is (some (xI (lfA I 6 x))) h) := by
  obtain ⟨P, rfl, hQ, hP2⟩ := hS.out
  have hf := hV.FD hP2
  refine x_C.at [some (xR (some (5, 0))), some (xI x), none] rfl (Nat.le_of_ble_eq_true rfl) rfl ?_
  rcases fnd_cs I x with hq | ⟨g1, g2, hq⟩
  · skip
    refine x_aload_n 1 dC_left_0 rfl rfl ?_
    refine x_iload_n 2 dC_left_1 rfl rfl ?_
    refine x_fVv 5 (cC_find_n hf hq) kC_153 oC_find rfl rfl dC_left_2 rfl rfl (by decide) (Nat.le_of_ble_eq_true rfl) ?_
    refine x_astore_n 6 dC_left_5 rfl (by decide) rfl ?_
    refine x_aload_n 7 dC_left_6 rfl rfl ?_
    refine x_ifnonnull_n 14 10 dC_left_7 (by decide) rfl ?_
    refine x_iconst (-1) 11 dC_left_10 rfl rfl ?_
    refine x_goto 18 dC_left_11 (by decide) ?_
    exact x_iret dC_left_18 rfl rfl ⟨by unfold lfA; rw [if_pos hq], rfl⟩
  · have hk := (hf x g1 g2).2.2
    have ok := hV.1.1 _ hk
    have hn : ¬ fnd I x = none := fun z => by rw [hq] at z; cases z
    refine x_aload_n 1 dC_left_0 rfl rfl ?_
    refine x_iload_n 2 dC_left_1 rfl rfl ?_
    refine x_fVv 5 (cC_find_s hf hq) kC_153 oC_find rfl rfl dC_left_2 rfl rfl (by decide) (Nat.le_of_ble_eq_true rfl) ?_
    refine x_astore_n 6 dC_left_5 rfl (by decide) rfl ?_
    refine x_aload_n 7 dC_left_6 rfl rfl ?_
    refine x_ifnonnull_s 14 10 dC_left_7 (by decide) rfl ?_
    refine x_aload_n 15 dC_left_14 rfl rfl ?_
    refine x_get _ 18 fC_107 dC_left_15 rfl (h_O (by assumption)) rfl ?_
    exact x_iret dC_left_18 rfl rfl ⟨by unfold lfA; rw [if_neg hn], rfl⟩
theorem cC_state {t : Int} (hS : HS N (I, J, V, ls) A B h) (hV : CV N I ls t) (x : Int32) : x_C l G mC_state 1 0 0 [xR (some (5, 0)), xI x] h [] (x_is (some (xI (lfA I 8 x))) h) := by
  obtain ⟨P, rfl, hQ, hP2⟩ := hS.out
  have hf := hV.FD hP2
  refine x_C.at [some (xR (some (5, 0))), some (xI x), none] rfl (Nat.le_of_ble_eq_true rfl) rfl ?_
  rcases fnd_cs I x with hq | ⟨g1, g2, hq⟩
  · skip
    refine x_aload_n 1 dC_state_0 rfl rfl ?_
    refine x_iload_n 2 dC_state_1 rfl rfl ?_
    refine x_fVv 5 (cC_find_n hf hq) kC_153 oC_find rfl rfl dC_state_2 rfl rfl (by decide) (Nat.le_of_ble_eq_true rfl) ?_
    refine x_astore_n 6 dC_state_5 rfl (by decide) rfl ?_
    refine x_aload_n 7 dC_state_6 rfl rfl ?_
    refine x_ifnonnull_n 14 10 dC_state_7 (by decide) rfl ?_
    refine x_iconst (-1) 11 dC_state_10 rfl rfl ?_
    refine x_goto 18 dC_state_11 (by decide) ?_
    exact x_iret dC_state_18 rfl rfl ⟨by unfold lfA; rw [if_pos hq], rfl⟩
  · have hk := (hf x g1 g2).2.2
    have ok := hV.1.1 _ hk
    have hn : ¬ fnd I x = none := fun z => by rw [hq] at z; cases z
    refine x_aload_n 1 dC_state_0 rfl rfl ?_
    refine x_iload_n 2 dC_state_1 rfl rfl ?_
    refine x_fVv 5 (cC_find_s hf hq) kC_153 oC_find rfl rfl dC_state_2 rfl rfl (by decide) (Nat.le_of_ble_eq_true rfl) ?_
    refine x_astore_n 6 dC_state_5 rfl (by decide) rfl ?_
    refine x_aload_n 7 dC_state_6 rfl rfl ?_
    refine x_ifnonnull_s 14 10 dC_state_7 (by decide) rfl ?_
    refine x_aload_n 15 dC_state_14 rfl rfl ?_
    refine x_get _ 18 fC_157 dC_state_15 rfl (h_O (by assumption)) rfl ?_
    exact x_iret dC_state_18 rfl rfl ⟨by unfold lfA; rw [if_neg hn], rfl⟩
theorem cC_trades (hS : HS N (I, J, V, ls) A B h) : x_C l G mC_trades 0 0 0 [xR (some (5, 0))] (h) [] (x_is (some (xI (I 13 0))) h) := by
  obtain ⟨P, rfl, hQ, hP2⟩ := hS.out
  refine x_C.at [some (xR (some (5, 0)))] rfl (Nat.le_of_ble_eq_true rfl) rfl ?_
  refine x_aload_n 1 dC_trades_0 rfl rfl ?_
  refine x_get _ 4 fC_30 dC_trades_1 rfl rfl rfl ?_
  refine x_get _ 7 fC_166 dC_trades_4 rfl rfl rfl ?_
  exact x_iret dC_trades_7 rfl rfl ⟨rfl, rfl⟩
theorem trow_q {I : Nat → Nat → Int32} {k p : Int32} (h : ¬ b01 (¬ k < 0 ∧ ¬ I 13 0 ≤ k ∧ ¬ k < I 13 0 - 100) = 0) (h0 : ¬ p < 0) (h4 : p < 4) : vp_in (trow k + p) 400 := by
  have hz := (b01_nz.mp h).1
  rw [i_lt] at hz h0 h4
  have e0 : (0 : Int32).toInt = 0 := by decide
  have e4 : (4 : Int32).toInt = 4 := by decide
  exact trow_p (by omega) (by omega) (by omega)
theorem cC_trade (hS : HS N (I, J, V, ls) A B h) (k p : Int32) : x_C l G mC_trade 1 0 0 [xR (some (5, 0)), xI k, xI p] (h) [] (x_is (some (xI (trA I k p))) h) := by
  obtain ⟨P, rfl, hQ, hP2⟩ := hS.out
  refine x_C.at [some (xR (some (5, 0))), some (xI k), some (xI p)] rfl (Nat.le_of_ble_eq_true rfl) rfl ?_
  refine x_iload_n 1 dC_trade_0 rfl rfl ?_
  refine x_if_lt 9 4 dC_trade_1 (by decide) rfl (fun h1 => ?_) (fun h1 => ?_)
  · skip
    refine x_iconst (-1) 10 dC_trade_9 rfl rfl ?_
    exact x_iret dC_trade_10 rfl rfl ⟨by unfold trA; simp only [if_pos h1], rfl⟩
  · skip
    refine x_iload_n 5 dC_trade_4 rfl rfl ?_
    refine x_iconst 4 6 dC_trade_5 rfl rfl ?_
    refine x_icmp_lt 11 9 dC_trade_6 (by decide) rfl (fun h6 => ?_) (fun h6 => ?_)
    · skip
      refine x_aload_n 12 dC_trade_11 rfl rfl ?_
      refine x_get _ 15 fC_30 dC_trade_12 rfl rfl rfl ?_
      refine x_iload_n 16 dC_trade_15 rfl rfl ?_
      refine x_fVv 19 (cT_holds _) kC_169 oT_holds rfl rfl dC_trade_16 rfl rfl (by decide) (Nat.le_of_ble_eq_true rfl) ?_
      refine x_if_eq 34 22 dC_trade_19 (by decide) rfl (fun h19 => ?_) (fun h19 => ?_)
      · skip
        refine x_bipush (-6) 36 dC_trade_34 rfl rfl ?_
        exact x_iret dC_trade_36 rfl rfl ⟨by unfold trA; simp only [if_neg h1, if_pos h6, if_pos h19], rfl⟩
      · skip
        refine x_aload_n 23 dC_trade_22 rfl rfl ?_
        refine x_get _ 26 fC_30 dC_trade_23 rfl rfl rfl ?_
        refine x_iload_n 27 dC_trade_26 rfl rfl ?_
        refine x_iload_n 28 dC_trade_27 rfl rfl ?_
        refine x_fVv 31 (cT_read (trow_q h19 h1 h6)) kC_172 oT_read rfl rfl dC_trade_28 rfl rfl (by decide) (Nat.le_of_ble_eq_true rfl) ?_
        refine x_goto 36 dC_trade_31 (by decide) ?_
        exact x_iret dC_trade_36 rfl rfl ⟨by unfold trA; simp only [if_neg h1, if_pos h6, if_neg h19], rfl⟩
    · skip
      refine x_iconst (-1) 10 dC_trade_9 rfl rfl ?_
      exact x_iret dC_trade_10 rfl rfl ⟨by unfold trA; simp only [if_neg h1, if_neg h6], rfl⟩
theorem cC_position (hS : HS N (I, J, V, ls) A B h) (m i : Int32) : x_C l G mC_position 1 0 0 [xR (some (5, 0)), xI m, xI i] (h) [] (x_is (some (xI (poA V m i))) h) := by
  obtain ⟨P, rfl, hQ, hP2⟩ := hS.out
  refine x_C.at [some (xR (some (5, 0))), some (xI m), some (xI i)] rfl (Nat.le_of_ble_eq_true rfl) rfl ?_
  refine x_iload_n 1 dC_position_0 rfl rfl ?_
  refine x_fSv 4 (cC_isMember _) kC_47 oC_isMember dC_position_1 rfl rfl (by decide) (Nat.le_of_ble_eq_true rfl) ?_
  refine x_if_eq 28 7 dC_position_4 (by decide) rfl (fun h4 => ?_) (fun h4 => ?_)
  · skip
    refine x_iconst 0 29 dC_position_28 rfl rfl ?_
    exact x_iret dC_position_29 rfl rfl ⟨by unfold poA; simp only [if_pos h4], rfl⟩
  · skip
    refine x_iload_n 8 dC_position_7 rfl rfl ?_
    refine x_fSv 11 (cC_isInstrument _) kC_61 oC_isInstrument dC_position_8 rfl rfl (by decide) (Nat.le_of_ble_eq_true rfl) ?_
    refine x_if_eq 28 14 dC_position_11 (by decide) rfl (fun h11 => ?_) (fun h11 => ?_)
    · skip
      refine x_iconst 0 29 dC_position_28 rfl rfl ?_
      exact x_iret dC_position_29 rfl rfl ⟨by unfold poA; simp only [if_neg h4, if_pos h11], rfl⟩
    · skip
      refine x_aload_n 15 dC_position_14 rfl rfl ?_
      refine x_get _ 18 fC_11 dC_position_15 rfl rfl rfl ?_
      refine x_iload_n 19 dC_position_18 rfl rfl ?_
      refine x_aald 20 rfl dC_position_19 rfl rfl (vM h4) ?_
      refine x_get _ 23 fC_175 dC_position_20 rfl (h_A (vp_lt (vM h4))) rfl ?_
      refine x_iload_n 24 dC_position_23 rfl rfl ?_
      refine x_iald 25 dC_position_24 rfl (h_P (vp_lt (vM h4))) (vN h11) ?_
      refine x_goto 29 dC_position_25 (by decide) ?_
      exact x_iret dC_position_29 rfl rfl ⟨by unfold poA; simp only [if_neg h4, if_neg h11], rfl⟩
theorem cC_money (hS : HS N (I, J, V, ls) A B h) (m : Int32) : x_C l G mC_money 1 0 0 [xR (some (5, 0)), xI m] (h) [] (x_is (some (xJ (moA J 0 m))) h) := by
  obtain ⟨P, rfl, hQ, hP2⟩ := hS.out
  refine x_C.at [some (xR (some (5, 0))), some (xI m)] rfl (Nat.le_of_ble_eq_true rfl) rfl ?_
  refine x_iload_n 1 dC_money_0 rfl rfl ?_
  refine x_fSv 4 (cC_isMember _) kC_47 oC_isMember dC_money_1 rfl rfl (by decide) (Nat.le_of_ble_eq_true rfl) ?_
  refine x_if_eq 19 7 dC_money_4 (by decide) rfl (fun h4 => ?_) (fun h4 => ?_)
  · skip
    refine x_lconst 0 20 dC_money_19 rfl rfl ?_
    exact x_lret dC_money_20 rfl ⟨by unfold moA; simp only [if_pos h4], rfl⟩
  · skip
    refine x_aload_n 8 dC_money_7 rfl rfl ?_
    refine x_get _ 11 fC_11 dC_money_8 rfl rfl rfl ?_
    refine x_iload_n 12 dC_money_11 rfl rfl ?_
    refine x_aald 13 rfl dC_money_12 rfl rfl (vM h4) ?_
    refine x_get _ 16 fC_53 dC_money_13 rfl (h_A (vp_lt (vM h4))) rfl ?_
    refine x_goto 20 dC_money_16 (by decide) ?_
    exact x_lret dC_money_20 rfl ⟨by unfold moA; simp only [if_neg h4], rfl⟩
theorem cC_owed (hS : HS N (I, J, V, ls) A B h) (m : Int32) : x_C l G mC_owed 1 0 0 [xR (some (5, 0)), xI m] (h) [] (x_is (some (xJ (moA J 1 m))) h) := by
  obtain ⟨P, rfl, hQ, hP2⟩ := hS.out
  refine x_C.at [some (xR (some (5, 0))), some (xI m)] rfl (Nat.le_of_ble_eq_true rfl) rfl ?_
  refine x_iload_n 1 dC_owed_0 rfl rfl ?_
  refine x_fSv 4 (cC_isMember _) kC_47 oC_isMember dC_owed_1 rfl rfl (by decide) (Nat.le_of_ble_eq_true rfl) ?_
  refine x_if_eq 19 7 dC_owed_4 (by decide) rfl (fun h4 => ?_) (fun h4 => ?_)
  · skip
    refine x_lconst 0 20 dC_owed_19 rfl rfl ?_
    exact x_lret dC_owed_20 rfl ⟨by unfold moA; simp only [if_pos h4], rfl⟩
  · skip
    refine x_aload_n 8 dC_owed_7 rfl rfl ?_
    refine x_get _ 11 fC_11 dC_owed_8 rfl rfl rfl ?_
    refine x_iload_n 12 dC_owed_11 rfl rfl ?_
    refine x_aald 13 rfl dC_owed_12 rfl rfl (vM h4) ?_
    refine x_get _ 16 fC_179 dC_owed_13 rfl (h_A (vp_lt (vM h4))) rfl ?_
    refine x_goto 20 dC_owed_16 (by decide) ?_
    exact x_lret dC_owed_20 rfl ⟨by unfold moA; simp only [if_neg h4], rfl⟩
theorem cC_risk (hS : HS N (I, J, V, ls) A B h) (m : Int32) : x_C l G mC_risk 3 0 0 [xR (some (5, 0)), xI m] (h) [] (x_is (some (xJ (riA I V ls m))) h) := by
  obtain ⟨P, rfl, hQ, hP2⟩ := hS.out
  refine x_C.at [some (xR (some (5, 0))), some (xI m)] rfl (Nat.le_of_ble_eq_true rfl) rfl ?_
  refine x_iload_n 1 dC_risk_0 rfl rfl ?_
  refine x_fSv 4 (cC_isMember _) kC_47 oC_isMember dC_risk_1 rfl rfl (by decide) (Nat.le_of_ble_eq_true rfl) ?_
  refine x_if_eq 15 7 dC_risk_4 (by decide) rfl (fun h4 => ?_) (fun h4 => ?_)
  · skip
    refine x_lconst 0 16 dC_risk_15 rfl rfl ?_
    exact x_lret dC_risk_16 rfl ⟨by unfold riA; simp only [if_pos h4], rfl⟩
  · skip
    refine x_aload_n 8 dC_risk_7 rfl rfl ?_
    refine x_iload_n 9 dC_risk_8 rfl rfl ?_
    refine x_fVv 12 (cC_riskOf (vM h4) hQ.1 hQ.2.1) kC_57 oC_riskOf rfl rfl dC_risk_9 rfl rfl (by decide) (Nat.le_of_ble_eq_true rfl) ?_
    refine x_goto 16 dC_risk_12 (by decide) ?_
    exact x_lret dC_risk_16 rfl ⟨by unfold riA; simp only [if_neg h4], rfl⟩
def edS (I : Nat → Nat → Int32) (J : Nat → Nat → Int64) (V : Nat → Nat → Int32) (ls : Nat → List Nat) (i : Nat) : cS := (si (wdI (wdI I (ls (2 * i))) (x_uf ls (2 * i) [] (2 * i + 1))) 10 i 0, J, V, x_uf (x_uf ls (2 * i) []) (2 * i + 1) [])
theorem cB_endDay {i : Nat} (hS : HS N (I, J, V, ls) A B h) (hi : i < 2) : x_C l G mB_endDay 1 0 0 [xR (some (3, i))] (h) [] (x_ex none (HS N (edS I J V ls i) A B)) := by
  obtain ⟨P, rfl, hQ, hP2⟩ := hS.out
  have j0 : 2 * i < 4 := by omega
  have j1 : 2 * i + 1 < 4 := by omega
  have hQ1 := hQ.clear (2 * i)
  refine x_C.at [some (xR (some (3, i)))] rfl (Nat.le_of_ble_eq_true rfl) rfl ?_
  refine x_aload_n 1 dB_endDay_0 rfl rfl ?_
  refine x_get _ 4 fB_12 dB_endDay_1 rfl (h_B (by assumption)) rfl ?_
  refine x_fVn 7 (cD_withdrawAll j0 (hQ.1 _ j0) (hQ.2.1 _ j0)) kB_59 oD_withdrawAll rfl (h_D (by assumption)) dB_endDay_4 rfl rfl (by decide) (Nat.le_of_ble_eq_true rfl) ?_
  refine x_aload_n 8 dB_endDay_7 rfl rfl ?_
  refine x_get _ 11 fB_18 dB_endDay_8 rfl (h_B (by assumption)) rfl ?_
  refine x_fVn 14 (cD_withdrawAll j1 (hQ1.1 _ j1) (hQ1.2.1 _ j1)) kB_59 oD_withdrawAll rfl (h_D (by assumption)) dB_endDay_11 rfl rfl (by decide) (Nat.le_of_ble_eq_true rfl) ?_
  refine x_aload_n 15 dB_endDay_14 rfl rfl ?_
  refine x_iconst 0 16 dB_endDay_15 rfl rfl ?_
  refine y_B2 19 pB_endDay_21 dB_endDay_16 rfl (by assumption) (fun _ => ⟨rfl, rfl⟩) ?_
  exact x_vret dB_endDay_19 rfl ⟨rfl, _, rfl, hQ1.clear _, (hP2.clear _).clear _⟩
def stF : Nat → Int32 → (Nat → Nat → Int64) → Int32 → Int32 × (Nat → Nat → Int64)
  | 0, _, J, n => (n, J)
  | k + 1, e, J, n => stF k (e + Int32.ofInt 1) (sj (sj J 0 e.toNatClampNeg (J 0 e.toNatClampNeg + J 1 e.toNatClampNeg)) 1 e.toNatClampNeg 0) (if lg_cmp (J 1 e.toNatClampNeg) 0 = 0 then n else n + Int32.ofInt 1)
def stS (I : Nat → Nat → Int32) (J : Nat → Nat → Int64) (V : Nat → Nat → Int32) (ls : Nat → List Nat) : Int32 × cS := ((stF 5 0 J 0).1, ((edS (edS I J V ls 0).1 J V (edS I J V ls 0).2.2.2 1).1, (stF 5 0 J 0).2, V, (edS (edS I J V ls 0).1 J V (edS I J V ls 0).2.2.2 1).2.2.2))
theorem c5 : (5 : Int32).toInt = 5 := by decide
theorem lp_settle (T : Int32 × (Nat → Nat → Int64)) (hQ : QS N P ls) (hP2 : PP N P) : ∀ (n : Nat) (e v : Int32) (J : Nat → Nat → Int64) (x : Option xV), e.toInt + n = 5 → 0 ≤ e.toInt → stF n e J v = T → x_X l G mC_settle 2 0 0 [] (QR N (T.1, (I, T.2, V, ls)) A B) 26 [some (xR (some (5, 0))), some (xI v), some (xI e), x] [] (hp N I J P V A B) := by
  intro n
  induction n with
  | zero =>
    intro e v J x he1 he0 hT
    subst hT
    refine x_iload_n 27 dC_settle_26 rfl rfl ?_
    refine x_iconst 5 28 dC_settle_27 rfl rfl ?_
    refine x_icmp_ge 74 31 dC_settle_28 (by decide) rfl (fun h28 => ?_) (fun h28 => absurd (show (5 : Int32) ≤ e from by rw [i_le, c5]; omega) h28)
    refine x_iload_n 75 dC_settle_74 rfl rfl ?_
    exact x_iret dC_settle_75 rfl rfl ⟨rfl, P, rfl, hQ, hP2⟩
  | succ n ih =>
    intro e v J x he1 he0 hT
    subst hT
    have hin : vp_in e 5 := vp_of (by omega) (by omega)
    have he5 := vp_lt hin
    have hlt : ¬ (5 : Int32) ≤ e := by rw [i_le, c5]; omega
    refine x_iload_n 27 dC_settle_26 rfl rfl ?_
    refine x_iconst 5 28 dC_settle_27 rfl rfl ?_
    refine x_icmp_ge 74 31 dC_settle_28 (by decide) rfl (fun h28 => absurd h28 hlt) (fun h28 => ?_)
    refine x_aload_n 32 dC_settle_31 rfl rfl ?_
    refine x_get _ 35 fC_11 dC_settle_32 rfl rfl rfl ?_
    refine x_iload_n 36 dC_settle_35 rfl rfl ?_
    refine x_aald 37 rfl dC_settle_36 rfl rfl (by assumption) ?_
    refine x_astore_n 38 dC_settle_37 rfl (by decide) rfl ?_
    refine x_aload_n 39 dC_settle_38 rfl rfl ?_
    refine x_get _ 42 fC_179 dC_settle_39 rfl (h_A (by assumption)) rfl ?_
    refine x_lconst 0 43 dC_settle_42 rfl rfl ?_
    refine x_lcmp 44 dC_settle_43 rfl ?_
    refine x_if_eq 50 47 dC_settle_44 (by decide) rfl (fun h44 => ?_) (fun h44 => ?_)
    · skip
      refine x_aload_n 51 dC_settle_50 rfl rfl ?_
      refine x_dup 52 dC_settle_51 rfl rfl ?_
      refine x_get _ 55 fC_53 dC_settle_52 rfl (h_A (by assumption)) rfl ?_
      refine x_aload_n 56 dC_settle_55 rfl rfl ?_
      refine x_get _ 59 fC_179 dC_settle_56 rfl (h_A (by assumption)) rfl ?_
      refine x_ladd 60 dC_settle_59 rfl ?_
      refine y_A1 63 pC_settle_53 dC_settle_60 rfl (by assumption) ?_
      refine x_aload_n 64 dC_settle_63 rfl rfl ?_
      refine x_lconst 0 65 dC_settle_64 rfl rfl ?_
      refine y_A2 68 pC_settle_179 dC_settle_65 rfl (by assumption) ?_
      refine x_iinc 71 dC_settle_68 rfl rfl (by decide) rfl ?_
      refine x_goto 26 dC_settle_71 (by decide) ?_
      exact ih _ _ _ _ (by rw [i_inc (by omega) (by omega)]; omega) (by rw [i_inc (by omega) (by omega)]; omega) (by simp only [stF, if_pos h44])
    · skip
      refine x_iinc 50 dC_settle_47 rfl rfl (by decide) rfl ?_
      refine x_aload_n 51 dC_settle_50 rfl rfl ?_
      refine x_dup 52 dC_settle_51 rfl rfl ?_
      refine x_get _ 55 fC_53 dC_settle_52 rfl (h_A (by assumption)) rfl ?_
      refine x_aload_n 56 dC_settle_55 rfl rfl ?_
      refine x_get _ 59 fC_179 dC_settle_56 rfl (h_A (by assumption)) rfl ?_
      refine x_ladd 60 dC_settle_59 rfl ?_
      refine y_A1 63 pC_settle_53 dC_settle_60 rfl (by assumption) ?_
      refine x_aload_n 64 dC_settle_63 rfl rfl ?_
      refine x_lconst 0 65 dC_settle_64 rfl rfl ?_
      refine y_A2 68 pC_settle_179 dC_settle_65 rfl (by assumption) ?_
      refine x_iinc 71 dC_settle_68 rfl rfl (by decide) rfl ?_
      refine x_goto 26 dC_settle_71 (by decide) ?_
      exact ih _ _ _ _ (by rw [i_inc (by omega) (by omega)]; omega) (by rw [i_inc (by omega) (by omega)]; omega) (by simp only [stF, if_neg h44])
theorem cC_settle (hS : HS N (I, J, V, ls) A B h) : x_C l G mC_settle 2 0 0 [xR (some (5, 0))] h [] (QR N (stS I J V ls) A B) := by
  obtain ⟨P, rfl, hQ, hP2⟩ := hS.out
  refine x_C.at [some (xR (some (5, 0))), none, none, none] rfl (Nat.le_of_ble_eq_true rfl) rfl ?_
  refine x_iconst 0 1 dC_settle_0 rfl rfl ?_
  refine x_istore_n 2 dC_settle_1 rfl (by decide) rfl ?_
  refine x_iload_n 3 dC_settle_2 rfl rfl ?_
  refine x_iconst 2 4 dC_settle_3 rfl rfl ?_
  refine x_icmp_ge 22 7 dC_settle_4 (by decide) rfl (fun h4 => absurd h4 (by decide)) (fun h4 => ?_)
  refine x_aload_n 8 dC_settle_7 rfl rfl ?_
  refine x_get _ 11 fC_17 dC_settle_8 rfl rfl rfl ?_
  refine x_iload_n 12 dC_settle_11 rfl rfl ?_
  refine x_aald 13 rfl dC_settle_12 rfl rfl (vp_of (by decide) (by decide)) ?_
  refine x_gVn 16 (cB_endDay (i := 0) hS (by decide)) kC_182 oB_endDay rfl (h_B (by decide)) dC_settle_13 rfl rfl (by decide) (Nat.le_of_ble_eq_true rfl) (fun h1 hq => ?_)
  obtain ⟨P, rfl, hQ, hP2⟩ := hq
  refine x_iinc 19 dC_settle_16 rfl rfl (by decide) rfl ?_
  refine x_goto 2 dC_settle_19 (by decide) ?_
  refine x_iload_n 3 dC_settle_2 rfl rfl ?_
  refine x_iconst 2 4 dC_settle_3 rfl rfl ?_
  refine x_icmp_ge 22 7 dC_settle_4 (by decide) rfl (fun h4 => absurd h4 (by decide)) (fun h4 => ?_)
  refine x_aload_n 8 dC_settle_7 rfl rfl ?_
  refine x_get _ 11 fC_17 dC_settle_8 rfl rfl rfl ?_
  refine x_iload_n 12 dC_settle_11 rfl rfl ?_
  refine x_aald 13 rfl dC_settle_12 rfl rfl (vp_of (by decide) (by decide)) ?_
  refine x_gVn 16 (cB_endDay (i := 1) (I := (edS I J V ls 0).1) (ls := (edS I J V ls 0).2.2.2) (by exact ⟨P, rfl, hQ, hP2⟩) (by decide)) kC_182 oB_endDay rfl (h_B (by decide)) dC_settle_13 rfl rfl (by decide) (Nat.le_of_ble_eq_true rfl) (fun h1 hq => ?_)
  obtain ⟨P, rfl, hQ, hP2⟩ := hq
  refine x_iinc 19 dC_settle_16 rfl rfl (by decide) rfl ?_
  refine x_goto 2 dC_settle_19 (by decide) ?_
  refine x_iload_n 3 dC_settle_2 rfl rfl ?_
  refine x_iconst 2 4 dC_settle_3 rfl rfl ?_
  refine x_icmp_ge 22 7 dC_settle_4 (by decide) rfl (fun h4 => ?_) (fun h4 => absurd (by decide) h4)
  refine x_iconst 0 23 dC_settle_22 rfl rfl ?_
  refine x_istore_n 24 dC_settle_23 rfl (by decide) rfl ?_
  refine x_iconst 0 25 dC_settle_24 rfl rfl ?_
  refine x_istore_n 26 dC_settle_25 rfl (by decide) rfl ?_
  exact lp_settle (stF 5 0 J 0) hQ hP2 5 0 0 J _ (by decide) (by decide) rfl
end M9
end
section
section MA
variable {l : Launch} {G : xG} {N : Nat} {I : Nat → Nat → Int32} {J : Nat → Nat → Int64} {P : Nat → Nat → Option xQ} {V : Nat → Nat → Int32} {A : Nat → Nat → Int32} {B : Nat → Nat → Int64}
variable {h : xH} {ls : Nat → List Nat}
def rfs (I : Nat → Nat → Int32) (k : Nat) (c : List Nat) : Int32 := if I 4 k = 4 then (match c with
  | [] => 0
  | o :: _ => if acc I k (I 5 o) then 1 else 0) else if I 4 k = 2 then (if I 6 k ≤ lff I k 0 c then 0 else 1) else 0
theorem cB_refuses {i k : Nat} (hi : i < 2) (hk : k < N) {c : List Nat} (hc : Ch P (P 1 (fdx i (I 3 k))) c) (hl : ∀ o ∈ c, o < N) : x_C l G mB_refuses 2 0 0 [xR (some (3, i)), xR (some (0, k))] (hp N I J P V A B) [] (x_is (some (xI (rfs I k c))) (hp N I J P V A B)) := by
  refine x_C.at [some (xR (some (3, i))), some (xR (some (0, k))), none] rfl (Nat.le_of_ble_eq_true rfl) rfl ?_
  cases c with
  | nil =>
    refine x_aload_n 1 dB_refuses_0 rfl rfl ?_
    refine x_aload_n 2 dB_refuses_1 rfl rfl ?_
    refine x_get _ 5 fB_29 dB_refuses_2 rfl (h_O (by assumption)) rfl ?_
    refine x_fVv 8 (cB_facing hi _) kB_34 oB_facing rfl (h_B (by assumption)) dB_refuses_5 rfl rfl (by decide) (Nat.le_of_ble_eq_true rfl) ?_
    refine x_astore_n 9 dB_refuses_8 rfl (by decide) rfl ?_
    refine x_aload_n 10 dB_refuses_9 rfl rfl ?_
    refine x_get _ 13 fB_38 dB_refuses_10 rfl (h_O (by assumption)) rfl ?_
    refine x_iconst 4 14 dB_refuses_13 rfl rfl ?_
    refine x_icmp_ne 44 17 dB_refuses_14 (by decide) rfl (fun h14 => ?_) (fun h14 => ?_)
    · skip
      refine x_aload_n 45 dB_refuses_44 rfl rfl ?_
      refine x_get _ 48 fB_38 dB_refuses_45 rfl (h_O (by assumption)) rfl ?_
      refine x_iconst 2 49 dB_refuses_48 rfl rfl ?_
      refine x_icmp_ne 68 52 dB_refuses_49 (by decide) rfl (fun h49 => ?_) (fun h49 => ?_)
      · skip
        refine x_iconst 0 69 dB_refuses_68 rfl rfl ?_
        exact x_iret dB_refuses_69 rfl rfl ⟨by unfold rfs; rw [if_neg h14, if_neg h49], rfl⟩
      · skip
        refine x_aload_n 53 dB_refuses_52 rfl rfl ?_
        refine x_aload_n 54 dB_refuses_53 rfl rfl ?_
        refine x_fVv 57 (cD_leftFor (fdx_lt hi _) hk hc hl) kB_52 oD_leftFor rfl (h_D (fdx_lt hi _)) dB_refuses_54 rfl rfl (by decide) (Nat.le_of_ble_eq_true rfl) ?_
        refine x_aload_n 58 dB_refuses_57 rfl rfl ?_
        refine x_get _ 61 fB_56 dB_refuses_58 rfl (h_O (by assumption)) rfl ?_
        refine x_icmp_ge 68 64 dB_refuses_61 (by decide) rfl (fun h61 => ?_) (fun h61 => ?_)
        · skip
          refine x_iconst 0 69 dB_refuses_68 rfl rfl ?_
          exact x_iret dB_refuses_69 rfl rfl ⟨by unfold rfs; rw [if_neg h14, if_pos h49, if_pos h61], rfl⟩
        · skip
          refine x_iconst 1 65 dB_refuses_64 rfl rfl ?_
          refine x_goto 69 dB_refuses_65 (by decide) ?_
          exact x_iret dB_refuses_69 rfl rfl ⟨by unfold rfs; rw [if_neg h14, if_pos h49, if_neg h61], rfl⟩
    · skip
      refine x_aload_n 18 dB_refuses_17 rfl rfl ?_
      refine x_get _ 21 fB_41 dB_refuses_18 rfl (h_D (fdx_lt hi _)) rfl ?_
      rw [show P 1 (fdx i (I 3 k)) = none from hc]
      refine x_ifnull_n 42 24 dB_refuses_21 (by decide) rfl ?_
      refine x_iconst 0 43 dB_refuses_42 rfl rfl ?_
      exact x_iret dB_refuses_43 rfl rfl ⟨by unfold rfs; rw [if_pos h14], rfl⟩
  | cons a c =>
    have ha := all_hd hl
    refine x_aload_n 1 dB_refuses_0 rfl rfl ?_
    refine x_aload_n 2 dB_refuses_1 rfl rfl ?_
    refine x_get _ 5 fB_29 dB_refuses_2 rfl (h_O (by assumption)) rfl ?_
    refine x_fVv 8 (cB_facing hi _) kB_34 oB_facing rfl (h_B (by assumption)) dB_refuses_5 rfl rfl (by decide) (Nat.le_of_ble_eq_true rfl) ?_
    refine x_astore_n 9 dB_refuses_8 rfl (by decide) rfl ?_
    refine x_aload_n 10 dB_refuses_9 rfl rfl ?_
    refine x_get _ 13 fB_38 dB_refuses_10 rfl (h_O (by assumption)) rfl ?_
    refine x_iconst 4 14 dB_refuses_13 rfl rfl ?_
    refine x_icmp_ne 44 17 dB_refuses_14 (by decide) rfl (fun h14 => ?_) (fun h14 => ?_)
    · skip
      refine x_aload_n 45 dB_refuses_44 rfl rfl ?_
      refine x_get _ 48 fB_38 dB_refuses_45 rfl (h_O (by assumption)) rfl ?_
      refine x_iconst 2 49 dB_refuses_48 rfl rfl ?_
      refine x_icmp_ne 68 52 dB_refuses_49 (by decide) rfl (fun h49 => ?_) (fun h49 => ?_)
      · skip
        refine x_iconst 0 69 dB_refuses_68 rfl rfl ?_
        exact x_iret dB_refuses_69 rfl rfl ⟨by unfold rfs; rw [if_neg h14, if_neg h49], rfl⟩
      · skip
        refine x_aload_n 53 dB_refuses_52 rfl rfl ?_
        refine x_aload_n 54 dB_refuses_53 rfl rfl ?_
        refine x_fVv 57 (cD_leftFor (fdx_lt hi _) hk hc hl) kB_52 oD_leftFor rfl (h_D (fdx_lt hi _)) dB_refuses_54 rfl rfl (by decide) (Nat.le_of_ble_eq_true rfl) ?_
        refine x_aload_n 58 dB_refuses_57 rfl rfl ?_
        refine x_get _ 61 fB_56 dB_refuses_58 rfl (h_O (by assumption)) rfl ?_
        refine x_icmp_ge 68 64 dB_refuses_61 (by decide) rfl (fun h61 => ?_) (fun h61 => ?_)
        · skip
          refine x_iconst 0 69 dB_refuses_68 rfl rfl ?_
          exact x_iret dB_refuses_69 rfl rfl ⟨by unfold rfs; rw [if_neg h14, if_pos h49, if_pos h61], rfl⟩
        · skip
          refine x_iconst 1 65 dB_refuses_64 rfl rfl ?_
          refine x_goto 69 dB_refuses_65 (by decide) ?_
          exact x_iret dB_refuses_69 rfl rfl ⟨by unfold rfs; rw [if_neg h14, if_pos h49, if_neg h61], rfl⟩
    · skip
      refine x_aload_n 18 dB_refuses_17 rfl rfl ?_
      refine x_get _ 21 fB_41 dB_refuses_18 rfl (h_D (fdx_lt hi _)) rfl ?_
      rw [show P 1 (fdx i (I 3 k)) = some (0, a) from hc.1]
      refine x_ifnull_s 42 24 dB_refuses_21 (by decide) rfl ?_
      refine x_aload_n 25 dB_refuses_24 rfl rfl ?_
      refine x_aload_n 26 dB_refuses_25 rfl rfl ?_
      refine x_get _ 29 fB_41 dB_refuses_26 rfl (h_D (fdx_lt hi _)) rfl ?_
      rw [show P 1 (fdx i (I 3 k)) = some (0, a) from hc.1]
      refine x_get _ 32 fB_45 dB_refuses_29 rfl (h_O (by assumption)) rfl ?_
      refine x_fVv 35 (cO_accepts hk _) kB_48 oO_accepts rfl (h_O (by assumption)) dB_refuses_32 rfl rfl (by decide) (Nat.le_of_ble_eq_true rfl) ?_
      refine x_if_eq 42 38 dB_refuses_35 (by decide) rfl (fun h35 => ?_) (fun h35 => ?_)
      · skip
        refine x_iconst 0 43 dB_refuses_42 rfl rfl ?_
        exact x_iret dB_refuses_43 rfl rfl ⟨by unfold rfs; rw [if_pos h14]; dsimp only; rw [if_neg (b01_z.mp h35)], rfl⟩
      · skip
        refine x_iconst 1 39 dB_refuses_38 rfl rfl ?_
        refine x_goto 43 dB_refuses_39 (by decide) ?_
        exact x_iret dB_refuses_43 rfl rfl ⟨by unfold rfs; rw [if_pos h14]; dsimp only; rw [if_pos (b01_nz.mp h35)], rfl⟩
def nw5 (I : Nat → Nat → Int32) (k : Nat) (n m i how : Int32) : Nat → Nat → Int32 := si (si (si (si (si (si (si I 7 k 0) 8 k 0) 0 k n) 1 k m) 2 k i) 3 k (how - how / 2 * 2)) 4 k (how / 2)
def nwL (I : Nat → Nat → Int32) (k : Nat) (n m i how lim : Int32) : Int32 := if nw5 I k n m i how 4 k = 3 then (if nw5 I k n m i how 3 k = 0 then 63 else 1) else lim
def nwI (I : Nat → Nat → Int32) (k : Nat) (n m i how lim q : Int32) : Nat → Nat → Int32 := si (si (nw5 I k n m i how) 5 k (nwL I k n m i how lim)) 6 k q
theorem cO_init {k : Nat} (hk : k < N) (n m i how lim q : Int32) : x_C l G mO_init 1 0 0 [xR (some (0, k)), xI n, xI m, xI i, xI how, xI lim, xI q] (hp N I J P V A B) [] (x_is none (hp N (nwI I k n m i how lim q) J (sp P 0 k none) V A B)) := by
  refine x_C.at [some (xR (some (0, k))), some (xI n), some (xI m), some (xI i), some (xI how), some (xI lim), some (xI q)] rfl (Nat.le_of_ble_eq_true rfl) rfl ?_
  refine x_aload_n 1 dO_init_0 rfl rfl ?_
  refine x_objInit 4 dO_init_1 rfl jO_3 j_i j_c (by decide) (Nat.le_of_ble_eq_true rfl) ?_
  refine x_aload_n 5 dO_init_4 rfl rfl ?_
  refine x_iconst 0 6 dO_init_5 rfl rfl ?_
  refine y_O7 9 pO_init_9 dO_init_6 rfl (by assumption) ?_
  refine x_aload_n 10 dO_init_9 rfl rfl ?_
  refine x_iconst 0 11 dO_init_10 rfl rfl ?_
  refine y_O8 14 pO_init_15 dO_init_11 rfl (by assumption) ?_
  refine x_aload_n 15 dO_init_14 rfl rfl ?_
  refine x_null 16 dO_init_15 rfl ?_
  refine y_O9 19 pO_init_18 dO_init_16 rfl (by assumption) ?_
  refine x_aload_n 20 dO_init_19 rfl rfl ?_
  refine x_iload_n 21 dO_init_20 rfl rfl ?_
  refine y_O0 24 pO_init_22 dO_init_21 rfl (by assumption) ?_
  refine x_aload_n 25 dO_init_24 rfl rfl ?_
  refine x_iload_n 26 dO_init_25 rfl rfl ?_
  refine y_O1 29 pO_init_25 dO_init_26 rfl (by assumption) ?_
  refine x_aload_n 30 dO_init_29 rfl rfl ?_
  refine x_iload_n 31 dO_init_30 rfl rfl ?_
  refine y_O2 34 pO_init_28 dO_init_31 rfl (by assumption) ?_
  refine x_aload_n 35 dO_init_34 rfl rfl ?_
  refine x_iload 37 dO_init_35 rfl rfl ?_
  refine x_fSNv 40 (cC_sideOf _) kO_31 oC_sideOf dO_init_37 rfl rfl (by decide) (Nat.le_of_ble_eq_true rfl) ?_
  refine y_O3 43 pO_init_35 dO_init_40 rfl (by assumption) ?_
  refine x_aload_n 44 dO_init_43 rfl rfl ?_
  refine x_iload 46 dO_init_44 rfl rfl ?_
  refine x_fSNv 49 (cC_kindOf _) kO_38 oC_kindOf dO_init_46 rfl rfl (by decide) (Nat.le_of_ble_eq_true rfl) ?_
  refine y_O4 52 pO_init_41 dO_init_49 rfl (by assumption) ?_
  refine x_aload_n 53 dO_init_52 rfl rfl ?_
  refine x_get _ 56 fO_41 dO_init_53 rfl (h_O (by assumption)) rfl ?_
  refine x_iconst 3 57 dO_init_56 rfl rfl ?_
  refine x_icmp_ne 80 60 dO_init_57 (by decide) rfl (fun h57 => ?_) (fun h57 => ?_)
  · skip
    refine x_aload_n 81 dO_init_80 rfl rfl ?_
    refine x_iload 83 dO_init_81 rfl rfl ?_
    refine y_O5 86 pO_init_44 dO_init_83 rfl (by assumption) ?_
    refine x_aload_n 87 dO_init_86 rfl rfl ?_
    refine x_iload 89 dO_init_87 rfl rfl ?_
    refine y_O6 92 pO_init_47 dO_init_89 rfl (by assumption) ?_
    exact x_vret dO_init_92 rfl ⟨rfl, by unfold nwI nwL; rw [if_neg (show ¬ nw5 I k n m i how 4 k = 3 from h57)]; rfl⟩
  · skip
    refine x_aload_n 61 dO_init_60 rfl rfl ?_
    refine x_aload_n 62 dO_init_61 rfl rfl ?_
    refine x_get _ 65 fO_35 dO_init_62 rfl (h_O (by assumption)) rfl ?_
    refine x_if_ne 73 68 dO_init_65 (by decide) rfl (fun h65 => ?_) (fun h65 => ?_)
    · skip
      refine x_iconst 1 74 dO_init_73 rfl rfl ?_
      refine y_O5 77 pO_init_44 dO_init_74 rfl (by assumption) ?_
      refine x_goto 86 dO_init_77 (by decide) ?_
      refine x_aload_n 87 dO_init_86 rfl rfl ?_
      refine x_iload 89 dO_init_87 rfl rfl ?_
      refine y_O6 92 pO_init_47 dO_init_89 rfl (by assumption) ?_
      exact x_vret dO_init_92 rfl ⟨rfl, by unfold nwI nwL; rw [if_pos (show nw5 I k n m i how 4 k = 3 from h57), if_neg (show ¬ nw5 I k n m i how 3 k = 0 from h65)]; rfl⟩
    · skip
      refine x_bipush (63) 70 dO_init_68 rfl rfl ?_
      refine x_goto 74 dO_init_70 (by decide) ?_
      refine y_O5 77 pO_init_44 dO_init_74 rfl (by assumption) ?_
      refine x_goto 86 dO_init_77 (by decide) ?_
      refine x_aload_n 87 dO_init_86 rfl rfl ?_
      refine x_iload 89 dO_init_87 rfl rfl ?_
      refine y_O6 92 pO_init_47 dO_init_89 rfl (by assumption) ?_
      exact x_vret dO_init_92 rfl ⟨rfl, by unfold nwI nwL; rw [if_pos (show nw5 I k n m i how 4 k = 3 from h57), if_pos (show nw5 I k n m i how 3 k = 0 from h65)]; rfl⟩
def zI (I : Nat → Nat → Int32) (k : Nat) : Nat → Nat → Int32 := fun c => if c < 9 then x_uf (I c) k 0 else I c
theorem hp_new : x_up (hp N I J P V A B) (0, N) (.inr (2, [xI 0, xI 0, xI 0, xI 0, xI 0, xI 0, xI 0, xI 0, xI 0, xR none])) = hp (N + 1) (zI I N) J (sp P 0 N none) V A B := by
  funext a
  obtain ⟨c, i⟩ := a
  by_cases hci : (c, i) = (0, N)
  · cases hci
    rw [x_up_self]
    show some _ = (if N < N + 1 then some _ else none)
    rw [if_pos (Nat.lt_succ_self N)]
    simp [zI, sp, x_uf]
  · rw [x_up_ne _ _ hci]
    match c, hci with
    | 0, hci =>
      have hik : ¬ i = N := fun q => hci (by rw [q])
      show (if i < N then some (e_O I P i) else none) = (if i < N + 1 then some (e_O (zI I N) (sp P 0 N none) i) else none)
      have he : e_O (zI I N) (sp P 0 N none) i = e_O I P i := by simp [e_O, zI, sp, x_uf, hik]
      by_cases hi : i < N
      · rw [if_pos hi, if_pos (Nat.lt_succ_of_lt hi), he]
      · rw [if_neg hi, if_neg (by omega)]
    | 1, _ => rfl
    | 2, _ => rfl
    | 3, _ => rfl
    | 4, _ => rfl
    | 5, _ => rfl
    | 6, _ => rfl
    | 7, _ => rfl
    | 8, _ => rfl
    | 9, _ => rfl
    | 10, _ => rfl
    | 11, _ => rfl
    | 12, _ => rfl
    | 13, _ => rfl
    | 14, _ => rfl
    | 15, _ => rfl
    | 16, _ => rfl
    | 17, _ => rfl
    | 18, _ => rfl
    | 19, _ => rfl
    | 20, _ => rfl
    | n + 21, _ => rfl
theorem hp_nr (hP : PP N P) : ∀ (b : xQ) (e2 : xE), hp N I J P V A B b = some e2 → x_ne (0, N) e2 := by
  intro b e2 he
  obtain ⟨c, i⟩ := b
  match c, he with
  | 0, he =>
    have he : (if i < N then some (e_O I P i) else none) = some e2 := he
    split at he
    · cases he
      intro v hv hva
      rw [hva] at hv
      simp at hv
      have := hP.2.2 0 i (0, N) (by decide) hv.symm
      omega
    · cases he
  | 4, he =>
    have he : (if i < 4 then some (e_D P i) else none) = some e2 := he
    split at he
    · cases he
      intro v hv hva
      rw [hva] at hv
      simp at hv
      have := hP.2.2 1 i (0, N) (by decide) hv.symm
      omega
    · cases he
  | 8, he =>
    have he : (if i = 0 then some (.inl (5, 120, .inr (.inr (P 2)))) else none) = some e2 := he
    split at he
    · cases he
      intro j hj hva
      by_cases hjN : j < N
      · rw [hP.1 j hjN] at hva
        simp at hva
        omega
      · rw [hP.2.1 j (by omega)] at hva
        cases hva
    · cases he
  | 1, he =>
    have he : (if i < 5 then some (e_A J i) else none) = some e2 := he
    split at he
    · cases he
      intro v hv hva
      rw [hva] at hv
      simp at hv
    · cases he
  | 2, he =>
    have he : (if i < 5 then some (.inl (0, 2, .inl (V i))) else none) = some e2 := he
    split at he
    · cases he
      trivial
    · cases he
  | 3, he =>
    have he : (if i < 2 then some (e_B I i) else none) = some e2 := he
    split at he
    · cases he
      intro v hv hva
      rw [hva] at hv
      simp at hv
    · cases he
  | 5, he =>
    have he : (if i = 0 then some (e_C I) else none) = some e2 := he
    split at he
    · cases he
      intro v hv hva
      rw [hva] at hv
      simp at hv
    · cases he
  | 6, he =>
    have he : (if i = 0 then some (.inl (3, 5, .inr (.inr (fun j => some (1, j))))) else none) = some e2 := he
    split at he
    · cases he
      intro j hj hva
      simp at hva
    · cases he
  | 7, he =>
    have he : (if i = 0 then some (.inl (4, 2, .inr (.inr (fun j => some (3, j))))) else none) = some e2 := he
    split at he
    · cases he
      intro j hj hva
      simp at hva
    · cases he
  | 9, he =>
    have he : (if i = 0 then some (e_T I) else none) = some e2 := he
    split at he
    · cases he
      intro v hv hva
      rw [hva] at hv
      simp at hv
    · cases he
  | 10, he =>
    have he : (if i = 0 then some (.inl (0, 400, .inl (I 14))) else none) = some e2 := he
    split at he
    · cases he
      trivial
    · cases he
  | 11, he =>
    have he : (if i = 0 then some (e_S) else none) = some e2 := he
    split at he
    · cases he
      intro v hv hva
      rw [hva] at hv
      simp at hv
    · cases he
  | 12, he =>
    have he : (if i = 0 then some (.inl (0, 65, .inl (I 15))) else none) = some e2 := he
    split at he
    · cases he
      trivial
    · cases he
  | 13, he =>
    have he : (if i = 0 then some (.inl (0, 65, .inl (I 16))) else none) = some e2 := he
    split at he
    · cases he
      trivial
    · cases he
  | 14, he =>
    have he : (if i = 0 then some (e_R A) else none) = some e2 := he
    split at he
    · cases he
      intro v hv hva
      rw [hva] at hv
      simp at hv
    · cases he
  | 15, he =>
    have he : (if i < 9 then some (.inl (0, 120, .inl (A i))) else none) = some e2 := he
    split at he
    · cases he
      trivial
    · cases he
  | 16, he =>
    have he : (if i < 2 then some (.inl (1, 5, .inr (.inl (B i)))) else none) = some e2 := he
    split at he
    · cases he
      trivial
    · cases he
  | 17, he =>
    have he : (if i = 0 then some (.inl (0, 10, .inl (A 9))) else none) = some e2 := he
    split at he
    · cases he
      trivial
    · cases he
  | 18, he =>
    have he : (if i = 0 then some (.inl (2, 2, .inl (A 10))) else none) = some e2 := he
    split at he
    · cases he
      trivial
    · cases he
  | 19, he =>
    have he : (if i = 0 then some (.inl (0, 2, .inl (A 11))) else none) = some e2 := he
    split at he
    · cases he
      trivial
    · cases he
  | 20, he =>
    have he : (if i = 0 then some (.inl (0, 400, .inl (A 12))) else none) = some e2 := he
    split at he
    · cases he
      trivial
    · cases he
  | n + 21, he => cases he
theorem hp_less {I' : Nat → Nat → Int32} {P' : Nat → Nat → Option xQ} (h0 : ∀ k < N, e_O I' P' k = e_O I P k) (h10 : I' 10 = I 10) (h11 : I' 11 = I 11) (h12 : I' 12 0 = I 12 0) (h13 : I' 13 0 = I 13 0) (h14 : I' 14 = I 14) (h15 : I' 15 = I 15) (h16 : I' 16 = I 16) (p1 : P' 1 = P 1) (p2 : P' 2 = P 2) : ∀ (a : xQ) (e : xE), hp N I J P V A B a = some e → hp (N + 1) I' J P' V A B a = some e := by
  intro a e he
  obtain ⟨c, i⟩ := a
  match c, he with
  | 0, he =>
    have he : (if i < N then some (e_O I P i) else none) = some e := he
    split at he
    · rename_i hi
      show (if i < N + 1 then some (e_O I' P' i) else none) = some e
      rw [if_pos (Nat.lt_succ_of_lt hi), h0 i hi]
      exact he
    · cases he
  | 3, he =>
    show (if i < 2 then some (e_B I' i) else none) = some e
    have : e_B I' i = e_B I i := by unfold e_B; rw [h10, h11]
    rw [this]; exact he
  | 4, he =>
    show (if i < 4 then some (e_D P' i) else none) = some e
    have : e_D P' i = e_D P i := by unfold e_D; rw [p1]
    rw [this]; exact he
  | 5, he =>
    show (if i = 0 then some (e_C I') else none) = some e
    have : e_C I' = e_C I := by unfold e_C; rw [h12]
    rw [this]; exact he
  | 8, he =>
    show (if i = 0 then some (.inl (5, 120, .inr (.inr (P' 2)))) else none) = some e
    rw [p2]; exact he
  | 9, he =>
    show (if i = 0 then some (e_T I') else none) = some e
    have : e_T I' = e_T I := by unfold e_T; rw [h13]
    rw [this]; exact he
  | 10, he =>
    show (if i = 0 then some (.inl (0, 400, .inl (I' 14))) else none) = some e
    rw [h14]; exact he
  | 12, he =>
    show (if i = 0 then some (.inl (0, 65, .inl (I' 15))) else none) = some e
    rw [h15]; exact he
  | 13, he =>
    show (if i = 0 then some (.inl (0, 65, .inl (I' 16))) else none) = some e
    rw [h16]; exact he
  | 1, he => exact he
  | 2, he => exact he
  | 6, he => exact he
  | 7, he => exact he
  | 11, he => exact he
  | 14, he => exact he
  | 15, he => exact he
  | 16, he => exact he
  | 17, he => exact he
  | 18, he => exact he
  | 19, he => exact he
  | 20, he => exact he
  | n + 21, he => exact he
abbrev nwO (I : Nat → Nat → Int32) (N : Nat) (m i how lim q : Int32) : Nat → Nat → Int32 := nwI (zI I N) N (I 12 0) m i how lim q
def plI (I : Nat → Nat → Int32) (N : Nat) (m i how lim q : Int32) : Nat → Nat → Int32 := si (nwO I N m i how lim q) 12 0 (I 12 0 + 1)
theorem nw_e {k : Nat} (hk : k < N) (m i how lim q : Int32) (v : Option xQ) : e_O (nwO I N m i how lim q) (sp (sp P 0 N none) 0 N v) k = e_O I P k := by
  have hne : ¬ k = N := by omega
  simp [e_O, nwO, nwI, nw5, zI, si, sp, x_uf, hne]
theorem nw_at (m i how lim q : Int32) : nwO I N m i how lim q 1 N = m ∧ nwO I N m i how lim q 2 N = i ∧ nwO I N m i how lim q 3 N = how - how / 2 * 2 ∧ nwO I N m i how lim q 4 N = how / 2 ∧ nwO I N m i how lim q 5 N = (if how / 2 = 3 then (if how - how / 2 * 2 = 0 then 63 else 1) else lim) ∧ nwO I N m i how lim q 6 N = q ∧ nwO I N m i how lim q 0 N = I 12 0 ∧ nwO I N m i how lim q 7 N = 0 ∧ nwO I N m i how lim q 8 N = 0 := by
  simp [nwO, nwI, nwL, nw5, zI, si, x_uf]
theorem nw_ne {k : Nat} (hk : k < N) (m i how lim q : Int32) : nwO I N m i how lim q 1 k = I 1 k ∧ nwO I N m i how lim q 2 k = I 2 k ∧ nwO I N m i how lim q 3 k = I 3 k ∧ nwO I N m i how lim q 5 k = I 5 k := by
  have hne : ¬ k = N := by omega
  simp [nwO, nwI, nw5, zI, si, x_uf, hne]
theorem how_side {how : Int32} (h0 : ¬ how < 0) (h1 : ¬ 12 ≤ how) : how - how / 2 * 2 = 0 ∨ how - how / 2 * 2 = 1 := by
  rw [i_lt] at h0
  rw [i_le] at h1
  have e0 : (0 : Int32).toInt = 0 := by decide
  have e12 : (12 : Int32).toInt = 12 := by decide
  have e2 : (2 : Int32).toInt = 2 := by decide
  have d1 : (how / 2).toInt = how.toInt / 2 := by
    rw [Kit.i32_div (by rw [e2]; omega), e2, Int.tdiv_eq_ediv_of_nonneg (by omega)]
  have d2 : (how / 2 * 2).toInt = how.toInt / 2 * 2 := by
    rw [Kit.i32_mul (by rw [d1, e2]; omega) (by rw [d1, e2]; omega), d1, e2]
  have d3 : (how - how / 2 * 2).toInt = how.toInt % 2 := by
    rw [Kit.i32_sub (by rw [d2]; omega) (by rw [d2]; omega), d2]
    omega
  have hm : how.toInt % 2 = 0 ∨ how.toInt % 2 = 1 := by omega
  rcases hm with hm | hm
  · exact Or.inl (Int32.toInt_inj.mp (by rw [d3, hm]; decide))
  · exact Or.inr (Int32.toInt_inj.mp (by rw [d3, hm]; decide))
theorem pl_CI {t : Int} (hV : CV N I ls t) (hQ : QS N P ls) {m i how lim q : Int32} (hm : vp_in m 5) (hi : vp_in i 2) (hh : ¬ how < 0 ∧ ¬ 12 ≤ how) (hl : how / 2 = 3 ∨ (1 ≤ lim.toInt ∧ lim.toInt ≤ 63)) : CI (N + 1) (plI I N m i how lim q) ls := by
  refine ⟨fun k hk => ?_, fun j hj o ho => ?_⟩
  · by_cases hkN : k < N
    · obtain ⟨a1, a2, a3, a5⟩ := nw_ne (I := I) hkN m i how lim q
      have := hV.1.1 k hkN
      unfold OK1 at this ⊢
      show vp_in (nwO I N m i how lim q 1 k) 5 ∧ vp_in (nwO I N m i how lim q 2 k) 2 ∧ (nwO I N m i how lim q 3 k = 0 ∨ nwO I N m i how lim q 3 k = 1) ∧ 1 ≤ (nwO I N m i how lim q 5 k).toInt ∧ (nwO I N m i how lim q 5 k).toInt ≤ 63
      rw [a1, a2, a3, a5]
      exact this
    · have hkN : k = N := by omega
      subst hkN
      obtain ⟨a1, a2, a3, a4, a5, -⟩ := nw_at (I := I) (N := k) m i how lim q
      unfold OK1
      show vp_in (nwO I k m i how lim q 1 k) 5 ∧ vp_in (nwO I k m i how lim q 2 k) 2 ∧ (nwO I k m i how lim q 3 k = 0 ∨ nwO I k m i how lim q 3 k = 1) ∧ 1 ≤ (nwO I k m i how lim q 5 k).toInt ∧ (nwO I k m i how lim q 5 k).toInt ≤ 63
      rw [a1, a2, a3, a5]
      refine ⟨hm, hi, how_side hh.1 hh.2, ?_⟩
      split
      · split <;> decide
      · rename_i h3
        rcases hl with hl | hl
        · exact absurd hl h3
        · exact hl
  · have hoN := hQ.2.1 j hj o ho
    obtain ⟨a1, a2, a3, a5⟩ := nw_ne (I := I) hoN m i how lim q
    show sdx (nwO I N m i how lim q 2 o).toNatClampNeg (nwO I N m i how lim q 3 o) = j
    rw [a2, a3]
    exact hV.1.2 j hj o ho
theorem QS.nw (hQ : QS N P ls) : QS (N + 1) (sp (sp (sp P 0 N none) 0 N none) 2 N (some (0, N))) ls := by
  obtain ⟨h1, h2, h3, h4⟩ := hQ
  refine ⟨fun j hj => ?_, fun j hj o ho => Nat.lt_succ_of_lt (h2 j hj o ho), h3, h4⟩
  exact Ch.re (fun o ho => by
    have : ¬ o = N := by have := h2 j hj o ho; omega
    rw [sp_ne (fun q => by cases q.1), sp_ne (fun q => this q.2), sp_ne (fun q => this q.2)]) (h1 j hj)
theorem QS.nw1 (hQ : QS N P ls) : QS (N + 1) (sp (sp P 0 N none) 0 N none) ls := by
  obtain ⟨h1, h2, h3, h4⟩ := hQ
  refine ⟨fun j hj => ?_, fun j hj o ho => Nat.lt_succ_of_lt (h2 j hj o ho), h3, h4⟩
  exact Ch.re (fun o ho => by
    have : ¬ o = N := by have := h2 j hj o ho; omega
    rw [sp_ne (fun q => this q.2), sp_ne (fun q => this q.2)]) (h1 j hj)
theorem PP.nw (hP : PP N P) : PP (N + 1) (sp (sp (sp P 0 N none) 0 N none) 2 N (some (0, N))) := by
  refine ⟨fun k hk => ?_, fun k hk => ?_, ?_⟩
  · by_cases hkN : k = N
    · subst hkN; exact sp_eq
    · rw [sp_ne (fun q => hkN q.2)]
      exact hP.1 k (by omega)
  · rw [sp_ne (fun q => by omega)]
    exact hP.2.1 k (by omega)
  · intro c k a hc ha
    rw [sp_ne (fun q => by omega)] at ha
    by_cases hk : c = 0 ∧ k = N
    · obtain ⟨rfl, rfl⟩ := hk
      rw [sp_eq] at ha
      cases ha
    · rw [sp_ne hk, sp_ne hk] at ha
      have := hP.2.2 c k a hc ha
      omega
end MA
end
section
section XMo
variable {l : Launch} {G : xG} {M : xM} {d kc ks : Nat} {nk : List xQ} {Q Q1 : Option xV → xH → Prop} {pc : Nat} {L : List (Option xV)} {st : List xV} {h : xH}
/-- more is known behind -/
theorem x_Xm (hq : ∀ r h1, Q1 r h1 → Q r h1) (k : x_X l G M d kc ks nk Q1 pc L st h) : x_X l G M d kc ks nk Q pc L st h := by
  intro p e R s m args below meth c H locs cells slots mc ms ls z0 z C hc hz hW hS hL T hT X
  obtain ⟨t, a1, o, b1, b2, ⟨r, h', z', c1, c2, c3⟩, b4⟩ := k p e R s m args below meth c H locs cells slots mc ms ls z0 z C hc hz hW hS hL T hT X
  exact ⟨t, a1, o, b1, b2, ⟨r, h', z', c1, hq r h' c2, c3⟩, b4⟩
end XMo
section MB
variable {l : Launch} {G : xG} {N : Nat} {I : Nat → Nat → Int32} {J : Nat → Nat → Int64} {P : Nat → Nat → Option xQ} {V : Nat → Nat → Int32} {A : Nat → Nat → Int32} {B : Nat → Nat → Int64}
variable {h : xH} {ls : Nat → List Nat}
def QP (R : Int32 × Nat × cS) (A : Nat → Nat → Int32) (B : Nat → Nat → Int64) : Option xV → xH → Prop := x_ex (some (xI R.1)) (HS R.2.1 R.2.2 A B)
theorem QP.ip {c : Prop} [Decidable c] {S1 S2 : Int32 × Nat × cS} {r : Option xV} (hc : c) (q : QP S1 A B r h) : QP (if c then S1 else S2) A B r h := by rw [if_pos hc]; exact q
theorem QP.ig {c : Prop} [Decidable c] {S1 S2 : Int32 × Nat × cS} {r : Option xV} (hc : ¬ c) (q : QP S2 A B r h) : QP (if c then S1 else S2) A B r h := by rw [if_neg hc]; exact q
abbrev rfsP (I : Nat → Nat → Int32) (ls : Nat → List Nat) (N : Nat) (m i how lim q : Int32) : Int32 := rfs (nwO I N m i how lim q) N (ls (fdx i.toNatClampNeg (nwO I N m i how lim q 3 N)))
def pl4 (N : Nat) (I : Nat → Nat → Int32) (J : Nat → Nat → Int64) (V : Nat → Nat → Int32) (ls : Nat → List Nat) (m i how lim q : Int32) : Int32 × Nat × cS := if rfsP I ls N m i how lim q = 0 then ((adS (plI I N m i how lim q) J V ls N i.toNatClampNeg).1 0 N, N + 1, adS (plI I N m i how lim q) J V ls N i.toNatClampNeg) else (-5, N, (I, J, V, ls))
def pl3 (N : Nat) (I : Nat → Nat → Int32) (J : Nat → Nat → Int64) (V : Nat → Nat → Int32) (ls : Nat → List Nat) (m i how lim q : Int32) : Int32 × Nat × cS := if lg_cmp (rsk I V ls m i (how - how / 2 * 2) q) (J 0 m.toNatClampNeg) ≤ 0 then pl4 N I J V ls m i how lim q else (-4, N, (I, J, V, ls))
def pl1 (N : Nat) (I : Nat → Nat → Int32) (J : Nat → Nat → Int64) (V : Nat → Nat → Int32) (ls : Nat → List Nat) (m i how lim q : Int32) : Int32 × Nat × cS := if I 12 0 < 120 then (if I 10 i.toNatClampNeg = 0 then (if how / 2 = 0 then pl3 N I J V ls m i how lim q else if how / 2 = 5 then pl3 N I J V ls m i how lim q else (-3, N, (I, J, V, ls))) else pl3 N I J V ls m i how lim q) else (-2, N, (I, J, V, ls))
def plS (N : Nat) (I : Nat → Nat → Int32) (J : Nat → Nat → Int64) (V : Nat → Nat → Int32) (ls : Nat → List Nat) (m i how lim q : Int32) : Int32 × Nat × cS := if isM m = 0 then (-1, N, (I, J, V, ls)) else if isN i = 0 then (-1, N, (I, J, V, ls)) else if isH how = 0 then (-1, N, (I, J, V, ls)) else if q < 1 then (-1, N, (I, J, V, ls)) else if 99 < q then (-1, N, (I, J, V, ls)) else if how / 2 = 3 then pl1 N I J V ls m i how lim q else if isP lim = 0 then (-1, N, (I, J, V, ls)) else pl1 N I J V ls m i how lim q
theorem lp_place128 {t : Int} (hS : HS N (I, J, V, ls) A B h) (hV : CV N I ls t) (ht : t + 219 < 2147483648) {m i how lim q : Int32} (hm : vp_in m 5) (hi : vp_in i 2) (hh : ¬ how < 0 ∧ ¬ 12 ≤ how) (hl : how / 2 = 3 ∨ (1 ≤ lim.toInt ∧ lim.toInt ≤ 63)) (hc : I 12 0 < 120) (x : Option xV) : x_X l G mC_place 6 1 10 [(0, N)] (QP (pl4 N I J V ls m i how lim q) A B) 128 [some (xR (some (5, 0))), some (xI m), some (xI i), some (xI how), some (xI lim), some (xI q), some (xR (some (3, i.toNatClampNeg))), some (xI (how / 2)), x] [] h := by
  obtain ⟨P, rfl, hQ, hP2⟩ := hS.out
  have hN := hV.2.1
  have eN : (I 12 0).toNatClampNeg = N := by rw [i_nat]; omega
  have h120 : vp_in (I 12 0) 120 := vp_of (by omega) (by rw [i_lt, c120] at hc; exact hc)
  refine x_less (L' := [some (xR (some (5, 0))), some (xI m), some (xI i), some (xI how), some (xI lim), some (xI q), some (xR (some (3, i.toNatClampNeg))), some (xI (how / 2)), none]) (fun j v hj => by
    match j, hj with
    | 0, hj => exact hj
    | 1, hj => exact hj
    | 2, hj => exact hj
    | 3, hj => exact hj
    | 4, hj => exact hj
    | 5, hj => exact hj
    | 6, hj => exact hj
    | 7, hj => exact hj
    | 8, hj => cases hj
    | j + 9, hj => simp at hj) ?_
  refine x_new (0, N) 131 nC_place_21 dC_place_128 rfl (by decide) (by decide) (List.mem_singleton.mpr rfl) (if_neg (Nat.lt_irrefl N)) (hp_nr hP2) (fun v hv a ha hva => by rw [List.mem_singleton.mp ha] at hva; rw [hva] at hv; simp at hv) (fun v hv a ha hva => by rw [List.mem_singleton.mp ha] at hva; rw [hva] at hv; simp at hv) ?_
  rw [hp_new]
  refine x_dup 132 dC_place_131 rfl rfl ?_
  refine x_aload_n 133 dC_place_132 rfl rfl ?_
  refine x_get _ 136 fC_41 dC_place_133 rfl rfl rfl ?_
  refine x_iload_n 137 dC_place_136 rfl rfl ?_
  refine x_iload_n 138 dC_place_137 rfl rfl ?_
  refine x_iload_n 139 dC_place_138 rfl rfl ?_
  refine x_iload 141 dC_place_139 rfl rfl ?_
  refine x_iload 143 dC_place_141 rfl rfl ?_
  refine x_callI 146 (cO_init (Nat.lt_succ_self N) _ _ _ _ _ _) kC_85 oO_init dC_place_143 rfl rfl (by decide) (Nat.zero_le _) (Nat.zero_le _) (Nat.le_of_ble_eq_true rfl) (fun _ q => nomatch q) (fun _ _ _ q => nomatch q) (fun _ _ _ q => nomatch q) (fun r h1 hq => ?_)
  obtain ⟨rfl, rfl⟩ := hq
  show x_X l G mC_place 6 _ _ _ _ 146 _ [xR (some (0, N))] (hp (N + 1) (nwO I N m i how lim q) J (sp (sp P 0 N none) 0 N none) V A B)
  refine x_astore 148 dC_place_146 rfl (by decide) rfl ?_
  refine x_aload 150 dC_place_148 rfl rfl ?_
  refine x_aload 152 dC_place_150 rfl rfl ?_
  refine x_fVv 155 (cB_refuses (vp_lt hi) (Nat.lt_succ_self N) (hQ.nw1.1 _ (fdx_lt (vp_lt hi) _)) (hQ.nw1.2.1 _ (fdx_lt (vp_lt hi) _))) kC_88 oB_refuses rfl (h_B (vp_lt hi)) dC_place_152 rfl rfl (by decide) (Nat.le_of_ble_eq_true rfl) ?_
  refine x_if_eq 161 158 dC_place_155 (by decide) rfl (fun h155 => ?_) (fun h155 => ?_)
  · skip
    refine x_aload_n 162 dC_place_161 rfl rfl ?_
    refine x_get _ 165 fC_23 dC_place_162 rfl rfl rfl ?_
    refine x_aload_n 166 dC_place_165 rfl rfl ?_
    refine x_get _ 169 fC_41 dC_place_166 rfl rfl rfl ?_
    refine x_aload 171 dC_place_169 rfl rfl ?_
    refine y_orders 172 dC_place_171 rfl (Nat.lt_succ_self N) h120 ?_
    rw [show (nwO I N m i how lim q 12 0).toNatClampNeg = N from eN]
    refine x_aload_n 173 dC_place_172 rfl rfl ?_
    refine x_dup 174 dC_place_173 rfl rfl ?_
    refine x_get _ 177 fC_41 dC_place_174 rfl rfl rfl ?_
    refine x_iconst 1 178 dC_place_177 rfl rfl ?_
    refine x_iadd 179 dC_place_178 rfl ?_
    refine y_C5 182 pC_place_41 dC_place_179 rfl ?_
    refine x_aload_n 183 dC_place_182 rfl rfl ?_
    refine x_aload 185 dC_place_183 rfl rfl ?_
    refine x_aload 187 dC_place_185 rfl rfl ?_
    refine x_gVn 190 (cC_admit (N := N + 1) (I := plI I N m i how lim q) (ls := ls) (by exact ⟨_, rfl, hQ.nw, hP2.nw⟩) (pl_CI hV hQ hm hi hh hl) (Nat.lt_succ_self N) (vp_lt hi) (fun j hj q => Nat.lt_irrefl N (hQ.2.1 j hj N q)) (by exact hV.2.2.2.1) (by show (I 13 0).toInt + 219 < _; have := hV.2.2.2.2; omega)) kC_92 oC_admit rfl rfl dC_place_187 rfl rfl (by decide) (Nat.le_of_ble_eq_true rfl) (fun h1 hq => ?_)
    obtain ⟨P1, rfl, hQ1, hP21⟩ := hq
    refine x_aload 192 dC_place_190 rfl rfl ?_
    refine x_get _ 195 fC_96 dC_place_192 rfl (h_O (Nat.lt_succ_self N)) rfl ?_
    exact x_iret dC_place_195 rfl rfl (QP.ip h155 ⟨rfl, P1, rfl, hQ1, hP21⟩)
  · skip
    refine x_sub (hp_less (fun k hk => nw_e hk m i how lim q none) rfl rfl rfl rfl rfl rfl rfl rfl rfl) ?_
    refine x_bipush (-5) 160 dC_place_158 rfl rfl ?_
    exact x_iret dC_place_160 rfl rfl (QP.ig h155 ⟨rfl, P, rfl, hQ, hP2⟩)
theorem lp_place52 {t : Int} (hS : HS N (I, J, V, ls) A B h) (hV : CV N I ls t) (ht : t + 219 < 2147483648) {m i how lim q : Int32} (hm : vp_in m 5) (hi : vp_in i 2) (hh : ¬ how < 0 ∧ ¬ 12 ≤ how) (hl : how / 2 = 3 ∨ (1 ≤ lim.toInt ∧ lim.toInt ≤ 63)) : x_X l G mC_place 6 1 10 [(0, N)] (QP (pl1 N I J V ls m i how lim q) A B) 52 [some (xR (some (5, 0))), some (xI m), some (xI i), some (xI how), some (xI lim), some (xI q), none, none, none] [] h := by
  obtain ⟨P, rfl, hQ, hP2⟩ := hS.out
  refine x_aload_n 53 dC_place_52 rfl rfl ?_
  refine x_get _ 56 fC_41 dC_place_53 rfl rfl rfl ?_
  refine x_bipush (120) 58 dC_place_56 rfl rfl ?_
  refine x_icmp_lt 64 61 dC_place_58 (by decide) rfl (fun h58 => ?_) (fun h58 => ?_)
  · skip
    refine x_aload_n 65 dC_place_64 rfl rfl ?_
    refine x_get _ 68 fC_17 dC_place_65 rfl rfl rfl ?_
    refine x_iload_n 69 dC_place_68 rfl rfl ?_
    refine x_aald 70 rfl dC_place_69 rfl rfl hi ?_
    refine x_astore 72 dC_place_70 rfl (by decide) rfl ?_
    refine x_iload_n 73 dC_place_72 rfl rfl ?_
    refine x_fSv 76 (cC_kindOf _) kC_67 oC_kindOf dC_place_73 rfl rfl (by decide) (Nat.le_of_ble_eq_true rfl) ?_
    refine x_istore 78 dC_place_76 rfl (by decide) rfl ?_
    refine x_aload 80 dC_place_78 rfl rfl ?_
    refine x_get _ 83 fC_74 dC_place_80 rfl (h_B (vp_lt hi)) rfl ?_
    refine x_if_ne 100 86 dC_place_83 (by decide) rfl (fun h83 => ?_) (fun h83 => ?_)
    · skip
      refine x_aload_n 101 dC_place_100 rfl rfl ?_
      refine x_iload_n 102 dC_place_101 rfl rfl ?_
      refine x_iload_n 103 dC_place_102 rfl rfl ?_
      refine x_iload_n 104 dC_place_103 rfl rfl ?_
      refine x_fSv 107 (cC_sideOf _) kC_78 oC_sideOf dC_place_104 rfl rfl (by decide) (Nat.le_of_ble_eq_true rfl) ?_
      refine x_iload 109 dC_place_107 rfl rfl ?_
      refine x_fVv 112 (cC_riskWith hm hQ.1 hQ.2.1 _ _ _) kC_81 oC_riskWith rfl rfl dC_place_109 rfl rfl (by decide) (Nat.le_of_ble_eq_true rfl) ?_
      refine x_aload_n 113 dC_place_112 rfl rfl ?_
      refine x_get _ 116 fC_11 dC_place_113 rfl rfl rfl ?_
      refine x_iload_n 117 dC_place_116 rfl rfl ?_
      refine x_aald 118 rfl dC_place_117 rfl rfl hm ?_
      refine x_get _ 121 fC_53 dC_place_118 rfl (h_A (vp_lt hm)) rfl ?_
      refine x_lcmp 122 dC_place_121 rfl ?_
      refine x_if_le 128 125 dC_place_122 (by decide) rfl (fun h122 => ?_) (fun h122 => ?_)
      · skip
        exact x_Xm (fun r h1 z => QP.ip h58 (QP.ig h83 (QP.ip h122 (z)))) (lp_place128 hS hV ht hm hi hh hl h58 _)
      · skip
        refine x_bipush (-4) 127 dC_place_125 rfl rfl ?_
        exact x_iret dC_place_127 rfl rfl (QP.ip h58 (QP.ig h83 (QP.ig h122 (⟨rfl, P, rfl, hQ, hP2⟩))))
    · skip
      refine x_iload 88 dC_place_86 rfl rfl ?_
      refine x_if_eq 100 91 dC_place_88 (by decide) rfl (fun h88 => ?_) (fun h88 => ?_)
      · skip
        refine x_aload_n 101 dC_place_100 rfl rfl ?_
        refine x_iload_n 102 dC_place_101 rfl rfl ?_
        refine x_iload_n 103 dC_place_102 rfl rfl ?_
        refine x_iload_n 104 dC_place_103 rfl rfl ?_
        refine x_fSv 107 (cC_sideOf _) kC_78 oC_sideOf dC_place_104 rfl rfl (by decide) (Nat.le_of_ble_eq_true rfl) ?_
        refine x_iload 109 dC_place_107 rfl rfl ?_
        refine x_fVv 112 (cC_riskWith hm hQ.1 hQ.2.1 _ _ _) kC_81 oC_riskWith rfl rfl dC_place_109 rfl rfl (by decide) (Nat.le_of_ble_eq_true rfl) ?_
        refine x_aload_n 113 dC_place_112 rfl rfl ?_
        refine x_get _ 116 fC_11 dC_place_113 rfl rfl rfl ?_
        refine x_iload_n 117 dC_place_116 rfl rfl ?_
        refine x_aald 118 rfl dC_place_117 rfl rfl hm ?_
        refine x_get _ 121 fC_53 dC_place_118 rfl (h_A (vp_lt hm)) rfl ?_
        refine x_lcmp 122 dC_place_121 rfl ?_
        refine x_if_le 128 125 dC_place_122 (by decide) rfl (fun h122 => ?_) (fun h122 => ?_)
        · skip
          exact x_Xm (fun r h1 z => QP.ip h58 (QP.ip h83 (QP.ip h88 (QP.ip h122 (z))))) (lp_place128 hS hV ht hm hi hh hl h58 _)
        · skip
          refine x_bipush (-4) 127 dC_place_125 rfl rfl ?_
          exact x_iret dC_place_127 rfl rfl (QP.ip h58 (QP.ip h83 (QP.ip h88 (QP.ig h122 (⟨rfl, P, rfl, hQ, hP2⟩)))))
      · skip
        refine x_iload 93 dC_place_91 rfl rfl ?_
        refine x_iconst 5 94 dC_place_93 rfl rfl ?_
        refine x_icmp_eq 100 97 dC_place_94 (by decide) rfl (fun h94 => ?_) (fun h94 => ?_)
        · skip
          refine x_aload_n 101 dC_place_100 rfl rfl ?_
          refine x_iload_n 102 dC_place_101 rfl rfl ?_
          refine x_iload_n 103 dC_place_102 rfl rfl ?_
          refine x_iload_n 104 dC_place_103 rfl rfl ?_
          refine x_fSv 107 (cC_sideOf _) kC_78 oC_sideOf dC_place_104 rfl rfl (by decide) (Nat.le_of_ble_eq_true rfl) ?_
          refine x_iload 109 dC_place_107 rfl rfl ?_
          refine x_fVv 112 (cC_riskWith hm hQ.1 hQ.2.1 _ _ _) kC_81 oC_riskWith rfl rfl dC_place_109 rfl rfl (by decide) (Nat.le_of_ble_eq_true rfl) ?_
          refine x_aload_n 113 dC_place_112 rfl rfl ?_
          refine x_get _ 116 fC_11 dC_place_113 rfl rfl rfl ?_
          refine x_iload_n 117 dC_place_116 rfl rfl ?_
          refine x_aald 118 rfl dC_place_117 rfl rfl hm ?_
          refine x_get _ 121 fC_53 dC_place_118 rfl (h_A (vp_lt hm)) rfl ?_
          refine x_lcmp 122 dC_place_121 rfl ?_
          refine x_if_le 128 125 dC_place_122 (by decide) rfl (fun h122 => ?_) (fun h122 => ?_)
          · skip
            exact x_Xm (fun r h1 z => QP.ip h58 (QP.ip h83 (QP.ig h88 (QP.ip h94 (QP.ip h122 (z)))))) (lp_place128 hS hV ht hm hi hh hl h58 _)
          · skip
            refine x_bipush (-4) 127 dC_place_125 rfl rfl ?_
            exact x_iret dC_place_127 rfl rfl (QP.ip h58 (QP.ip h83 (QP.ig h88 (QP.ip h94 (QP.ig h122 (⟨rfl, P, rfl, hQ, hP2⟩))))))
        · skip
          refine x_bipush (-3) 99 dC_place_97 rfl rfl ?_
          exact x_iret dC_place_99 rfl rfl (QP.ip h58 (QP.ip h83 (QP.ig h88 (QP.ig h94 (⟨rfl, P, rfl, hQ, hP2⟩)))))
  · skip
    refine x_bipush (-2) 63 dC_place_61 rfl rfl ?_
    exact x_iret dC_place_63 rfl rfl (QP.ig h58 (⟨rfl, P, rfl, hQ, hP2⟩))
theorem vL {lim : Int32} (h : ¬ isP lim = 0) : 1 ≤ lim.toInt ∧ lim.toInt ≤ 63 := by
  have := b01_nz.mp h
  have h1 := this.1
  have h2 := this.2
  rw [i_lt] at h1 h2
  have e1 : (1 : Int32).toInt = 1 := by decide
  have e2 := c63
  omega
theorem cC_place {t : Int} (hS : HS N (I, J, V, ls) A B h) (hV : CV N I ls t) (ht : t + 219 < 2147483648) (m i how lim q : Int32) : x_C l G mC_place 6 1 10 [xR (some (5, 0)), xI m, xI i, xI how, xI lim, xI q] (h) [(0, N)] (QP (plS N I J V ls m i how lim q) A B) := by
  obtain ⟨P, rfl, hQ, hP2⟩ := hS.out
  refine x_C.at [some (xR (some (5, 0))), some (xI m), some (xI i), some (xI how), some (xI lim), some (xI q), none, none, none] rfl (Nat.le_of_ble_eq_true rfl) rfl ?_
  refine x_iload_n 1 dC_place_0 rfl rfl ?_
  refine x_fSv 4 (cC_isMember _) kC_47 oC_isMember dC_place_1 rfl rfl (by decide) (Nat.le_of_ble_eq_true rfl) ?_
  refine x_if_eq 50 7 dC_place_4 (by decide) rfl (fun h4 => ?_) (fun h4 => ?_)
  · skip
    refine x_iconst (-1) 51 dC_place_50 rfl rfl ?_
    exact x_iret dC_place_51 rfl rfl (QP.ip h4 (⟨rfl, P, rfl, hQ, hP2⟩))
  · skip
    refine x_iload_n 8 dC_place_7 rfl rfl ?_
    refine x_fSv 11 (cC_isInstrument _) kC_61 oC_isInstrument dC_place_8 rfl rfl (by decide) (Nat.le_of_ble_eq_true rfl) ?_
    refine x_if_eq 50 14 dC_place_11 (by decide) rfl (fun h11 => ?_) (fun h11 => ?_)
    · skip
      refine x_iconst (-1) 51 dC_place_50 rfl rfl ?_
      exact x_iret dC_place_51 rfl rfl (QP.ig h4 (QP.ip h11 (⟨rfl, P, rfl, hQ, hP2⟩)))
    · skip
      refine x_iload_n 15 dC_place_14 rfl rfl ?_
      refine x_fSv 18 (cC_isHow _) kC_64 oC_isHow dC_place_15 rfl rfl (by decide) (Nat.le_of_ble_eq_true rfl) ?_
      refine x_if_eq 50 21 dC_place_18 (by decide) rfl (fun h18 => ?_) (fun h18 => ?_)
      · skip
        refine x_iconst (-1) 51 dC_place_50 rfl rfl ?_
        exact x_iret dC_place_51 rfl rfl (QP.ig h4 (QP.ig h11 (QP.ip h18 (⟨rfl, P, rfl, hQ, hP2⟩))))
      · skip
        refine x_iload 23 dC_place_21 rfl rfl ?_
        refine x_iconst 1 24 dC_place_23 rfl rfl ?_
        refine x_icmp_lt 50 27 dC_place_24 (by decide) rfl (fun h24 => ?_) (fun h24 => ?_)
        · skip
          refine x_iconst (-1) 51 dC_place_50 rfl rfl ?_
          exact x_iret dC_place_51 rfl rfl (QP.ig h4 (QP.ig h11 (QP.ig h18 (QP.ip h24 (⟨rfl, P, rfl, hQ, hP2⟩)))))
        · skip
          refine x_iload 29 dC_place_27 rfl rfl ?_
          refine x_bipush (99) 31 dC_place_29 rfl rfl ?_
          refine x_icmp_gt 50 34 dC_place_31 (by decide) rfl (fun h31 => ?_) (fun h31 => ?_)
          · skip
            refine x_iconst (-1) 51 dC_place_50 rfl rfl ?_
            exact x_iret dC_place_51 rfl rfl (QP.ig h4 (QP.ig h11 (QP.ig h18 (QP.ig h24 (QP.ip h31 (⟨rfl, P, rfl, hQ, hP2⟩))))))
          · skip
            refine x_iload_n 35 dC_place_34 rfl rfl ?_
            refine x_fSv 38 (cC_kindOf _) kC_67 oC_kindOf dC_place_35 rfl rfl (by decide) (Nat.le_of_ble_eq_true rfl) ?_
            refine x_iconst 3 39 dC_place_38 rfl rfl ?_
            refine x_icmp_eq 52 42 dC_place_39 (by decide) rfl (fun h39 => ?_) (fun h39 => ?_)
            · skip
              exact x_Xm (fun r h1 z => QP.ig h4 (QP.ig h11 (QP.ig h18 (QP.ig h24 (QP.ig h31 (QP.ip h39 (z))))))) (lp_place52 hS hV ht (vM h4) (vN h11) (b01_nz.mp h18) (Or.inl h39))
            · skip
              refine x_iload 44 dC_place_42 rfl rfl ?_
              refine x_fSv 47 (cC_isPrice _) kC_71 oC_isPrice dC_place_44 rfl rfl (by decide) (Nat.le_of_ble_eq_true rfl) ?_
              refine x_if_ne 52 50 dC_place_47 (by decide) rfl (fun h47 => ?_) (fun h47 => ?_)
              · skip
                exact x_Xm (fun r h1 z => QP.ig h4 (QP.ig h11 (QP.ig h18 (QP.ig h24 (QP.ig h31 (QP.ig h39 (QP.ig h47 (z)))))))) (lp_place52 hS hV ht (vM h4) (vN h11) (b01_nz.mp h18) (Or.inr (vL h47)))
              · skip
                refine x_iconst (-1) 51 dC_place_50 rfl rfl ?_
                exact x_iret dC_place_51 rfl rfl (QP.ig h4 (QP.ig h11 (QP.ig h18 (QP.ig h24 (QP.ig h31 (QP.ig h39 (QP.ip h47 (⟨rfl, P, rfl, hQ, hP2⟩))))))))
end MB
end

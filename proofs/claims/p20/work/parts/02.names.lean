-- names, field tables, methods, links: printed by wip/gen/names.py out of the Statement and the listing
abbrev xM : Type := MethodName × ByteArray × Nat × Option FieldType
def wsA : List Cond := lw_tbl.filter goodWord
theorem w_at {w : Cond} (i : Nat) (h : lw_tbl[i]? = some w) (g : goodWord w = true) : w ∈ wsA := List.mem_filter.mpr ⟨List.mem_of_getElem? h, g⟩
theorem w_sub {ws : List Cond} (ps : List Nat) (hp : ws = ps.filterMap (fun i => lw_tbl[i]?)) (hg : ws.all goodWord = true) : ∀ w ∈ ws, w ∈ wsA := by
  intro w hw
  have h1 := List.all_eq_true.mp hg w hw
  rw [hp] at hw
  obtain ⟨i, -, hi⟩ := List.mem_filterMap.mp hw
  exact w_at i hi h1
def RA : String := "CallMarket$Account"
def TA : u_T := fun k => match k with
  | 0 => ("CallMarket$Account", "positions", "[I", true)
  | 1 => ("CallMarket$Account", "money", "J", false)
  | _ => ("CallMarket$Account", "owed", "J", false)
def tyA : Nat → FieldType := fun k => match k with
  | 0 => .array .int
  | 1 => .long
  | _ => .long
theorem nmA : ∀ a, a < 3 → ∀ b, b < 3 → a ≠ b → (TA a).2.1 ≠ (TA b).2.1 := by decide +kernel
theorem tyA_ok : ∀ k, k < 3 → parseFieldDescriptor (TA k).2.2.1 = some (tyA k) := by decide +kernel
theorem uA : ∀ w ∈ u_ws RA TA 3, w ∈ wsA := w_sub [90, 92, 94] (by decide +kernel) (by decide +kernel)
def RB : String := "CallMarket$Book"
def TB : u_T := fun k => match k with
  | 0 => ("CallMarket$Book", "buys", "LCallMarket$Side;", true)
  | 1 => ("CallMarket$Book", "sells", "LCallMarket$Side;", true)
  | 2 => ("CallMarket$Book", "isOpen", "Z", false)
  | _ => ("CallMarket$Book", "reference", "I", false)
def tyB : Nat → FieldType := fun k => match k with
  | 0 => .object "CallMarket$Side"
  | 1 => .object "CallMarket$Side"
  | 2 => .boolean
  | _ => .int
theorem nmB : ∀ a, a < 4 → ∀ b, b < 4 → a ≠ b → (TB a).2.1 ≠ (TB b).2.1 := by decide +kernel
theorem tyB_ok : ∀ k, k < 4 → parseFieldDescriptor (TB k).2.2.1 = some (tyB k) := by decide +kernel
theorem uB : ∀ w ∈ u_ws RB TB 4, w ∈ wsA := w_sub [126, 128, 130, 132] (by decide +kernel) (by decide +kernel)
def RO : String := "CallMarket$Order"
def TO : u_T := fun k => match k with
  | 0 => ("CallMarket$Order", "number", "I", true)
  | 1 => ("CallMarket$Order", "member", "I", true)
  | 2 => ("CallMarket$Order", "instrument", "I", true)
  | 3 => ("CallMarket$Order", "side", "I", true)
  | 4 => ("CallMarket$Order", "kind", "I", true)
  | 5 => ("CallMarket$Order", "limit", "I", true)
  | 6 => ("CallMarket$Order", "left", "I", false)
  | 7 => ("CallMarket$Order", "shown", "I", false)
  | 8 => ("CallMarket$Order", "status", "I", false)
  | _ => ("CallMarket$Order", "next", "LCallMarket$Order;", false)
def tyO : Nat → FieldType := fun k => match k with
  | 0 => .int
  | 1 => .int
  | 2 => .int
  | 3 => .int
  | 4 => .int
  | 5 => .int
  | 6 => .int
  | 7 => .int
  | 8 => .int
  | _ => .object "CallMarket$Order"
theorem nmO : ∀ a, a < 10 → ∀ b, b < 10 → a ≠ b → (TO a).2.1 ≠ (TO b).2.1 := by decide +kernel
theorem tyO_ok : ∀ k, k < 10 → parseFieldDescriptor (TO k).2.2.1 = some (tyO k) := by decide +kernel
theorem uO : ∀ w ∈ u_ws RO TO 10, w ∈ wsA := w_sub [241, 243, 245, 247, 249, 251, 253, 255, 257, 259] (by decide +kernel) (by decide +kernel)
def RS : String := "CallMarket$Scale"
def TS : u_T := fun k => match k with
  | 0 => ("CallMarket$Scale", "bought", "[I", true)
  | _ => ("CallMarket$Scale", "sold", "[I", true)
def tyS : Nat → FieldType := fun k => match k with
  | 0 => .array .int
  | _ => .array .int
theorem nmS : ∀ a, a < 2 → ∀ b, b < 2 → a ≠ b → (TS a).2.1 ≠ (TS b).2.1 := by decide +kernel
theorem tyS_ok : ∀ k, k < 2 → parseFieldDescriptor (TS k).2.2.1 = some (tyS k) := by decide +kernel
theorem uS : ∀ w ∈ u_ws RS TS 2, w ∈ wsA := w_sub [74, 76] (by decide +kernel) (by decide +kernel)
def RD : String := "CallMarket$Side"
def TD : u_T := fun k => match k with
  | _ => ("CallMarket$Side", "first", "LCallMarket$Order;", false)
def tyD : Nat → FieldType := fun k => match k with
  | _ => .object "CallMarket$Order"
theorem nmD : ∀ a, a < 1 → ∀ b, b < 1 → a ≠ b → (TD a).2.1 ≠ (TD b).2.1 := by decide +kernel
theorem tyD_ok : ∀ k, k < 1 → parseFieldDescriptor (TD k).2.2.1 = some (tyD k) := by decide +kernel
theorem uD : ∀ w ∈ u_ws RD TD 1, w ∈ wsA := w_sub [112] (by decide +kernel) (by decide +kernel)
def RT : String := "CallMarket$Tape"
def TT : u_T := fun k => match k with
  | 0 => ("CallMarket$Tape", "rows", "[I", true)
  | _ => ("CallMarket$Tape", "count", "I", false)
def tyT : Nat → FieldType := fun k => match k with
  | 0 => .array .int
  | _ => .int
theorem nmT : ∀ a, a < 2 → ∀ b, b < 2 → a ≠ b → (TT a).2.1 ≠ (TT b).2.1 := by decide +kernel
theorem tyT_ok : ∀ k, k < 2 → parseFieldDescriptor (TT k).2.2.1 = some (tyT k) := by decide +kernel
theorem uT : ∀ w ∈ u_ws RT TT 2, w ∈ wsA := w_sub [60, 62] (by decide +kernel) (by decide +kernel)
def RC : String := "CallMarket"
def TC : u_T := fun k => match k with
  | 0 => ("CallMarket", "accounts", "[LCallMarket$Account;", true)
  | 1 => ("CallMarket", "books", "[LCallMarket$Book;", true)
  | 2 => ("CallMarket", "orders", "[LCallMarket$Order;", true)
  | 3 => ("CallMarket", "tape", "LCallMarket$Tape;", true)
  | 4 => ("CallMarket", "scale", "LCallMarket$Scale;", true)
  | _ => ("CallMarket", "orderCount", "I", false)
def tyC : Nat → FieldType := fun k => match k with
  | 0 => .array (.object "CallMarket$Account")
  | 1 => .array (.object "CallMarket$Book")
  | 2 => .array (.object "CallMarket$Order")
  | 3 => .object "CallMarket$Tape"
  | 4 => .object "CallMarket$Scale"
  | _ => .int
theorem nmC : ∀ a, a < 6 → ∀ b, b < 6 → a ≠ b → (TC a).2.1 ≠ (TC b).2.1 := by decide +kernel
theorem tyC_ok : ∀ k, k < 6 → parseFieldDescriptor (TC k).2.2.1 = some (tyC k) := by decide +kernel
theorem uC : ∀ w ∈ u_ws RC TC 6, w ∈ wsA := w_sub [141, 143, 145, 147, 149, 151] (by decide +kernel) (by decide +kernel)
def RR : String := "CallMarketModel"
def TR : u_T := fun k => match k with
  | 0 => ("CallMarketModel", "count", "I", false)
  | 1 => ("CallMarketModel", "owner", "[I", true)
  | 2 => ("CallMarketModel", "item", "[I", true)
  | 3 => ("CallMarketModel", "side", "[I", true)
  | 4 => ("CallMarketModel", "kind", "[I", true)
  | 5 => ("CallMarketModel", "limit", "[I", true)
  | 6 => ("CallMarketModel", "rest", "[I", true)
  | 7 => ("CallMarketModel", "shown", "[I", true)
  | 8 => ("CallMarketModel", "status", "[I", true)
  | 9 => ("CallMarketModel", "stamp", "[I", true)
  | 10 => ("CallMarketModel", "stamps", "I", false)
  | 11 => ("CallMarketModel", "cash", "[J", true)
  | 12 => ("CallMarketModel", "due", "[J", true)
  | 13 => ("CallMarketModel", "held", "[I", true)
  | 14 => ("CallMarketModel", "isOpen", "[Z", true)
  | 15 => ("CallMarketModel", "reference", "[I", true)
  | 16 => ("CallMarketModel", "traded", "I", false)
  | 17 => ("CallMarketModel", "record", "[I", true)
  | 18 => ("CallMarketModel", "price", "I", false)
  | 19 => ("CallMarketModel", "volume", "I", false)
  | _ => ("CallMarketModel", "over", "I", false)
def tyR : Nat → FieldType := fun k => match k with
  | 0 => .int
  | 1 => .array .int
  | 2 => .array .int
  | 3 => .array .int
  | 4 => .array .int
  | 5 => .array .int
  | 6 => .array .int
  | 7 => .array .int
  | 8 => .array .int
  | 9 => .array .int
  | 10 => .int
  | 11 => .array .long
  | 12 => .array .long
  | 13 => .array .int
  | 14 => .array .boolean
  | 15 => .array .int
  | 16 => .int
  | 17 => .array .int
  | 18 => .int
  | 19 => .int
  | _ => .int
theorem nmR : ∀ a, a < 21 → ∀ b, b < 21 → a ≠ b → (TR a).2.1 ≠ (TR b).2.1 := by decide +kernel
theorem tyR_ok : ∀ k, k < 21 → parseFieldDescriptor (TR k).2.2.1 = some (tyR k) := by decide +kernel
theorem uR : ∀ w ∈ u_ws RR TR 21, w ∈ wsA := w_sub [497, 499, 501, 503, 505, 507, 509, 511, 513, 515, 517, 519, 521, 523, 525, 527, 529, 531, 533, 535, 537] (by decide +kernel) (by decide +kernel)
abbrev vwCl : List vw_C := [(RA, TA, 3), (RB, TB, 4), (RO, TO, 10), (RS, TS, 2), (RD, TD, 1), (RT, TT, 2), (RC, TC, 6), (RR, TR, 21)]
abbrev xTy : List FieldType := [.int, .long, .boolean, .object "CallMarket$Account", .object "CallMarket$Book", .object "CallMarket$Order"]
abbrev mC_init : xM := (⟨"CallMarket", "<init>", "()V"⟩, prog_1_method_1_code, 2, none)
abbrev mT_init : xM := (⟨"CallMarket$Tape", "<init>", "()V"⟩, prog_7_method_1_code, 1, none)
abbrev mS_init : xM := (⟨"CallMarket$Scale", "<init>", "()V"⟩, prog_5_method_1_code, 1, none)
abbrev mA_init : xM := (⟨"CallMarket$Account", "<init>", "()V"⟩, prog_2_method_1_code, 1, none)
abbrev mB_init : xM := (⟨"CallMarket$Book", "<init>", "()V"⟩, prog_3_method_1_code, 1, none)
abbrev mD_init : xM := (⟨"CallMarket$Side", "<init>", "()V"⟩, prog_6_method_1_code, 1, none)
abbrev mC_deposit : xM := (⟨"CallMarket", "deposit", "(II)Z"⟩, prog_1_method_2_code, 4, some .boolean)
abbrev mC_isMember : xM := (⟨"CallMarket", "isMember", "(I)Z"⟩, prog_1_method_21_code, 1, some .boolean)
abbrev mC_riskOf : xM := (⟨"CallMarket", "riskOf", "(I)J"⟩, prog_1_method_30_code, 2, some .long)
abbrev mC_riskWith : xM := (⟨"CallMarket", "riskWith", "(IIII)J"⟩, prog_1_method_31_code, 11, some .long)
abbrev mD_leftOf : xM := (⟨"CallMarket$Side", "leftOf", "(I)I"⟩, prog_6_method_4_code, 4, some .int)
abbrev mM_abs : xM := (⟨"java/lang/Math", "abs", "(I)I"⟩, prog_10_method_59_code, 1, some .int)
abbrev mM_max : xM := (⟨"java/lang/Math", "max", "(II)I"⟩, prog_10_method_65_code, 2, some .int)
abbrev mC_place : xM := (⟨"CallMarket", "place", "(IIIII)I"⟩, prog_1_method_3_code, 9, some .int)
abbrev mC_isInstrument : xM := (⟨"CallMarket", "isInstrument", "(I)Z"⟩, prog_1_method_22_code, 1, some .boolean)
abbrev mC_isHow : xM := (⟨"CallMarket", "isHow", "(I)Z"⟩, prog_1_method_23_code, 1, some .boolean)
abbrev mC_kindOf : xM := (⟨"CallMarket", "kindOf", "(I)I"⟩, prog_1_method_26_code, 1, some .int)
abbrev mC_isPrice : xM := (⟨"CallMarket", "isPrice", "(I)Z"⟩, prog_1_method_25_code, 1, some .boolean)
abbrev mC_sideOf : xM := (⟨"CallMarket", "sideOf", "(I)I"⟩, prog_1_method_27_code, 1, some .int)
abbrev mO_init : xM := (⟨"CallMarket$Order", "<init>", "(IIIIII)V"⟩, prog_4_method_1_code, 7, none)
abbrev mB_refuses : xM := (⟨"CallMarket$Book", "refuses", "(LCallMarket$Order;)Z"⟩, prog_3_method_4_code, 3, some .boolean)
abbrev mB_facing : xM := (⟨"CallMarket$Book", "facing", "(I)LCallMarket$Side;"⟩, prog_3_method_3_code, 2, some (.object "CallMarket$Side"))
abbrev mO_accepts : xM := (⟨"CallMarket$Order", "accepts", "(I)Z"⟩, prog_4_method_2_code, 2, some .boolean)
abbrev mD_leftFor : xM := (⟨"CallMarket$Side", "leftFor", "(LCallMarket$Order;)I"⟩, prog_6_method_5_code, 4, some .int)
abbrev mC_admit : xM := (⟨"CallMarket", nAd, "(LCallMarket$Order;LCallMarket$Book;)V"⟩, prog_1_method_32_code, 3, none)
abbrev mC_meet : xM := (⟨"CallMarket", "meet", "(LCallMarket$Order;LCallMarket$Book;)V"⟩, prog_1_method_33_code, 6, none)
abbrev mC_takeAway : xM := (⟨"CallMarket", "takeAway", "(LCallMarket$Order;I)V"⟩, prog_1_method_38_code, 3, none)
abbrev mB_on : xM := (⟨"CallMarket$Book", "on", "(I)LCallMarket$Side;"⟩, prog_3_method_2_code, 2, some (.object "CallMarket$Side"))
abbrev mD_leave : xM := (⟨"CallMarket$Side", "leave", "(LCallMarket$Order;)V"⟩, prog_6_method_3_code, 4, none)
abbrev mD_link : xM := (⟨"CallMarket$Side", "link", "(LCallMarket$Order;LCallMarket$Order;)V"⟩, prog_6_method_9_code, 3, none)
abbrev mC_tradeWithShown : xM := (⟨"CallMarket", "tradeWithShown", "(LCallMarket$Order;LCallMarket$Order;LCallMarket$Side;)V"⟩, prog_1_method_34_code, 5, none)
abbrev mM_min : xM := (⟨"java/lang/Math", "min", "(II)I"⟩, prog_10_method_69_code, 2, some .int)
abbrev mC_exchange : xM := (⟨"CallMarket", "exchange", "(LCallMarket$Order;LCallMarket$Order;II)V"⟩, prog_1_method_37_code, 5, none)
abbrev mA_enter : xM := (⟨"CallMarket$Account", "enter", "(III)V"⟩, prog_2_method_2_code, 4, none)
abbrev mT_write : xM := (⟨"CallMarket$Tape", "write", "(IIII)V"⟩, prog_7_method_2_code, 6, none)
abbrev mO_showAnew : xM := (⟨"CallMarket$Order", "showAnew", "()V"⟩, prog_4_method_3_code, 1, none)
abbrev mD_join : xM := (⟨"CallMarket$Side", "join", "(LCallMarket$Order;)V"⟩, prog_6_method_2_code, 4, none)
abbrev mD_isBetter : xM := (⟨"CallMarket$Side", "isBetter", "(LCallMarket$Order;LCallMarket$Order;)Z"⟩, prog_6_method_8_code, 2, some .boolean)
abbrev mC_cancel : xM := (⟨"CallMarket", "cancel", "(II)Z"⟩, prog_1_method_4_code, 4, some .boolean)
abbrev mC_findResting : xM := (⟨"CallMarket", "findResting", "(II)LCallMarket$Order;"⟩, prog_1_method_29_code, 4, some (.object "CallMarket$Order"))
abbrev mC_find : xM := (⟨"CallMarket", "find", "(I)LCallMarket$Order;"⟩, prog_1_method_28_code, 2, some (.object "CallMarket$Order"))
abbrev mC_amend : xM := (⟨"CallMarket", "amend", "(III)I"⟩, prog_1_method_5_code, 5, some .int)
abbrev mC_open : xM := (⟨"CallMarket", "open", "(I)I"⟩, prog_1_method_6_code, 4, some .int)
abbrev mS_findCallPrice : xM := (⟨"CallMarket$Scale", "findCallPrice", "(LCallMarket$Book;)I"⟩, prog_5_method_2_code, 7, some .int)
abbrev mS_weigh : xM := (⟨"CallMarket$Scale", "weigh", "(LCallMarket$Book;)V"⟩, prog_5_method_5_code, 3, none)
abbrev mY_fill : xM := (⟨"java/util/Arrays", "fill", "([II)V"⟩, prog_11_method_103_code, 4, none)
abbrev mS_volumeAt : xM := (⟨"CallMarket$Scale", "volumeAt", "(I)I"⟩, prog_5_method_3_code, 2, some .int)
abbrev mS_surplusAt : xM := (⟨"CallMarket$Scale", "surplusAt", "(I)I"⟩, prog_5_method_4_code, 2, some .int)
abbrev mS_choose : xM := (⟨"CallMarket$Scale", "choose", "(III)I"⟩, prog_5_method_6_code, 11, some .int)
abbrev mC_tradeAll : xM := (⟨"CallMarket", "tradeAll", "(LCallMarket$Book;I)I"⟩, prog_1_method_35_code, 8, some .int)
abbrev mC_keepOrFill : xM := (⟨"CallMarket", "keepOrFill", "(LCallMarket$Order;)V"⟩, prog_1_method_36_code, 2, none)
abbrev mC_close : xM := (⟨"CallMarket", "close", "(I)I"⟩, prog_1_method_7_code, 2, some .int)
abbrev mC_indication : xM := (⟨"CallMarket", "indication", "(II)I"⟩, prog_1_method_8_code, 4, some .int)
abbrev mC_best : xM := (⟨"CallMarket", "best", "(II)I"⟩, prog_1_method_9_code, 4, some .int)
abbrev mC_isSide : xM := (⟨"CallMarket", "isSide", "(I)Z"⟩, prog_1_method_24_code, 1, some .boolean)
abbrev mC_depth : xM := (⟨"CallMarket", "depth", "(III)I"⟩, prog_1_method_10_code, 4, some .int)
abbrev mD_shownInQueue : xM := (⟨"CallMarket$Side", "shownInQueue", "(ILCallMarket$Order;)I"⟩, prog_6_method_6_code, 5, some .int)
abbrev mC_ahead : xM := (⟨"CallMarket", "ahead", "(I)I"⟩, prog_1_method_11_code, 3, some .int)
abbrev mC_left : xM := (⟨"CallMarket", "left", "(I)I"⟩, prog_1_method_12_code, 3, some .int)
abbrev mC_state : xM := (⟨"CallMarket", "state", "(I)I"⟩, prog_1_method_13_code, 3, some .int)
abbrev mC_trades : xM := (⟨"CallMarket", "trades", "()I"⟩, prog_1_method_14_code, 1, some .int)
abbrev mC_trade : xM := (⟨"CallMarket", "trade", "(II)I"⟩, prog_1_method_15_code, 3, some .int)
abbrev mT_holds : xM := (⟨"CallMarket$Tape", "holds", "(I)Z"⟩, prog_7_method_3_code, 2, some .boolean)
abbrev mT_read : xM := (⟨"CallMarket$Tape", "read", "(II)I"⟩, prog_7_method_4_code, 3, some .int)
abbrev mC_position : xM := (⟨"CallMarket", "position", "(II)I"⟩, prog_1_method_16_code, 3, some .int)
abbrev mC_money : xM := (⟨"CallMarket", "money", "(I)J"⟩, prog_1_method_17_code, 2, some .long)
abbrev mC_owed : xM := (⟨"CallMarket", "owed", "(I)J"⟩, prog_1_method_18_code, 2, some .long)
abbrev mC_risk : xM := (⟨"CallMarket", "risk", "(I)J"⟩, prog_1_method_19_code, 2, some .long)
abbrev mC_settle : xM := (⟨"CallMarket", "settle", "()I"⟩, prog_1_method_20_code, 4, some .int)
abbrev mB_endDay : xM := (⟨"CallMarket$Book", "endDay", "()V"⟩, prog_3_method_5_code, 1, none)
abbrev mD_withdrawAll : xM := (⟨"CallMarket$Side", "withdrawAll", "()V"⟩, prog_6_method_7_code, 2, none)
abbrev mR_init : xM := (⟨"CallMarketModel", "<init>", "()V"⟩, prog_9_method_1_code, 1, none)
abbrev mR_deposit : xM := (⟨"CallMarketModel", "deposit", "(II)Z"⟩, prog_9_method_14_code, 3, some .boolean)
abbrev mR_noMember : xM := (⟨"CallMarketModel", "noMember", "(I)Z"⟩, prog_9_method_13_code, 1, some .boolean)
abbrev mR_outside : xM := (⟨"CallMarketModel", "outside", "(III)Z"⟩, prog_9_method_2_code, 3, some .boolean)
abbrev mR_riskWith : xM := (⟨"CallMarketModel", "riskWith", "(IIII)J"⟩, prog_9_method_12_code, 16, some .long)
abbrev mR_size : xM := (⟨"CallMarketModel", "size", "(J)J"⟩, prog_9_method_11_code, 2, some .long)
abbrev mR_place : xM := (⟨"CallMarketModel", "place", "(IIIII)I"⟩, prog_9_method_16_code, 10, some .int)
abbrev mR_unfit : xM := (⟨"CallMarketModel", "unfit", "(IIIIII)Z"⟩, prog_9_method_15_code, 10, some .boolean)
abbrev mR_waits : xM := (⟨"CallMarketModel", "waits", "(III)Z"⟩, prog_9_method_3_code, 4, some .boolean)
abbrev mR_good : xM := (⟨"CallMarketModel", "good", "(IIII)Z"⟩, prog_9_method_7_code, 4, some .boolean)
abbrev mR_meet : xM := (⟨"CallMarketModel", "meet", "(I)Z"⟩, prog_9_method_10_code, 4, some .boolean)
abbrev mR_front : xM := (⟨"CallMarketModel", "front", "(II)I"⟩, prog_9_method_6_code, 5, some .int)
abbrev mR_better : xM := (⟨"CallMarketModel", "better", "(III)Z"⟩, prog_9_method_5_code, 3, some .boolean)
abbrev mR_shows : xM := (⟨"CallMarketModel", "shows", "(I)I"⟩, prog_9_method_4_code, 2, some .int)
abbrev mR_swap : xM := (⟨"CallMarketModel", "swap", "(IIII)V"⟩, prog_9_method_9_code, 9, none)
abbrev mR_queue : xM := (⟨"CallMarketModel", "queue", "(I)V"⟩, prog_9_method_8_code, 2, none)
abbrev mR_cancel : xM := (⟨"CallMarketModel", "cancel", "(II)Z"⟩, prog_9_method_18_code, 3, some .boolean)
abbrev mR_isResting : xM := (⟨"CallMarketModel", "isResting", "(I)Z"⟩, prog_9_method_17_code, 2, some .boolean)
abbrev mR_amend : xM := (⟨"CallMarketModel", "amend", "(III)I"⟩, prog_9_method_19_code, 4, some .int)
abbrev mR_open : xM := (⟨"CallMarketModel", "open", "(I)I"⟩, prog_9_method_23_code, 6, some .int)
abbrev mR_look : xM := (⟨"CallMarketModel", "look", "(I)V"⟩, prog_9_method_22_code, 12, none)
abbrev mR_willing : xM := (⟨"CallMarketModel", "willing", "(III)I"⟩, prog_9_method_20_code, 6, some .int)
abbrev mR_distance : xM := (⟨"CallMarketModel", "distance", "(II)I"⟩, prog_9_method_21_code, 2, some .int)
abbrev mR_after : xM := (⟨"CallMarketModel", "after", "(I)V"⟩, prog_9_method_24_code, 2, none)
abbrev mR_close : xM := (⟨"CallMarketModel", "close", "(I)I"⟩, prog_9_method_25_code, 2, some .int)
abbrev mR_indication : xM := (⟨"CallMarketModel", "indication", "(II)I"⟩, prog_9_method_26_code, 3, some .int)
abbrev mR_best : xM := (⟨"CallMarketModel", "best", "(II)I"⟩, prog_9_method_27_code, 4, some .int)
abbrev mR_depth : xM := (⟨"CallMarketModel", "depth", "(III)I"⟩, prog_9_method_28_code, 6, some .int)
abbrev mR_ahead : xM := (⟨"CallMarketModel", "ahead", "(I)I"⟩, prog_9_method_29_code, 4, some .int)
abbrev mR_left : xM := (⟨"CallMarketModel", "left", "(I)I"⟩, prog_9_method_30_code, 2, some .int)
abbrev mR_state : xM := (⟨"CallMarketModel", "state", "(I)I"⟩, prog_9_method_31_code, 2, some .int)
abbrev mR_trades : xM := (⟨"CallMarketModel", "trades", "()I"⟩, prog_9_method_32_code, 1, some .int)
abbrev mR_trade : xM := (⟨"CallMarketModel", "trade", "(II)I"⟩, prog_9_method_33_code, 3, some .int)
abbrev mR_position : xM := (⟨"CallMarketModel", "position", "(II)I"⟩, prog_9_method_34_code, 3, some .int)
abbrev mR_money : xM := (⟨"CallMarketModel", "money", "(I)J"⟩, prog_9_method_35_code, 2, some .long)
abbrev mR_owed : xM := (⟨"CallMarketModel", "owed", "(I)J"⟩, prog_9_method_36_code, 2, some .long)
abbrev mR_risk : xM := (⟨"CallMarketModel", "risk", "(I)J"⟩, prog_9_method_37_code, 2, some .long)
abbrev mR_settle : xM := (⟨"CallMarketModel", "settle", "()I"⟩, prog_9_method_38_code, 3, some .int)
def xNs : List (String × Nat × MethodName × String) := [("CallMarket$Book", 11, ⟨"CallMarket$Side", "<init>", "()V"⟩, "CallMarket"), ("CallMarket$Order", 31, ⟨"CallMarket", "sideOf", "(I)I"⟩, "CallMarket"), ("CallMarket$Order", 38, ⟨"CallMarket", "kindOf", "(I)I"⟩, "CallMarket"), ("CallMarket", 29, ⟨"CallMarket$Tape", "<init>", "()V"⟩, "CallMarket"), ("CallMarket", 36, ⟨"CallMarket$Scale", "<init>", "()V"⟩, "CallMarket"), ("CallMarket", 45, ⟨"CallMarket$Account", "<init>", "()V"⟩, "CallMarket"), ("CallMarket", 46, ⟨"CallMarket$Book", "<init>", "()V"⟩, "CallMarket")]
abbrev mL_law : xM := (⟨"CallMarketLaw", "law", "([I)Z"⟩, code, 4, ret)

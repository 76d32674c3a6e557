/-- the good words of the tables: every contract holds them -/
def TG : List Cond := lw_tbl.filter goodWord
theorem tgT {w : Cond} (h : w ∈ tables_1) (g : goodWord w = true) : w ∈ TG := List.mem_filter.mpr ⟨List.mem_append_right _ h, g⟩
theorem tgS {q : MethodName × Nat} (h : q ∈ lw_privs) : Cond.selects q.1.cls q.1 q.1 ∈ TG := List.mem_filter.mpr ⟨List.mem_append_left _ (List.mem_map.mpr ⟨q, h, rfl⟩), rfl⟩
theorem tg_1 {w : Cond} (i : Nat) (h : tables_1_1[i]? = some w) (g : goodWord w = true) : w ∈ TG := tgT (List.mem_append_left _ (List.mem_of_getElem? h)) g
theorem tb_1 {w : Cond} (i : Nat) (h : tables_1_1[i]? = some w) : w ∈ tables_1 := List.mem_append_left _ (List.mem_of_getElem? h)
theorem tg_2 {w : Cond} (i : Nat) (h : tables_1_2[i]? = some w) (g : goodWord w = true) : w ∈ TG := tgT (List.mem_append_right _ (List.mem_append_left _ (List.mem_of_getElem? h))) g
theorem tb_2 {w : Cond} (i : Nat) (h : tables_1_2[i]? = some w) : w ∈ tables_1 := List.mem_append_right _ (List.mem_append_left _ (List.mem_of_getElem? h))
theorem tg_3 {w : Cond} (i : Nat) (h : tables_1_3[i]? = some w) (g : goodWord w = true) : w ∈ TG := tgT (List.mem_append_right _ (List.mem_append_right _ (List.mem_append_left _ (List.mem_of_getElem? h)))) g
theorem tb_3 {w : Cond} (i : Nat) (h : tables_1_3[i]? = some w) : w ∈ tables_1 := List.mem_append_right _ (List.mem_append_right _ (List.mem_append_left _ (List.mem_of_getElem? h)))
theorem tg_4 {w : Cond} (i : Nat) (h : tables_1_4[i]? = some w) (g : goodWord w = true) : w ∈ TG := tgT (List.mem_append_right _ (List.mem_append_right _ (List.mem_append_right _ (List.mem_append_left _ (List.mem_of_getElem? h))))) g
theorem tb_4 {w : Cond} (i : Nat) (h : tables_1_4[i]? = some w) : w ∈ tables_1 := List.mem_append_right _ (List.mem_append_right _ (List.mem_append_right _ (List.mem_append_left _ (List.mem_of_getElem? h))))
theorem tg_5 {w : Cond} (i : Nat) (h : tables_1_5[i]? = some w) (g : goodWord w = true) : w ∈ TG := tgT (List.mem_append_right _ (List.mem_append_right _ (List.mem_append_right _ (List.mem_append_right _ (List.mem_append_left _ (List.mem_of_getElem? h)))))) g
theorem tb_5 {w : Cond} (i : Nat) (h : tables_1_5[i]? = some w) : w ∈ tables_1 := List.mem_append_right _ (List.mem_append_right _ (List.mem_append_right _ (List.mem_append_right _ (List.mem_append_left _ (List.mem_of_getElem? h)))))
theorem tg_6 {w : Cond} (i : Nat) (h : tables_1_6[i]? = some w) (g : goodWord w = true) : w ∈ TG := tgT (List.mem_append_right _ (List.mem_append_right _ (List.mem_append_right _ (List.mem_append_right _ (List.mem_append_right _ (List.mem_append_left _ (List.mem_of_getElem? h))))))) g
theorem tb_6 {w : Cond} (i : Nat) (h : tables_1_6[i]? = some w) : w ∈ tables_1 := List.mem_append_right _ (List.mem_append_right _ (List.mem_append_right _ (List.mem_append_right _ (List.mem_append_right _ (List.mem_append_left _ (List.mem_of_getElem? h))))))
theorem tg_7 {w : Cond} (i : Nat) (h : tables_1_7[i]? = some w) (g : goodWord w = true) : w ∈ TG := tgT (List.mem_append_right _ (List.mem_append_right _ (List.mem_append_right _ (List.mem_append_right _ (List.mem_append_right _ (List.mem_append_right _ (List.mem_of_getElem? h))))))) g
theorem tb_7 {w : Cond} (i : Nat) (h : tables_1_7[i]? = some w) : w ∈ tables_1 := List.mem_append_right _ (List.mem_append_right _ (List.mem_append_right _ (List.mem_append_right _ (List.mem_append_right _ (List.mem_append_right _ (List.mem_of_getElem? h))))))
def cnt : Nat → Nat := fun t => match t with
  | 0 => 1
  | 1 => 9
  | 2 => 9
  | 3 => 144
  | 4 => 108
  | 5 => 45
  | 6 => 54
  | 7 => 9
  | 8 => 9
  | 9 => 9
  | 10 => 9
  | 11 => 9
  | 12 => 1
  | 13 => 1
  | 14 => 1
  | 15 => 1
  | 16 => 1
  | 17 => 1
  | 18 => 1
  | 19 => 1
  | 20 => 12
  | _ => 0
def kO : Nat → Option (Nat × Nat) := fun t => match t with
  | 0 => some (9, 4)
  | 1 => some (8, 11)
  | 2 => some (6, 7)
  | 3 => some (2, 8)
  | 4 => some (7, 4)
  | 5 => some (0, 2)
  | 6 => some (5, 8)
  | 12 => some (3, 6)
  | 16 => some (1, 2)
  | 17 => some (4, 6)
  | _ => none
def kL : Nat → Nat := fun t => match t with
  | 7 => 16
  | 8 => 12
  | 9 => 5
  | 10 => 6
  | 11 => 16
  | 13 => 6
  | 14 => 2
  | 15 => 2
  | 18 => 60
  | 19 => 4
  | _ => 0
def kE : Nat → Option FieldType := fun t => match t with
  | 7 => some (.object "BondWarehouse$Entry")
  | 8 => some (.object "BondWarehouse$Receipt")
  | 9 => some (.object "BondWarehouse$Chamber")
  | 10 => some (.object "BondWarehouse$KindAccount")
  | 11 => some .int
  | 13 => some (.object "BondWarehouse$State")
  | 14 => some (.object "BondWarehouse$State")
  | 15 => some .boolean
  | 18 => some .int
  | 19 => some .int
  | _ => none
def kA : Nat → Option Nat := fun t => match t with
  | 7 => some 4
  | 8 => some 5
  | 9 => some 6
  | 10 => some 7
  | 11 => some 0
  | 13 => some 2
  | 14 => some 2
  | 15 => some 0
  | 18 => some 0
  | 19 => some 0
  | _ => none
def kF : Nat → Nat → Nat := fun t => match t with
  | 0 => fun f => match f with | 0 => 2 | 1 => 13 | 2 => 17 | 3 => 18 | _ => 0
  | 1 => fun f => match f with | 5 => 3 | 6 => 8 | 7 => 9 | 8 => 10 | 9 => 11 | 10 => 12 | _ => 0
  | 12 => fun f => match f with | 0 => 14 | 3 => 15 | 4 => 16 | _ => 0
  | 16 => fun f => match f with | 0 => 2 | 1 => 13 | _ => 0
  | 17 => fun f => match f with | 0 => 19 | 3 => 21 | 5 => 20 | _ => 0
  | _ => fun _ => 0
def kT : Nat → Nat → Nat := fun t f => match kA t with
  | some k => k
  | none => kF t f
/-- the references that no method changes behind the constructors -/
def kCf : Nat → Nat → Nat → Option Nat := fun t i => match t with
  | 0 => fun f => match f with | 0 => some 1 | 1 => some 1 | 2 => some 1 | 3 => some 1 | _ => none
  | 1 => fun f => match f with | 5 => some i | 6 => some i | 7 => some i | 8 => some i | 9 => some i | 10 => some i | _ => none
  | 12 => fun f => match f with | 0 => some 1 | 3 => some 1 | 4 => some 1 | _ => none
  | 16 => fun f => match f with | 0 => some 1 | 1 => some 1 | _ => none
  | 17 => fun f => match f with | 0 => some 1 | 5 => some 1 | _ => none
  | 9 => fun j => some (5 * (i - 1) + j + 1)
  | 10 => fun j => some (6 * (i - 1) + j + 1)
  | 13 => fun j => some (j + 2)
  | 14 => fun j => some (j + 8)
  | _ => fun _ => none
def kC (dy : Bool) (t i f : Nat) : Option Nat := match dy with
  | true => none
  | false => kCf t i f
def nestF : List (String × Nat × String × String × String) := [("BondWarehouse$Deeds", 233, "BondWarehouse$Money", "bond", "I"), ("BondWarehouse$State", 170, "BondWarehouse$Money", "bond", "I"), ("BondWarehouse", 231, "BondWarehouse$Money", "bond", "I"), ("BondWarehouse$Deeds", 225, "BondWarehouse$Money", "account", "I"), ("BondWarehouse$State", 176, "BondWarehouse$Money", "account", "I"), ("BondWarehouse", 236, "BondWarehouse$Money", "account", "I"), ("BondWarehouse$State", 153, "BondWarehouse$Money", "debt", "I"), ("BondWarehouse", 239, "BondWarehouse$Money", "debt", "I"), ("BondWarehouse", 242, "BondWarehouse$Money", "deposits", "I"), ("BondWarehouse", 248, "BondWarehouse$Money", "dutiesPaid", "I"), ("BondWarehouse", 251, "BondWarehouse$Money", "charges", "I"), ("BondWarehouse", 245, "BondWarehouse$Money", "drawbacks", "I"), ("BondWarehouse$Deeds", 76, "BondWarehouse$Entry", "number", "I"), ("BondWarehouse$State", 90, "BondWarehouse$Entry", "number", "I"), ("BondWarehouse", 122, "BondWarehouse$Entry", "number", "I"), ("BondWarehouse$Deeds", 39, "BondWarehouse$Entry", "kind", "I"), ("BondWarehouse$State", 113, "BondWarehouse$Entry", "kind", "I"), ("BondWarehouse", 130, "BondWarehouse$Entry", "kind", "I"), ("BondWarehouse$Deeds", 45, "BondWarehouse$Entry", "weight", "I"), ("BondWarehouse$State", 97, "BondWarehouse$Entry", "weight", "I"), ("BondWarehouse", 133, "BondWarehouse$Entry", "weight", "I"), ("BondWarehouse$Deeds", 48, "BondWarehouse$Entry", "value", "I"), ("BondWarehouse$State", 124, "BondWarehouse$Entry", "value", "I"), ("BondWarehouse", 136, "BondWarehouse$Entry", "value", "I"), ("BondWarehouse$Deeds", 51, "BondWarehouse$Entry", "chamber", "I"), ("BondWarehouse$State", 150, "BondWarehouse$Entry", "chamber", "I"), ("BondWarehouse", 139, "BondWarehouse$Entry", "chamber", "I"), ("BondWarehouse$Deeds", 57, "BondWarehouse$Entry", "dayEntered", "I"), ("BondWarehouse$State", 106, "BondWarehouse$Entry", "dayEntered", "I"), ("BondWarehouse$Deeds", 60, "BondWarehouse$Entry", "dayWeighed", "I"), ("BondWarehouse$State", 131, "BondWarehouse$Entry", "dayWeighed", "I"), ("BondWarehouse$Deeds", 63, "BondWarehouse$Entry", "proved", "Z"), ("BondWarehouse$State", 146, "BondWarehouse$Entry", "proved", "Z"), ("BondWarehouse", 146, "BondWarehouse$Entry", "proved", "Z"), ("BondWarehouse$Deeds", 108, "BondWarehouse$Receipt", "kind", "I"), ("BondWarehouse", 205, "BondWarehouse$Receipt", "kind", "I"), ("BondWarehouse$Deeds", 111, "BondWarehouse$Receipt", "weight", "I"), ("BondWarehouse$State", 186, "BondWarehouse$Receipt", "weight", "I"), ("BondWarehouse", 208, "BondWarehouse$Receipt", "weight", "I"), ("BondWarehouse$Deeds", 112, "BondWarehouse$Receipt", "duty", "I"), ("BondWarehouse", 209, "BondWarehouse$Receipt", "duty", "I"), ("BondWarehouse$Deeds", 115, "BondWarehouse$Receipt", "dayMade", "I"), ("BondWarehouse$State", 183, "BondWarehouse$Receipt", "dayMade", "I"), ("BondWarehouse", 212, "BondWarehouse$Receipt", "dayMade", "I"), ("BondWarehouse$Deeds", 205, "BondWarehouse$Chamber", "seal", "I"), ("BondWarehouse", 182, "BondWarehouse$Chamber", "seal", "I"), ("BondWarehouse$Deeds", 215, "BondWarehouse$Chamber", "broken", "Z"), ("BondWarehouse", 185, "BondWarehouse$Chamber", "broken", "Z"), ("BondWarehouse$State", 49, "BondWarehouse", "FIRST_RATES_BY_VALUE", "[I"), ("BondWarehouse$State", 52, "BondWarehouse", "FIRST_RATES_BY_WEIGHT", "[I"), ("BondWarehouse$Deeds", 236, "BondWarehouse$KindAccount", "byValue", "I"), ("BondWarehouse", 219, "BondWarehouse$KindAccount", "byValue", "I"), ("BondWarehouse$Deeds", 239, "BondWarehouse$KindAccount", "byWeight", "I"), ("BondWarehouse", 224, "BondWarehouse$KindAccount", "byWeight", "I"), ("BondWarehouse$Deeds", 71, "BondWarehouse$KindAccount", "entered", "I"), ("BondWarehouse", 254, "BondWarehouse$KindAccount", "entered", "I"), ("BondWarehouse$Deeds", 118, "BondWarehouse$KindAccount", "withdrawn", "I"), ("BondWarehouse", 257, "BondWarehouse$KindAccount", "withdrawn", "I"), ("BondWarehouse$Deeds", 131, "BondWarehouse$KindAccount", "sentAbroad", "I"), ("BondWarehouse", 260, "BondWarehouse$KindAccount", "sentAbroad", "I"), ("BondWarehouse$Deeds", 199, "BondWarehouse$KindAccount", "wasted", "I"), ("BondWarehouse", 263, "BondWarehouse$KindAccount", "wasted", "I"), ("BondWarehouse$Deeds", 196, "BondWarehouse$KindAccount", "lost", "I"), ("BondWarehouse", 266, "BondWarehouse$KindAccount", "lost", "I"), ("BondWarehouse$Deeds", 152, "BondWarehouse$KindAccount", "drawnBack", "I"), ("BondWarehouse", 269, "BondWarehouse$KindAccount", "drawnBack", "I"), ("BondWarehouse$Deeds", 54, "BondWarehouse$State", "day", "I"), ("BondWarehouse", 93, "BondWarehouse$State", "day", "I"), ("BondWarehouse$Deeds", 208, "BondWarehouse$State", "openCount", "I"), ("BondWarehouse", 97, "BondWarehouse$State", "openCount", "I"), ("BondWarehouse", 100, "BondWarehouse$State", "made", "I"), ("BondWarehouse$Deeds", 202, "BondWarehouse$State", "sealsPut", "I"), ("BondWarehouse", 198, "BondWarehouse$State", "receiptCount", "I"), ("BondWarehouse$Deeds", 94, "BondWarehouse$State", "money", "LBondWarehouse$Money;"), ("BondWarehouse", 227, "BondWarehouse$State", "money", "LBondWarehouse$Money;"), ("BondWarehouse$Deeds", 211, "BondWarehouse$State", "entries", "[LBondWarehouse$Entry;"), ("BondWarehouse", 118, "BondWarehouse$State", "entries", "[LBondWarehouse$Entry;"), ("BondWarehouse$Deeds", 161, "BondWarehouse$State", "chambers", "[LBondWarehouse$Chamber;"), ("BondWarehouse", 431, "BondWarehouse$State", "chambers", "[LBondWarehouse$Chamber;"), ("BondWarehouse$Deeds", 67, "BondWarehouse$State", "kinds", "[LBondWarehouse$KindAccount;"), ("BondWarehouse", 435, "BondWarehouse$State", "kinds", "[LBondWarehouse$KindAccount;"), ("BondWarehouse", 388, "BondWarehouse$History", "count", "I"), ("BondWarehouse", 409, "BondWarehouse$History", "slots", "[LBondWarehouse$State;"), ("BondWarehouse", 403, "BondWarehouse$History", "isFilled", "[Z"), ("BondWarehouse", 361, "BondWarehouse$History", "paused", "Z"), ("BondWarehouse", 367, "BondWarehouse$Journal", "codes", "[I"), ("BondWarehouse", 335, "BondWarehouse$Journal", "length", "I"), ("BondWarehouse", 378, "BondWarehouse$Journal", "letter", "I"), ("BondWarehouse", 381, "BondWarehouse$Journal", "numbers", "[I"), ("BondWarehouse$State", 134, "BondWarehouse", "WASTE_RATES", "[I")]
def nestM : List (String × Nat × MethodName) := [("BondWarehouse", 9, ⟨"BondWarehouse$State", "<init>", "()V"⟩), ("BondWarehouse$State", 11, ⟨"BondWarehouse$Money", "<init>", "()V"⟩), ("BondWarehouse$State", 46, ⟨"BondWarehouse$Entry", "<init>", "()V"⟩), ("BondWarehouse$State", 47, ⟨"BondWarehouse$Receipt", "<init>", "()V"⟩), ("BondWarehouse$State", 48, ⟨"BondWarehouse$Chamber", "<init>", "()V"⟩), ("BondWarehouse$State", 55, ⟨"BondWarehouse$KindAccount", "<init>", "(II)V"⟩), ("BondWarehouse", 18, ⟨"BondWarehouse$History", "<init>", "()V"⟩), ("BondWarehouse$History", 24, ⟨"BondWarehouse$State", "<init>", "()V"⟩), ("BondWarehouse", 25, ⟨"BondWarehouse$Deeds", "<init>", "(LBondWarehouse$State;LBondWarehouse$History;)V"⟩), ("BondWarehouse", 34, ⟨"BondWarehouse$Journal", "<init>", "()V"⟩), ("BondWarehouse", 39, ⟨"BondWarehouse$Deeds", "bringIn", "(IIII)I"⟩), ("BondWarehouse$Deeds", 19, ⟨"BondWarehouse", "areGoods", "(IIII)Z"⟩), ("BondWarehouse$Deeds", 23, ⟨"BondWarehouse$State", "reasonAgainstEntry", "(IIII)I"⟩), ("BondWarehouse$State", 156, ⟨"BondWarehouse$Chamber", "isSealed", "()Z"⟩), ("BondWarehouse$State", 120, ⟨"BondWarehouse$KindAccount", "dutyOn", "(III)I"⟩), ("BondWarehouse$Deeds", 29, ⟨"BondWarehouse$History", "save", "(LBondWarehouse$State;)V"⟩), ("BondWarehouse$History", 36, ⟨"BondWarehouse$State", "copyFrom", "(LBondWarehouse$State;)V"⟩), ("BondWarehouse$State", 74, ⟨"BondWarehouse$Money", "copyFrom", "(LBondWarehouse$Money;)V"⟩), ("BondWarehouse$State", 78, ⟨"BondWarehouse$Entry", "copyFrom", "(LBondWarehouse$Entry;)V"⟩), ("BondWarehouse$State", 81, ⟨"BondWarehouse$Receipt", "copyFrom", "(LBondWarehouse$Receipt;)V"⟩), ("BondWarehouse$State", 84, ⟨"BondWarehouse$Chamber", "copyFrom", "(LBondWarehouse$Chamber;)V"⟩), ("BondWarehouse$State", 87, ⟨"BondWarehouse$KindAccount", "copyFrom", "(LBondWarehouse$KindAccount;)V"⟩), ("BondWarehouse$Deeds", 35, ⟨"BondWarehouse$State", "addEntry", "()LBondWarehouse$Entry;"⟩), ("BondWarehouse", 47, ⟨"BondWarehouse$Deeds", "takeIntoCountry", "(II)I"⟩), ("BondWarehouse$Deeds", 79, ⟨"BondWarehouse$State", "findEntry", "(I)LBondWarehouse$Entry;"⟩), ("BondWarehouse$Deeds", 83, ⟨"BondWarehouse", "isWithin", "(III)Z"⟩), ("BondWarehouse$Deeds", 87, ⟨"BondWarehouse$State", "reasonAgainstWithdrawal", "(LBondWarehouse$Entry;I)I"⟩), ("BondWarehouse$State", 116, ⟨"BondWarehouse$Entry", "shareOf", "(I)I"⟩), ("BondWarehouse$Deeds", 91, ⟨"BondWarehouse$State", "dutyNow", "(LBondWarehouse$Entry;I)I"⟩), ("BondWarehouse$Deeds", 98, ⟨"BondWarehouse$Money", "takeDuty", "(I)V"⟩), ("BondWarehouse$Deeds", 104, ⟨"BondWarehouse$State", "addReceipt", "()LBondWarehouse$Receipt;"⟩), ("BondWarehouse$Deeds", 121, ⟨"BondWarehouse$Entry", "losePart", "(I)V"⟩), ("BondWarehouse$Deeds", 124, ⟨"BondWarehouse$State", "closeIfEmpty", "(LBondWarehouse$Entry;)V"⟩), ("BondWarehouse", 51, ⟨"BondWarehouse$Deeds", "takeAbroad", "(II)I"⟩), ("BondWarehouse$Deeds", 128, ⟨"BondWarehouse$State", "reasonAgainstExport", "(LBondWarehouse$Entry;I)I"⟩), ("BondWarehouse", 54, ⟨"BondWarehouse$Deeds", "payBack", "(II)I"⟩), ("BondWarehouse$Deeds", 134, ⟨"BondWarehouse$State", "findReceipt", "(I)LBondWarehouse$Receipt;"⟩), ("BondWarehouse$State", 93, ⟨"BondWarehouse", "isWithin", "(III)Z"⟩), ("BondWarehouse$Deeds", 138, ⟨"BondWarehouse$State", "reasonAgainstDrawback", "(LBondWarehouse$Receipt;I)I"⟩), ("BondWarehouse$Deeds", 142, ⟨"BondWarehouse$Receipt", "dutyPart", "(I)I"⟩), ("BondWarehouse$Deeds", 146, ⟨"BondWarehouse", "paidBackOf", "(I)I"⟩), ("BondWarehouse$Deeds", 149, ⟨"BondWarehouse$Money", "giveDrawback", "(I)V"⟩), ("BondWarehouse", 57, ⟨"BondWarehouse$Deeds", "carryOver", "(II)I"⟩), ("BondWarehouse$Deeds", 155, ⟨"BondWarehouse$State", "reasonAgainstMove", "(LBondWarehouse$Entry;I)I"⟩), ("BondWarehouse$Deeds", 158, ⟨"BondWarehouse$State", "roomLeft", "(I)I"⟩), ("BondWarehouse", 60, ⟨"BondWarehouse$Deeds", "partOff", "(II)I"⟩), ("BondWarehouse$Deeds", 165, ⟨"BondWarehouse$Chamber", "isSealed", "()Z"⟩), ("BondWarehouse$Deeds", 171, ⟨"BondWarehouse$State", "hasPlace", "()Z"⟩), ("BondWarehouse$Deeds", 174, ⟨"BondWarehouse$Entry", "copyFrom", "(LBondWarehouse$Entry;)V"⟩), ("BondWarehouse$Deeds", 177, ⟨"BondWarehouse$Entry", "shareOf", "(I)I"⟩), ("BondWarehouse", 63, ⟨"BondWarehouse$Deeds", "join", "(II)I"⟩), ("BondWarehouse$Deeds", 180, ⟨"BondWarehouse$State", "canJoin", "(LBondWarehouse$Entry;LBondWarehouse$Entry;)Z"⟩), ("BondWarehouse$Deeds", 184, ⟨"BondWarehouse$Entry", "takeIn", "(LBondWarehouse$Entry;)V"⟩), ("BondWarehouse", 66, ⟨"BondWarehouse$Deeds", "putOnScales", "(II)I"⟩), ("BondWarehouse$Deeds", 187, ⟨"BondWarehouse$State", "lossIf", "(LBondWarehouse$Entry;I)I"⟩), ("BondWarehouse$Deeds", 190, ⟨"BondWarehouse$State", "chargeFor", "(LBondWarehouse$Entry;I)I"⟩), ("BondWarehouse$Deeds", 193, ⟨"BondWarehouse$Money", "takeCharge", "(I)V"⟩), ("BondWarehouse", 69, ⟨"BondWarehouse$Deeds", "putSeal", "(I)I"⟩), ("BondWarehouse", 72, ⟨"BondWarehouse$Deeds", "takeSealOff", "(I)I"⟩), ("BondWarehouse", 75, ⟨"BondWarehouse$Deeds", "damageSeal", "(I)I"⟩), ("BondWarehouse", 78, ⟨"BondWarehouse$Deeds", "payIn", "(I)I"⟩), ("BondWarehouse$Deeds", 218, ⟨"BondWarehouse$Money", "accountAfter", "(I)I"⟩), ("BondWarehouse$Deeds", 222, ⟨"BondWarehouse$Money", "takeDeposit", "(I)V"⟩), ("BondWarehouse", 81, ⟨"BondWarehouse$Deeds", "changeBond", "(I)I"⟩), ("BondWarehouse$Deeds", 229, ⟨"BondWarehouse$State", "stake", "()I"⟩), ("BondWarehouse", 84, ⟨"BondWarehouse$Deeds", "changeRateByValue", "(II)I"⟩), ("BondWarehouse", 87, ⟨"BondWarehouse$Deeds", "changeRateByWeight", "(II)I"⟩), ("BondWarehouse", 90, ⟨"BondWarehouse$Deeds", "letPass", "(I)I"⟩), ("BondWarehouse$Deeds", 245, ⟨"BondWarehouse$State", "isLate", "(LBondWarehouse$Entry;)Z"⟩), ("BondWarehouse", 103, ⟨"BondWarehouse$State", "findEntry", "(I)LBondWarehouse$Entry;"⟩), ("BondWarehouse", 142, ⟨"BondWarehouse$State", "ageNow", "(LBondWarehouse$Entry;)I"⟩), ("BondWarehouse", 158, ⟨"BondWarehouse$State", "dutyNow", "(LBondWarehouse$Entry;I)I"⟩), ("BondWarehouse", 162, ⟨"BondWarehouse$State", "wholeDuty", "(LBondWarehouse$Entry;I)I"⟩), ("BondWarehouse", 165, ⟨"BondWarehouse$State", "wasteAllowedNow", "(LBondWarehouse$Entry;)I"⟩), ("BondWarehouse", 192, ⟨"BondWarehouse$State", "countIn", "(I)I"⟩), ("BondWarehouse", 195, ⟨"BondWarehouse$State", "roomLeft", "(I)I"⟩), ("BondWarehouse", 426, ⟨"BondWarehouse$State", "findReceipt", "(I)LBondWarehouse$Receipt;"⟩), ("BondWarehouse", 272, ⟨"BondWarehouse$State", "stockOf", "(I)I"⟩), ("BondWarehouse", 287, ⟨"BondWarehouse$State", "reasonAgainstWithdrawal", "(LBondWarehouse$Entry;I)I"⟩), ("BondWarehouse", 290, ⟨"BondWarehouse$State", "reasonAgainstExport", "(LBondWarehouse$Entry;I)I"⟩), ("BondWarehouse", 293, ⟨"BondWarehouse$State", "reasonAgainstMove", "(LBondWarehouse$Entry;I)I"⟩), ("BondWarehouse", 296, ⟨"BondWarehouse$State", "reasonAgainstDrawback", "(LBondWarehouse$Receipt;I)I"⟩), ("BondWarehouse", 300, ⟨"BondWarehouse$State", "lossIf", "(LBondWarehouse$Entry;I)I"⟩), ("BondWarehouse", 303, ⟨"BondWarehouse$State", "chargeFor", "(LBondWarehouse$Entry;I)I"⟩), ("BondWarehouse", 306, ⟨"BondWarehouse$Receipt", "dutyPart", "(I)I"⟩), ("BondWarehouse", 323, ⟨"BondWarehouse$State", "tellDuties", "()V"⟩), ("BondWarehouse", 326, ⟨"BondWarehouse$State", "cheapestBehind", "(II)I"⟩), ("BondWarehouse", 320, ⟨"BondWarehouse$State", "numberAt", "(I)I"⟩), ("BondWarehouse", 329, ⟨"BondWarehouse$State", "dutyOfCheapest", "(II)I"⟩), ("BondWarehouse", 343, ⟨"BondWarehouse$Journal", "add", "(I)I"⟩), ("BondWarehouse", 352, ⟨"BondWarehouse$Journal", "isComplete", "()Z"⟩), ("BondWarehouse$Journal", 70, ⟨"BondWarehouse", "isWithin", "(III)Z"⟩), ("BondWarehouse", 357, ⟨"BondWarehouse$History", "save", "(LBondWarehouse$State;)V"⟩), ("BondWarehouse", 364, ⟨"BondWarehouse$Journal", "startLine", "()V"⟩), ("BondWarehouse", 371, ⟨"BondWarehouse$Journal", "reads", "(I)Z"⟩), ("BondWarehouse", 375, ⟨"BondWarehouse$Journal", "isLastOfLine", "(I)Z"⟩), ("BondWarehouse", 384, ⟨"BondWarehouse$Deeds", "carryOutLine", "(I[I)I"⟩), ("BondWarehouse", 346, ⟨"BondWarehouse$Journal", "wipe", "()I"⟩), ("BondWarehouse", 393, ⟨"BondWarehouse$History", "restoreLast", "(LBondWarehouse$State;)V"⟩), ("BondWarehouse", 399, ⟨"BondWarehouse$History", "fillSlot", "(ILBondWarehouse$State;)V"⟩), ("BondWarehouse", 413, ⟨"BondWarehouse$State", "copyFrom", "(LBondWarehouse$State;)V"⟩), ("BondWarehouse", 176, ⟨"BondWarehouse$Chamber", "isSealed", "()Z"⟩), ("BondWarehouse", 284, ⟨"BondWarehouse$State", "reasonAgainstEntry", "(IIII)I"⟩), ("BondWarehouse", 168, ⟨"BondWarehouse$State", "stake", "()I"⟩), ("BondWarehouse", 150, ⟨"BondWarehouse$State", "isLate", "(LBondWarehouse$Entry;)Z"⟩), ("BondWarehouse", 332, ⟨"BondWarehouse$State", "dearest", "()I"⟩), ("BondWarehouse", 317, ⟨"BondWarehouse$State", "nextLate", "()I"⟩)]
def scls : Nat → String := fun t => match t with
  | 1 => "BondWarehouse"
  | 2 => "BondWarehouse"
  | 3 => "BondWarehouse"
  | 4 => "BondWarehouse$Journal"
  | 5 => "BondWarehouse$Journal"
  | 6 => "BondWarehouse$Journal"
  | 7 => "BondWarehouse$Journal"
  | 8 => "BondWarehouse$Journal"
  | 9 => "BondWarehouse$Journal"
  | 10 => "BondWarehouse$Journal"
  | 11 => "BondWarehouse$Journal"
  | 12 => "BondWarehouse$Journal"
  | _ => ""
def snm : Nat → String := fun t => match t with
  | 1 => "FIRST_RATES_BY_VALUE"
  | 2 => "FIRST_RATES_BY_WEIGHT"
  | 3 => "WASTE_RATES"
  | 4 => "LEAST"
  | 5 => "MOST"
  | 6 => "GOODS"
  | 7 => "PART"
  | 8 => "WEIGHING"
  | 9 => "WAY"
  | 10 => "SEAL"
  | 11 => "MONEY"
  | 12 => "TIME"
  | _ => ""
def slen : Nat → Nat := fun t => match t with
  | 1 => 6
  | 2 => 6
  | 3 => 6
  | 4 => 8
  | 5 => 8
  | 6 => 4
  | 7 => 2
  | 8 => 2
  | 9 => 2
  | 10 => 1
  | 11 => 1
  | 12 => 1
  | _ => 0
def stl : Nat → List Int32 := fun t => match t with
  | 1 => [10, 20, 5, 0, 30, 15]
  | 2 => [0, 10, 25, 40, 0, 5]
  | 3 => [0, 5, 10, 2, 20, 0]
  | 4 => [0, 0, 0, 1, 0, 1, 1, 1]
  | 5 => [5, 4, 59, 999, 999, 9999, 9999, 100]
  | 6 => [0, 3, 5, 1]
  | 7 => [2, 3]
  | 8 => [2, 4]
  | 9 => [2, 1]
  | 10 => [1]
  | 11 => [6]
  | 12 => [7]
  | _ => []
def stv (r j : Nat) : Int32 := (stl r).getD j 0
abbrev vwCl : List vw_C := [(RX0, TX0, 2), (RX1, TX1, 2), (RX2, TX2, 8), (RX3, TX3, 6), (RX4, TX4, 6), (RX5, TX5, 8), (RX6, TX6, 7), (RX7, TX7, 4), (RX8, TX8, 11), (RX9, TX9, 4)]
